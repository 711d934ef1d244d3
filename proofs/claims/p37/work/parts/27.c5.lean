def tyX2 : Nat → FieldType := fun k => match k with
  | 0 => .object "UnlikeBoats$Book"
  | 1 => .array .int
  | 2 => .array .int
  | 3 => .array .int
  | 4 => .array .int
  | 5 => .array .int
  | 6 => .object "UnlikeBoats$Race"
  | 7 => .int
  | 8 => .char
  | _ => .int
theorem nmX2 : ∀ a, a < 10 → ∀ b, b < 10 → a ≠ b → (TX2 a).2.1 ≠ (TX2 b).2.1 := by decide +kernel
theorem tyX2_ok : ∀ k, k < 10 → parseFieldDescriptor (TX2 k).2.2.1 = some (tyX2 k) := by decide +kernel
def tyX8 : Nat → FieldType := fun k => match k with
  | 0 => .object "UnlikeBoats$Book"
  | 1 => .object "UnlikeBoats$Sheet"
  | 2 => .int
  | 3 => .array .int
  | 4 => .array .int
  | 5 => .array .boolean
  | 6 => .array .boolean
  | 7 => .array .int
  | 8 => .array .int
  | _ => .array .int
theorem nmX8 : ∀ a, a < 10 → ∀ b, b < 10 → a ≠ b → (TX8 a).2.1 ≠ (TX8 b).2.1 := by decide +kernel
theorem tyX8_ok : ∀ k, k < 10 → parseFieldDescriptor (TX8 k).2.2.1 = some (tyX8 k) := by decide +kernel
set_option maxRecDepth 100000 in
theorem zh_dX2_find_0_0 : zc cX2_find 0 [42, 43, 3, 29, 182, 0, 113, 153, 0, 13, 42, 43, 4, 29, 182, 0] = true := by decide +kernel
set_option maxRecDepth 100000 in
theorem zh_dX2_find_14_16 : zc cX2_find 16 [113, 154, 0, 5, 2, 172, 42, 42, 180, 0, 27, 180, 0, 40, 43, 180] = true := by decide +kernel
set_option maxRecDepth 100000 in
theorem zh_dX2_find_31_32 : zc cX2_find 32 [0, 46, 182, 0, 49, 192, 0, 55, 181, 0, 117, 42, 42, 180, 0, 27] = true := by decide +kernel
set_option maxRecDepth 100000 in
theorem zh_dX2_find_48_48 : zc cX2_find 48 [42, 180, 0, 117, 180, 0, 120, 29, 182, 0, 123, 181, 0, 126, 42, 28] = true := by decide +kernel
set_option maxRecDepth 100000 in
theorem zh_dX2_find_64_64 : zc cX2_find 64 [154, 0, 8, 16, 97, 167, 0, 5, 16, 98, 181, 0, 129, 42, 182, 0] = true := by decide +kernel
set_option maxRecDepth 100000 in
theorem zh_dX2_find_78_80 : zc cX2_find 80 [133, 3, 54, 4, 42, 180, 0, 9, 3, 46, 54, 5, 21, 5, 42, 180] = true := by decide +kernel
set_option maxRecDepth 100000 in
theorem zh_dX2_find_95_96 : zc cX2_find 96 [0, 15, 3, 46, 163, 0, 59, 21, 4, 6, 159, 0, 53, 42, 180, 0] = true := by decide +kernel
set_option maxRecDepth 100000 in
theorem zh_dX2_find_110_112 : zc cX2_find 112 [18, 3, 46, 54, 6, 21, 6, 42, 180, 0, 21, 3, 46, 163, 0, 28] = true := by decide +kernel
set_option maxRecDepth 100000 in
theorem zh_dX2_find_128_128 : zc cX2_find 128 [21, 4, 6, 159, 0, 22, 21, 4, 42, 21, 5, 21, 6, 182, 0, 136] = true := by decide +kernel
set_option maxRecDepth 100000 in
theorem zh_dX2_find_144_144 : zc cX2_find 144 [128, 54, 4, 132, 6, 1, 167, 255, 223, 132, 5, 1, 167, 255, 192, 21] = true := by decide +kernel
set_option maxRecDepth 100000 in
theorem zh_dX2_find_159_160 : zc cX2_find 160 [4, 6, 160, 0, 7, 5, 167, 0, 14, 21, 4, 5, 160, 0, 7, 4] = true := by decide +kernel
set_option maxRecDepth 100000 in
theorem zh_dX2_find_176_176 : zc cX2_find 176 [167, 0, 4, 3, 172] = true := by decide +kernel
set_option maxRecDepth 100000 in
theorem zh_dX2_gatherTacks_0_0 : zc cX2_gatherTacks 0 [42, 3, 181, 0, 139, 3, 60, 27, 16, 8, 162, 0, 89, 3, 61, 28] = true := by decide +kernel
set_option maxRecDepth 100000 in
theorem zh_dX2_gatherTacks_16_16 : zc cX2_gatherTacks 16 [16, 8, 162, 0, 75, 42, 180, 0, 24, 3, 46, 27, 122, 4, 126, 153] = true := by decide +kernel
set_option maxRecDepth 100000 in
theorem zh_dX2_gatherTacks_31_32 : zc cX2_gatherTacks 32 [0, 56, 42, 180, 0, 24, 4, 46, 28, 122, 4, 126, 154, 0, 6, 167] = true := by decide +kernel
set_option maxRecDepth 100000 in
theorem zh_dX2_gatherTacks_47_48 : zc cX2_gatherTacks 48 [0, 40, 42, 89, 180, 0, 139, 4, 7, 42, 27, 182, 0, 142, 104, 5] = true := by decide +kernel
set_option maxRecDepth 100000 in
theorem zh_dX2_gatherTacks_64_64 : zc cX2_gatherTacks 64 [42, 28, 182, 0, 142, 104, 96, 27, 28, 160, 0, 7, 4, 167, 0, 4] = true := by decide +kernel
set_option maxRecDepth 100000 in
theorem zh_dX2_gatherTacks_80_80 : zc cX2_gatherTacks 80 [3, 96, 120, 128, 181, 0, 139, 132, 2, 1, 167, 255, 181, 132, 1, 1] = true := by decide +kernel
set_option maxRecDepth 100000 in
theorem zh_dX2_gatherTacks_96_96 : zc cX2_gatherTacks 96 [167, 255, 167, 177] = true := by decide +kernel
set_option maxRecDepth 100000 in
theorem zh_dX2_starboard_0_0 : zc cX2_starboard 0 [27, 42, 180, 0, 117, 180, 0, 145, 100, 16, 8, 96, 16, 8, 112, 8] = true := by decide +kernel
set_option maxRecDepth 100000 in
theorem zh_dX2_starboard_16_16 : zc cX2_starboard 16 [161, 0, 7, 4, 167, 0, 4, 3, 172] = true := by decide +kernel
set_option maxRecDepth 100000 in
theorem zh_dX2_faultsFrom_0_0 : zc cX2_faultsFrom 0 [3, 62, 42, 180, 0, 9, 4, 46, 54, 4, 21, 4, 42, 180, 0, 15] = true := by decide +kernel
set_option maxRecDepth 100000 in
theorem zh_dX2_faultsFrom_16_16 : zc cX2_faultsFrom 16 [4, 46, 163, 0, 191, 29, 6, 159, 0, 186, 42, 180, 0, 18, 4, 46] = true := by decide +kernel
set_option maxRecDepth 100000 in
theorem zh_dX2_faultsFrom_32_32 : zc cX2_faultsFrom 32 [54, 5, 21, 5, 42, 180, 0, 21, 4, 46, 163, 0, 161, 29, 6, 159] = true := by decide +kernel
set_option maxRecDepth 100000 in
theorem zh_dX2_faultsFrom_47_48 : zc cX2_faultsFrom 48 [0, 156, 42, 180, 0, 27, 182, 0, 148, 27, 21, 4, 100, 178, 0, 151] = true := by decide +kernel
set_option maxRecDepth 100000 in
theorem zh_dX2_faultsFrom_64_64 : zc cX2_faultsFrom 64 [42, 180, 0, 117, 180, 0, 145, 46, 104, 28, 21, 5, 100, 178, 0, 154] = true := by decide +kernel
set_option maxRecDepth 100000 in
theorem zh_dX2_faultsFrom_80_80 : zc cX2_faultsFrom 80 [42, 180, 0, 117, 180, 0, 145, 46, 104, 96, 54, 6, 42, 180, 0, 27] = true := by decide +kernel
set_option maxRecDepth 100000 in
theorem zh_dX2_faultsFrom_96_96 : zc cX2_faultsFrom 96 [180, 0, 157, 16, 8, 27, 28, 21, 4, 21, 5, 184, 0, 160, 79, 42] = true := by decide +kernel
set_option maxRecDepth 100000 in
theorem zh_dX2_faultsFrom_112_112 : zc cX2_faultsFrom 112 [180, 0, 27, 180, 0, 157, 16, 11, 21, 6, 158, 0, 7, 4, 167, 0] = true := by decide +kernel
set_option maxRecDepth 100000 in
theorem zh_dX2_faultsFrom_126_128 : zc cX2_faultsFrom 128 [4, 3, 79, 42, 180, 0, 27, 180, 0, 157, 16, 12, 27, 28, 42, 180] = true := by decide +kernel
set_option maxRecDepth 100000 in
theorem zh_dX2_faultsFrom_143_144 : zc cX2_faultsFrom 144 [0, 117, 180, 0, 164, 42, 180, 0, 117, 180, 0, 165, 184, 0, 160, 79] = true := by decide +kernel
set_option maxRecDepth 100000 in
theorem zh_dX2_faultsFrom_160_160 : zc cX2_faultsFrom 160 [42, 180, 0, 27, 180, 0, 157, 6, 21, 4, 21, 5, 42, 180, 0, 117] = true := by decide +kernel
set_option maxRecDepth 100000 in
theorem zh_dX2_faultsFrom_176_176 : zc cX2_faultsFrom 176 [180, 0, 164, 42, 180, 0, 117, 180, 0, 165, 184, 0, 160, 79, 29, 42] = true := by decide +kernel
set_option maxRecDepth 100000 in
theorem zh_dX2_faultsFrom_192_192 : zc cX2_faultsFrom 192 [182, 0, 166, 128, 62, 132, 5, 1, 167, 255, 90, 132, 4, 1, 167, 255] = true := by decide +kernel
set_option maxRecDepth 100000 in
theorem zh_dX2_faultsFrom_206_208 : zc cX2_faultsFrom 208 [60, 29, 172] = true := by decide +kernel
set_option maxRecDepth 100000 in
theorem zh_dX2_faultsOnTacks_0_0 : zc cX2_faultsOnTacks 0 [3, 60, 3, 61, 28, 16, 8, 162, 0, 95, 27, 6, 159, 0, 90, 42] = true := by decide +kernel
set_option maxRecDepth 100000 in
theorem zh_dX2_faultsOnTacks_16_16 : zc cX2_faultsOnTacks 16 [180, 0, 139, 28, 122, 4, 126, 154, 0, 6, 167, 0, 70, 42, 180, 0] = true := by decide +kernel
set_option maxRecDepth 100000 in
theorem zh_dX2_faultsOnTacks_30_32 : zc cX2_faultsOnTacks 32 [27, 180, 0, 157, 16, 9, 28, 5, 122, 79, 42, 180, 0, 27, 180, 0] = true := by decide +kernel
set_option maxRecDepth 100000 in
theorem zh_dX2_faultsOnTacks_46_48 : zc cX2_faultsOnTacks 48 [157, 16, 10, 28, 4, 122, 4, 126, 79, 42, 180, 0, 27, 180, 0, 157] = true := by decide +kernel
set_option maxRecDepth 100000 in
theorem zh_dX2_faultsOnTacks_64_64 : zc cX2_faultsOnTacks 64 [16, 13, 28, 4, 126, 79, 27, 42, 180, 0, 27, 42, 180, 0, 126, 42] = true := by decide +kernel
set_option maxRecDepth 100000 in
theorem zh_dX2_faultsOnTacks_80_80 : zc cX2_faultsOnTacks 80 [180, 0, 129, 182, 0, 169, 154, 0, 7, 4, 167, 0, 4, 5, 128, 60] = true := by decide +kernel
set_option maxRecDepth 100000 in
theorem zh_dX2_faultsOnTacks_96_96 : zc cX2_faultsOnTacks 96 [132, 2, 1, 167, 255, 161, 27, 172] = true := by decide +kernel
set_option maxRecDepth 100000 in
theorem zh_dX8_tally_0_0 : zc cX8_tally 0 [42, 42, 180, 0, 34, 27, 182, 0, 70, 181, 0, 73, 3, 61, 28, 16] = true := by decide +kernel
set_option maxRecDepth 100000 in
theorem zh_dX8_tally_15_16 : zc cX8_tally 16 [16, 162, 0, 16, 42, 180, 0, 22, 28, 3, 84, 132, 2, 1, 167, 255] = true := by decide +kernel
set_option maxRecDepth 100000 in
theorem zh_dX8_tally_30_32 : zc cX8_tally 32 [240, 3, 61, 28, 42, 180, 0, 73, 162, 0, 75, 42, 180, 0, 38, 28] = true := by decide +kernel
set_option maxRecDepth 100000 in
theorem zh_dX8_tally_48_48 : zc cX8_tally 48 [27, 182, 0, 60, 3, 62, 29, 42, 180, 0, 34, 180, 0, 84, 162, 0] = true := by decide +kernel
set_option maxRecDepth 100000 in
theorem zh_dX8_tally_62_64 : zc cX8_tally 64 [47, 42, 180, 0, 38, 180, 0, 87, 29, 46, 2, 159, 0, 10, 42, 180] = true := by decide +kernel
set_option maxRecDepth 100000 in
theorem zh_dX8_tally_79_80 : zc cX8_tally 80 [0, 22, 29, 4, 84, 42, 180, 0, 9, 28, 29, 184, 0, 76, 42, 180] = true := by decide +kernel
set_option maxRecDepth 100000 in
theorem zh_dX8_tally_95_96 : zc cX8_tally 96 [0, 38, 29, 182, 0, 66, 79, 132, 3, 1, 167, 255, 204, 132, 2, 1] = true := by decide +kernel
set_option maxRecDepth 100000 in
theorem zh_dX8_tally_112_112 : zc cX8_tally 112 [167, 255, 179, 42, 27, 182, 0, 90, 61, 3, 62, 29, 42, 180, 0, 34] = true := by decide +kernel
set_option maxRecDepth 100000 in
theorem zh_dX8_tally_128_128 : zc cX8_tally 128 [180, 0, 84, 162, 0, 93, 3, 54, 4, 21, 4, 42, 180, 0, 73, 162] = true := by decide +kernel
set_option maxRecDepth 100000 in
theorem zh_dX8_tally_143_144 : zc cX8_tally 144 [0, 69, 42, 180, 0, 34, 180, 0, 42, 21, 4, 182, 0, 48, 192, 0] = true := by decide +kernel
set_option maxRecDepth 100000 in
theorem zh_dX8_tally_158_160 : zc cX8_tally 160 [54, 29, 27, 182, 0, 56, 54, 5, 42, 180, 0, 15, 21, 4, 29, 184] = true := by decide +kernel
set_option maxRecDepth 100000 in
theorem zh_dX8_tally_175_176 : zc cX8_tally 176 [0, 76, 21, 5, 153, 0, 14, 42, 21, 4, 29, 27, 182, 0, 80, 167] = true := by decide +kernel
set_option maxRecDepth 100000 in
theorem zh_dX8_tally_191_192 : zc cX8_tally 192 [0, 14, 42, 180, 0, 9, 21, 4, 29, 184, 0, 76, 46, 79, 132, 4] = true := by decide +kernel
set_option maxRecDepth 100000 in
theorem zh_dX8_tally_206_208 : zc cX8_tally 208 [1, 167, 255, 184, 42, 29, 28, 182, 0, 93, 132, 3, 1, 167, 255, 158] = true := by decide +kernel
set_option maxRecDepth 100000 in
theorem zh_dX8_tally_224_224 : zc cX8_tally 224 [177] = true := by decide +kernel
set_option maxRecDepth 100000 in
theorem zh_dX8_meanBeside_0_0 : zc cX8_meanBeside 0 [3, 54, 4, 3, 54, 5, 3, 54, 6, 21, 6, 42, 180, 0, 73, 162] = true := by decide +kernel
set_option maxRecDepth 100000 in
theorem zh_dX8_meanBeside_15_16 : zc cX8_meanBeside 16 [0, 60, 21, 6, 27, 159, 0, 48, 42, 180, 0, 34, 180, 0, 42, 21] = true := by decide +kernel
set_option maxRecDepth 100000 in
theorem zh_dX8_meanBeside_31_32 : zc cX8_meanBeside 32 [6, 182, 0, 48, 192, 0, 54, 28, 29, 182, 0, 56, 153, 0, 6, 167] = true := by decide +kernel
set_option maxRecDepth 100000 in
theorem zh_dX8_meanBeside_47_48 : zc cX8_meanBeside 48 [0, 22, 21, 4, 42, 180, 0, 9, 21, 6, 28, 184, 0, 76, 46, 96] = true := by decide +kernel
set_option maxRecDepth 100000 in
theorem zh_dX8_meanBeside_64_64 : zc cX8_meanBeside 64 [54, 4, 132, 5, 1, 132, 6, 1, 167, 255, 193, 21, 5, 154, 0, 7] = true := by decide +kernel
set_option maxRecDepth 100000 in
theorem zh_dX8_meanBeside_80_80 : zc cX8_meanBeside 80 [3, 167, 0, 8, 21, 4, 21, 5, 108, 172] = true := by decide +kernel
set_option maxRecDepth 100000 in
theorem zh_dX8_throwOutsIn_0_0 : zc cX8_throwOutsIn 0 [42, 180, 0, 34, 182, 0, 96, 42, 180, 0, 34, 180, 0, 99, 16, 7] = true := by decide +kernel
set_option maxRecDepth 100000 in
theorem zh_dX8_throwOutsIn_16_16 : zc cX8_throwOutsIn 16 [42, 180, 0, 73, 79, 42, 180, 0, 34, 42, 180, 0, 34, 27, 27, 182] = true := by decide +kernel
set_option maxRecDepth 100000 in
theorem zh_dX8_throwOutsIn_31_32 : zc cX8_throwOutsIn 32 [0, 102, 16, 116, 182, 0, 105, 61, 28, 3, 3, 42, 180, 0, 73, 4] = true := by decide +kernel
set_option maxRecDepth 100000 in
theorem zh_dX8_throwOutsIn_48_48 : zc cX8_throwOutsIn 48 [100, 184, 0, 109, 184, 0, 114, 172] = true := by decide +kernel
set_option maxRecDepth 100000 in
theorem zh_dX8_throwOut_0_0 : zc cX8_throwOut 0 [3, 62, 3, 54, 4, 21, 4, 42, 180, 0, 73, 162, 0, 35, 42, 180] = true := by decide +kernel
set_option maxRecDepth 100000 in
theorem zh_dX8_throwOut_15_16 : zc cX8_throwOut 16 [0, 18, 21, 4, 27, 184, 0, 76, 3, 84, 29, 42, 180, 0, 15, 21] = true := by decide +kernel
set_option maxRecDepth 100000 in
theorem zh_dX8_throwOut_31_32 : zc cX8_throwOut 32 [4, 27, 184, 0, 76, 46, 96, 62, 132, 4, 1, 167, 255, 218, 3, 54] = true := by decide +kernel
set_option maxRecDepth 100000 in
theorem zh_dX8_throwOut_47_48 : zc cX8_throwOut 48 [4, 21, 4, 28, 162, 0, 51, 42, 27, 182, 0, 117, 54, 5, 21, 5] = true := by decide +kernel
set_option maxRecDepth 100000 in
theorem zh_dX8_throwOut_64_64 : zc cX8_throwOut 64 [2, 160, 0, 6, 167, 0, 35, 42, 180, 0, 18, 21, 5, 27, 184, 0] = true := by decide +kernel
set_option maxRecDepth 100000 in
theorem zh_dX8_throwOut_78_80 : zc cX8_throwOut 80 [76, 4, 84, 29, 42, 180, 0, 15, 21, 5, 27, 184, 0, 76, 46, 100] = true := by decide +kernel
set_option maxRecDepth 100000 in
theorem zh_dX8_throwOut_96_96 : zc cX8_throwOut 96 [62, 132, 4, 1, 167, 255, 205, 42, 180, 0, 25, 27, 29, 79, 177] = true := by decide +kernel
set_option maxRecDepth 100000 in
theorem zh_dX8_worstOf_0_0 : zc cX8_worstOf 0 [2, 61, 3, 62, 3, 54, 4, 21, 4, 42, 180, 0, 73, 162, 0, 51] = true := by decide +kernel
set_option maxRecDepth 100000 in
theorem zh_dX8_worstOf_16_16 : zc cX8_worstOf 16 [42, 180, 0, 15, 21, 4, 27, 184, 0, 76, 46, 54, 5, 42, 180, 0] = true := by decide +kernel
set_option maxRecDepth 100000 in
theorem zh_dX8_worstOf_30_32 : zc cX8_worstOf 32 [18, 21, 4, 27, 184, 0, 76, 51, 154, 0, 18, 21, 5, 29, 162, 0] = true := by decide +kernel
set_option maxRecDepth 100000 in
theorem zh_dX8_worstOf_46_48 : zc cX8_worstOf 48 [6, 167, 0, 9, 21, 4, 61, 21, 5, 62, 132, 4, 1, 167, 255, 202] = true := by decide +kernel
set_option maxRecDepth 100000 in
theorem zh_dX8_worstOf_64_64 : zc cX8_worstOf 64 [28, 172] = true := by decide +kernel
set_option maxRecDepth 100000 in
theorem zh_dX8_boatAt_0_0 : zc cX8_boatAt 0 [3, 61, 28, 42, 180, 0, 34, 180, 0, 84, 162, 0, 80, 42, 180, 0] = true := by decide +kernel
set_option maxRecDepth 100000 in
theorem zh_dX8_boatAt_14_16 : zc cX8_boatAt 16 [22, 28, 51, 154, 0, 6, 167, 0, 62, 3, 62, 3, 54, 4, 21, 4] = true := by decide +kernel
set_option maxRecDepth 100000 in
theorem zh_dX8_boatAt_32_32 : zc cX8_boatAt 32 [42, 180, 0, 34, 180, 0, 84, 162, 0, 38, 21, 4, 28, 159, 0, 26] = true := by decide +kernel
set_option maxRecDepth 100000 in
theorem zh_dX8_boatAt_48_48 : zc cX8_boatAt 48 [42, 180, 0, 22, 21, 4, 51, 153, 0, 16, 42, 21, 4, 28, 182, 0] = true := by decide +kernel
set_option maxRecDepth 100000 in
theorem zh_dX8_boatAt_62_64 : zc cX8_boatAt 64 [120, 153, 0, 6, 132, 3, 1, 132, 4, 1, 167, 255, 212, 29, 27, 160] = true := by decide +kernel
set_option maxRecDepth 100000 in
theorem zh_dX8_boatAt_79_80 : zc cX8_boatAt 80 [0, 5, 28, 172, 132, 2, 1, 167, 255, 171, 2, 172] = true := by decide +kernel
set_option maxRecDepth 100000 in
theorem zh_dX8_isBetter_0_0 : zc cX8_isBetter 0 [42, 180, 0, 25, 27, 46, 42, 180, 0, 25, 28, 46, 159, 0, 24, 42] = true := by decide +kernel
set_option maxRecDepth 100000 in
theorem zh_dX8_isBetter_16_16 : zc cX8_isBetter 16 [180, 0, 25, 27, 46, 42, 180, 0, 25, 28, 46, 162, 0, 7, 4, 167] = true := by decide +kernel
set_option maxRecDepth 100000 in
theorem zh_dX8_isBetter_31_32 : zc cX8_isBetter 32 [0, 4, 3, 172, 42, 27, 42, 180, 0, 28, 182, 0, 123, 62, 42, 28] = true := by decide +kernel
set_option maxRecDepth 100000 in
theorem zh_dX8_isBetter_48_48 : zc cX8_isBetter 48 [42, 180, 0, 31, 182, 0, 123, 87, 3, 54, 4, 21, 4, 29, 162, 0] = true := by decide +kernel
set_option maxRecDepth 100000 in
theorem zh_dX8_isBetter_62_64 : zc cX8_isBetter 64 [49, 42, 180, 0, 28, 21, 4, 46, 42, 180, 0, 31, 21, 4, 46, 159] = true := by decide +kernel
set_option maxRecDepth 100000 in
theorem zh_dX8_isBetter_79_80 : zc cX8_isBetter 80 [0, 26, 42, 180, 0, 28, 21, 4, 46, 42, 180, 0, 31, 21, 4, 46] = true := by decide +kernel
set_option maxRecDepth 100000 in
theorem zh_dX8_isBetter_96_96 : zc cX8_isBetter 96 [162, 0, 7, 4, 167, 0, 4, 3, 172, 132, 4, 1, 167, 255, 207, 42] = true := by decide +kernel
set_option maxRecDepth 100000 in
theorem zh_dX8_isBetter_112_112 : zc cX8_isBetter 112 [180, 0, 73, 4, 100, 54, 4, 21, 4, 155, 0, 55, 42, 180, 0, 15] = true := by decide +kernel
set_option maxRecDepth 100000 in
theorem zh_dX8_isBetter_128_128 : zc cX8_isBetter 128 [21, 4, 27, 184, 0, 76, 46, 54, 5, 42, 180, 0, 15, 21, 4, 28] = true := by decide +kernel
set_option maxRecDepth 100000 in
theorem zh_dX8_isBetter_144_144 : zc cX8_isBetter 144 [184, 0, 76, 46, 54, 6, 21, 5, 21, 6, 159, 0, 16, 21, 5, 21] = true := by decide +kernel
set_option maxRecDepth 100000 in
theorem zh_dX8_isBetter_159_160 : zc cX8_isBetter 160 [6, 162, 0, 7, 4, 167, 0, 4, 3, 172, 132, 4, 255, 167, 255, 202] = true := by decide +kernel
set_option maxRecDepth 100000 in
theorem zh_dX8_isBetter_176_176 : zc cX8_isBetter 176 [27, 28, 162, 0, 7, 4, 167, 0, 4, 3, 172] = true := by decide +kernel
set_option maxRecDepth 100000 in
theorem zh_dX8_sortKept_0_0 : zc cX8_sortKept 0 [3, 62, 3, 54, 4, 21, 4, 42, 180, 0, 73, 162, 0, 43, 42, 180] = true := by decide +kernel
set_option maxRecDepth 100000 in
theorem zh_dX8_sortKept_15_16 : zc cX8_sortKept 16 [0, 18, 21, 4, 27, 184, 0, 76, 51, 153, 0, 6, 167, 0, 20, 42] = true := by decide +kernel
set_option maxRecDepth 100000 in
theorem zh_dX8_sortKept_32_32 : zc cX8_sortKept 32 [180, 0, 15, 21, 4, 27, 184, 0, 76, 46, 44, 29, 184, 0, 127, 62] = true := by decide +kernel
set_option maxRecDepth 100000 in
theorem zh_dX8_sortKept_48_48 : zc cX8_sortKept 48 [132, 4, 1, 167, 255, 210, 29, 172] = true := by decide +kernel
set_option maxRecDepth 100000 in
theorem zh_dX12_sortIn_0_0 : zc cX12_sortIn 0 [28, 43, 190, 161, 0, 5, 28, 172, 28, 62, 29, 158, 0, 26, 43, 29] = true := by decide +kernel
set_option maxRecDepth 100000 in
theorem zh_dX12_sortIn_16_16 : zc cX12_sortIn 16 [4, 100, 46, 26, 164, 0, 17, 43, 29, 43, 29, 4, 100, 46, 79, 132] = true := by decide +kernel
set_option maxRecDepth 100000 in
theorem zh_dX12_sortIn_31_32 : zc cX12_sortIn 32 [3, 255, 167, 255, 232, 43, 29, 26, 79, 28, 4, 96, 172] = true := by decide +kernel
theorem dX2_find_0 : decode cX2_find 0 = .ok (.aload_n 0, 1) := zo_42 (zi_at zh_dX2_find_0_0 0 rfl)
theorem dX2_find_1 : decode cX2_find 1 = .ok (.aload_n 1, 1) := zo_43 (zi_at zh_dX2_find_0_0 1 rfl)
theorem dX2_find_2 : decode cX2_find 2 = .ok (.iconst 0, 1) := zo_3 (zi_at zh_dX2_find_0_0 2 rfl)
theorem dX2_find_3 : decode cX2_find 3 = .ok (.iload_n 3, 1) := zo_29 (zi_at zh_dX2_find_0_0 3 rfl)
theorem dX2_find_4 : decode cX2_find 4 = .ok (.invokevirtual 113, 3) := zo_182 (zi_at zh_dX2_find_0_0 4 rfl) (zi_at zh_dX2_find_0_0 5 rfl) (zi_at zh_dX2_find_0_0 6 rfl) rfl
theorem dX2_find_7 : decode cX2_find 7 = .ok (.ifCond .eq 13, 3) := zo_153 (zi_at zh_dX2_find_0_0 7 rfl) (zi_at zh_dX2_find_0_0 8 rfl) (zi_at zh_dX2_find_0_0 9 rfl) rfl
theorem dX2_find_10 : decode cX2_find 10 = .ok (.aload_n 0, 1) := zo_42 (zi_at zh_dX2_find_0_0 10 rfl)
theorem dX2_find_11 : decode cX2_find 11 = .ok (.aload_n 1, 1) := zo_43 (zi_at zh_dX2_find_0_0 11 rfl)
theorem dX2_find_12 : decode cX2_find 12 = .ok (.iconst 1, 1) := zo_4 (zi_at zh_dX2_find_0_0 12 rfl)
theorem dX2_find_13 : decode cX2_find 13 = .ok (.iload_n 3, 1) := zo_29 (zi_at zh_dX2_find_0_0 13 rfl)
theorem dX2_find_14 : decode cX2_find 14 = .ok (.invokevirtual 113, 3) := zo_182 (zi_at zh_dX2_find_0_0 14 rfl) (zi_at zh_dX2_find_0_0 15 rfl) (zi_at zh_dX2_find_14_16 0 rfl) rfl
theorem dX2_find_17 : decode cX2_find 17 = .ok (.ifCond .ne 5, 3) := zo_154 (zi_at zh_dX2_find_14_16 1 rfl) (zi_at zh_dX2_find_14_16 2 rfl) (zi_at zh_dX2_find_14_16 3 rfl) rfl
theorem dX2_find_20 : decode cX2_find 20 = .ok (.iconst (-1), 1) := zo_2 (zi_at zh_dX2_find_14_16 4 rfl)
theorem dX2_find_21 : decode cX2_find 21 = .ok (.ireturn, 1) := zo_172 (zi_at zh_dX2_find_14_16 5 rfl)
theorem dX2_find_22 : decode cX2_find 22 = .ok (.aload_n 0, 1) := zo_42 (zi_at zh_dX2_find_14_16 6 rfl)
theorem dX2_find_23 : decode cX2_find 23 = .ok (.aload_n 0, 1) := zo_42 (zi_at zh_dX2_find_14_16 7 rfl)
theorem dX2_find_24 : decode cX2_find 24 = .ok (.getfield 27, 3) := zo_180 (zi_at zh_dX2_find_14_16 8 rfl) (zi_at zh_dX2_find_14_16 9 rfl) (zi_at zh_dX2_find_14_16 10 rfl) rfl
theorem dX2_find_27 : decode cX2_find 27 = .ok (.getfield 40, 3) := zo_180 (zi_at zh_dX2_find_14_16 11 rfl) (zi_at zh_dX2_find_14_16 12 rfl) (zi_at zh_dX2_find_14_16 13 rfl) rfl
theorem dX2_find_30 : decode cX2_find 30 = .ok (.aload_n 1, 1) := zo_43 (zi_at zh_dX2_find_14_16 14 rfl)
theorem dX2_find_31 : decode cX2_find 31 = .ok (.getfield 46, 3) := zo_180 (zi_at zh_dX2_find_14_16 15 rfl) (zi_at zh_dX2_find_31_32 0 rfl) (zi_at zh_dX2_find_31_32 1 rfl) rfl
theorem dX2_find_34 : decode cX2_find 34 = .ok (.invokevirtual 49, 3) := zo_182 (zi_at zh_dX2_find_31_32 2 rfl) (zi_at zh_dX2_find_31_32 3 rfl) (zi_at zh_dX2_find_31_32 4 rfl) rfl
theorem dX2_find_37 : decode cX2_find 37 = .ok (.checkcast 55, 3) := zo_192 (zi_at zh_dX2_find_31_32 5 rfl) (zi_at zh_dX2_find_31_32 6 rfl) (zi_at zh_dX2_find_31_32 7 rfl) rfl
theorem dX2_find_40 : decode cX2_find 40 = .ok (.putfield 117, 3) := zo_181 (zi_at zh_dX2_find_31_32 8 rfl) (zi_at zh_dX2_find_31_32 9 rfl) (zi_at zh_dX2_find_31_32 10 rfl) rfl
theorem dX2_find_43 : decode cX2_find 43 = .ok (.aload_n 0, 1) := zo_42 (zi_at zh_dX2_find_31_32 11 rfl)
theorem dX2_find_44 : decode cX2_find 44 = .ok (.aload_n 0, 1) := zo_42 (zi_at zh_dX2_find_31_32 12 rfl)
theorem dX2_find_45 : decode cX2_find 45 = .ok (.getfield 27, 3) := zo_180 (zi_at zh_dX2_find_31_32 13 rfl) (zi_at zh_dX2_find_31_32 14 rfl) (zi_at zh_dX2_find_31_32 15 rfl) rfl
theorem dX2_find_48 : decode cX2_find 48 = .ok (.aload_n 0, 1) := zo_42 (zi_at zh_dX2_find_48_48 0 rfl)
theorem dX2_find_49 : decode cX2_find 49 = .ok (.getfield 117, 3) := zo_180 (zi_at zh_dX2_find_48_48 1 rfl) (zi_at zh_dX2_find_48_48 2 rfl) (zi_at zh_dX2_find_48_48 3 rfl) rfl
theorem dX2_find_52 : decode cX2_find 52 = .ok (.getfield 120, 3) := zo_180 (zi_at zh_dX2_find_48_48 4 rfl) (zi_at zh_dX2_find_48_48 5 rfl) (zi_at zh_dX2_find_48_48 6 rfl) rfl
theorem dX2_find_55 : decode cX2_find 55 = .ok (.iload_n 3, 1) := zo_29 (zi_at zh_dX2_find_48_48 7 rfl)
theorem dX2_find_56 : decode cX2_find 56 = .ok (.invokevirtual 123, 3) := zo_182 (zi_at zh_dX2_find_48_48 8 rfl) (zi_at zh_dX2_find_48_48 9 rfl) (zi_at zh_dX2_find_48_48 10 rfl) rfl
theorem dX2_find_59 : decode cX2_find 59 = .ok (.putfield 126, 3) := zo_181 (zi_at zh_dX2_find_48_48 11 rfl) (zi_at zh_dX2_find_48_48 12 rfl) (zi_at zh_dX2_find_48_48 13 rfl) rfl
theorem dX2_find_62 : decode cX2_find 62 = .ok (.aload_n 0, 1) := zo_42 (zi_at zh_dX2_find_48_48 14 rfl)
theorem dX2_find_63 : decode cX2_find 63 = .ok (.iload_n 2, 1) := zo_28 (zi_at zh_dX2_find_48_48 15 rfl)
theorem dX2_find_64 : decode cX2_find 64 = .ok (.ifCond .ne 8, 3) := zo_154 (zi_at zh_dX2_find_64_64 0 rfl) (zi_at zh_dX2_find_64_64 1 rfl) (zi_at zh_dX2_find_64_64 2 rfl) rfl
theorem dX2_find_67 : decode cX2_find 67 = .ok (.bipush 97, 2) := zo_16 (zi_at zh_dX2_find_64_64 3 rfl) (zi_at zh_dX2_find_64_64 4 rfl) rfl
theorem dX2_find_69 : decode cX2_find 69 = .ok (.goto 5, 3) := zo_167 (zi_at zh_dX2_find_64_64 5 rfl) (zi_at zh_dX2_find_64_64 6 rfl) (zi_at zh_dX2_find_64_64 7 rfl) rfl
theorem dX2_find_72 : decode cX2_find 72 = .ok (.bipush 98, 2) := zo_16 (zi_at zh_dX2_find_64_64 8 rfl) (zi_at zh_dX2_find_64_64 9 rfl) rfl
theorem dX2_find_74 : decode cX2_find 74 = .ok (.putfield 129, 3) := zo_181 (zi_at zh_dX2_find_64_64 10 rfl) (zi_at zh_dX2_find_64_64 11 rfl) (zi_at zh_dX2_find_64_64 12 rfl) rfl
theorem dX2_find_77 : decode cX2_find 77 = .ok (.aload_n 0, 1) := zo_42 (zi_at zh_dX2_find_64_64 13 rfl)
theorem dX2_find_78 : decode cX2_find 78 = .ok (.invokevirtual 133, 3) := zo_182 (zi_at zh_dX2_find_64_64 14 rfl) (zi_at zh_dX2_find_64_64 15 rfl) (zi_at zh_dX2_find_78_80 0 rfl) rfl
theorem dX2_find_81 : decode cX2_find 81 = .ok (.iconst 0, 1) := zo_3 (zi_at zh_dX2_find_78_80 1 rfl)
theorem dX2_find_82 : decode cX2_find 82 = .ok (.istore 4, 2) := zo_54 (zi_at zh_dX2_find_78_80 2 rfl) (zi_at zh_dX2_find_78_80 3 rfl)
theorem dX2_find_84 : decode cX2_find 84 = .ok (.aload_n 0, 1) := zo_42 (zi_at zh_dX2_find_78_80 4 rfl)
theorem dX2_find_85 : decode cX2_find 85 = .ok (.getfield 9, 3) := zo_180 (zi_at zh_dX2_find_78_80 5 rfl) (zi_at zh_dX2_find_78_80 6 rfl) (zi_at zh_dX2_find_78_80 7 rfl) rfl
theorem dX2_find_88 : decode cX2_find 88 = .ok (.iconst 0, 1) := zo_3 (zi_at zh_dX2_find_78_80 8 rfl)
theorem dX2_find_89 : decode cX2_find 89 = .ok (.iaload, 1) := zo_46 (zi_at zh_dX2_find_78_80 9 rfl)
theorem dX2_find_90 : decode cX2_find 90 = .ok (.istore 5, 2) := zo_54 (zi_at zh_dX2_find_78_80 10 rfl) (zi_at zh_dX2_find_78_80 11 rfl)
theorem dX2_find_92 : decode cX2_find 92 = .ok (.iload 5, 2) := zo_21 (zi_at zh_dX2_find_78_80 12 rfl) (zi_at zh_dX2_find_78_80 13 rfl)
theorem dX2_find_94 : decode cX2_find 94 = .ok (.aload_n 0, 1) := zo_42 (zi_at zh_dX2_find_78_80 14 rfl)
theorem dX2_find_95 : decode cX2_find 95 = .ok (.getfield 15, 3) := zo_180 (zi_at zh_dX2_find_78_80 15 rfl) (zi_at zh_dX2_find_95_96 0 rfl) (zi_at zh_dX2_find_95_96 1 rfl) rfl
theorem dX2_find_98 : decode cX2_find 98 = .ok (.iconst 0, 1) := zo_3 (zi_at zh_dX2_find_95_96 2 rfl)
theorem dX2_find_99 : decode cX2_find 99 = .ok (.iaload, 1) := zo_46 (zi_at zh_dX2_find_95_96 3 rfl)
theorem dX2_find_100 : decode cX2_find 100 = .ok (.if_icmp .gt 59, 3) := zo_163 (zi_at zh_dX2_find_95_96 4 rfl) (zi_at zh_dX2_find_95_96 5 rfl) (zi_at zh_dX2_find_95_96 6 rfl) rfl
theorem dX2_find_103 : decode cX2_find 103 = .ok (.iload 4, 2) := zo_21 (zi_at zh_dX2_find_95_96 7 rfl) (zi_at zh_dX2_find_95_96 8 rfl)
theorem dX2_find_105 : decode cX2_find 105 = .ok (.iconst 3, 1) := zo_6 (zi_at zh_dX2_find_95_96 9 rfl)
theorem dX2_find_106 : decode cX2_find 106 = .ok (.if_icmp .eq 53, 3) := zo_159 (zi_at zh_dX2_find_95_96 10 rfl) (zi_at zh_dX2_find_95_96 11 rfl) (zi_at zh_dX2_find_95_96 12 rfl) rfl
theorem dX2_find_109 : decode cX2_find 109 = .ok (.aload_n 0, 1) := zo_42 (zi_at zh_dX2_find_95_96 13 rfl)
theorem dX2_find_110 : decode cX2_find 110 = .ok (.getfield 18, 3) := zo_180 (zi_at zh_dX2_find_95_96 14 rfl) (zi_at zh_dX2_find_95_96 15 rfl) (zi_at zh_dX2_find_110_112 0 rfl) rfl
theorem dX2_find_113 : decode cX2_find 113 = .ok (.iconst 0, 1) := zo_3 (zi_at zh_dX2_find_110_112 1 rfl)
theorem dX2_find_114 : decode cX2_find 114 = .ok (.iaload, 1) := zo_46 (zi_at zh_dX2_find_110_112 2 rfl)
theorem dX2_find_115 : decode cX2_find 115 = .ok (.istore 6, 2) := zo_54 (zi_at zh_dX2_find_110_112 3 rfl) (zi_at zh_dX2_find_110_112 4 rfl)
theorem dX2_find_117 : decode cX2_find 117 = .ok (.iload 6, 2) := zo_21 (zi_at zh_dX2_find_110_112 5 rfl) (zi_at zh_dX2_find_110_112 6 rfl)
theorem dX2_find_119 : decode cX2_find 119 = .ok (.aload_n 0, 1) := zo_42 (zi_at zh_dX2_find_110_112 7 rfl)
theorem dX2_find_120 : decode cX2_find 120 = .ok (.getfield 21, 3) := zo_180 (zi_at zh_dX2_find_110_112 8 rfl) (zi_at zh_dX2_find_110_112 9 rfl) (zi_at zh_dX2_find_110_112 10 rfl) rfl
theorem dX2_find_123 : decode cX2_find 123 = .ok (.iconst 0, 1) := zo_3 (zi_at zh_dX2_find_110_112 11 rfl)
theorem dX2_find_124 : decode cX2_find 124 = .ok (.iaload, 1) := zo_46 (zi_at zh_dX2_find_110_112 12 rfl)
theorem dX2_find_125 : decode cX2_find 125 = .ok (.if_icmp .gt 28, 3) := zo_163 (zi_at zh_dX2_find_110_112 13 rfl) (zi_at zh_dX2_find_110_112 14 rfl) (zi_at zh_dX2_find_110_112 15 rfl) rfl
theorem dX2_find_128 : decode cX2_find 128 = .ok (.iload 4, 2) := zo_21 (zi_at zh_dX2_find_128_128 0 rfl) (zi_at zh_dX2_find_128_128 1 rfl)
theorem dX2_find_130 : decode cX2_find 130 = .ok (.iconst 3, 1) := zo_6 (zi_at zh_dX2_find_128_128 2 rfl)
theorem dX2_find_131 : decode cX2_find 131 = .ok (.if_icmp .eq 22, 3) := zo_159 (zi_at zh_dX2_find_128_128 3 rfl) (zi_at zh_dX2_find_128_128 4 rfl) (zi_at zh_dX2_find_128_128 5 rfl) rfl
theorem dX2_find_134 : decode cX2_find 134 = .ok (.iload 4, 2) := zo_21 (zi_at zh_dX2_find_128_128 6 rfl) (zi_at zh_dX2_find_128_128 7 rfl)
theorem dX2_find_136 : decode cX2_find 136 = .ok (.aload_n 0, 1) := zo_42 (zi_at zh_dX2_find_128_128 8 rfl)
theorem dX2_find_137 : decode cX2_find 137 = .ok (.iload 5, 2) := zo_21 (zi_at zh_dX2_find_128_128 9 rfl) (zi_at zh_dX2_find_128_128 10 rfl)
theorem dX2_find_139 : decode cX2_find 139 = .ok (.iload 6, 2) := zo_21 (zi_at zh_dX2_find_128_128 11 rfl) (zi_at zh_dX2_find_128_128 12 rfl)
theorem dX2_find_141 : decode cX2_find 141 = .ok (.invokevirtual 136, 3) := zo_182 (zi_at zh_dX2_find_128_128 13 rfl) (zi_at zh_dX2_find_128_128 14 rfl) (zi_at zh_dX2_find_128_128 15 rfl) rfl
theorem dX2_find_144 : decode cX2_find 144 = .ok (.ior, 1) := zo_128 (zi_at zh_dX2_find_144_144 0 rfl)
theorem dX2_find_145 : decode cX2_find 145 = .ok (.istore 4, 2) := zo_54 (zi_at zh_dX2_find_144_144 1 rfl) (zi_at zh_dX2_find_144_144 2 rfl)
theorem dX2_find_147 : decode cX2_find 147 = .ok (.iinc 6 1, 3) := zo_132 (zi_at zh_dX2_find_144_144 3 rfl) (zi_at zh_dX2_find_144_144 4 rfl) (zi_at zh_dX2_find_144_144 5 rfl) rfl
theorem dX2_find_150 : decode cX2_find 150 = .ok (.goto (-33), 3) := zo_167 (zi_at zh_dX2_find_144_144 6 rfl) (zi_at zh_dX2_find_144_144 7 rfl) (zi_at zh_dX2_find_144_144 8 rfl) rfl
theorem dX2_find_153 : decode cX2_find 153 = .ok (.iinc 5 1, 3) := zo_132 (zi_at zh_dX2_find_144_144 9 rfl) (zi_at zh_dX2_find_144_144 10 rfl) (zi_at zh_dX2_find_144_144 11 rfl) rfl
theorem dX2_find_156 : decode cX2_find 156 = .ok (.goto (-64), 3) := zo_167 (zi_at zh_dX2_find_144_144 12 rfl) (zi_at zh_dX2_find_144_144 13 rfl) (zi_at zh_dX2_find_144_144 14 rfl) rfl
theorem dX2_find_159 : decode cX2_find 159 = .ok (.iload 4, 2) := zo_21 (zi_at zh_dX2_find_144_144 15 rfl) (zi_at zh_dX2_find_159_160 0 rfl)
theorem dX2_find_161 : decode cX2_find 161 = .ok (.iconst 3, 1) := zo_6 (zi_at zh_dX2_find_159_160 1 rfl)
theorem dX2_find_162 : decode cX2_find 162 = .ok (.if_icmp .ne 7, 3) := zo_160 (zi_at zh_dX2_find_159_160 2 rfl) (zi_at zh_dX2_find_159_160 3 rfl) (zi_at zh_dX2_find_159_160 4 rfl) rfl
theorem dX2_find_165 : decode cX2_find 165 = .ok (.iconst 2, 1) := zo_5 (zi_at zh_dX2_find_159_160 5 rfl)
theorem dX2_find_166 : decode cX2_find 166 = .ok (.goto 14, 3) := zo_167 (zi_at zh_dX2_find_159_160 6 rfl) (zi_at zh_dX2_find_159_160 7 rfl) (zi_at zh_dX2_find_159_160 8 rfl) rfl
theorem dX2_find_169 : decode cX2_find 169 = .ok (.iload 4, 2) := zo_21 (zi_at zh_dX2_find_159_160 9 rfl) (zi_at zh_dX2_find_159_160 10 rfl)
theorem dX2_find_171 : decode cX2_find 171 = .ok (.iconst 2, 1) := zo_5 (zi_at zh_dX2_find_159_160 11 rfl)
theorem dX2_find_172 : decode cX2_find 172 = .ok (.if_icmp .ne 7, 3) := zo_160 (zi_at zh_dX2_find_159_160 12 rfl) (zi_at zh_dX2_find_159_160 13 rfl) (zi_at zh_dX2_find_159_160 14 rfl) rfl
theorem dX2_find_175 : decode cX2_find 175 = .ok (.iconst 1, 1) := zo_4 (zi_at zh_dX2_find_159_160 15 rfl)
theorem dX2_find_176 : decode cX2_find 176 = .ok (.goto 4, 3) := zo_167 (zi_at zh_dX2_find_176_176 0 rfl) (zi_at zh_dX2_find_176_176 1 rfl) (zi_at zh_dX2_find_176_176 2 rfl) rfl
theorem dX2_find_179 : decode cX2_find 179 = .ok (.iconst 0, 1) := zo_3 (zi_at zh_dX2_find_176_176 3 rfl)
theorem dX2_find_180 : decode cX2_find 180 = .ok (.ireturn, 1) := zo_172 (zi_at zh_dX2_find_176_176 4 rfl)
theorem dX2_gatherTacks_0 : decode cX2_gatherTacks 0 = .ok (.aload_n 0, 1) := zo_42 (zi_at zh_dX2_gatherTacks_0_0 0 rfl)
theorem dX2_gatherTacks_1 : decode cX2_gatherTacks 1 = .ok (.iconst 0, 1) := zo_3 (zi_at zh_dX2_gatherTacks_0_0 1 rfl)
theorem dX2_gatherTacks_2 : decode cX2_gatherTacks 2 = .ok (.putfield 139, 3) := zo_181 (zi_at zh_dX2_gatherTacks_0_0 2 rfl) (zi_at zh_dX2_gatherTacks_0_0 3 rfl) (zi_at zh_dX2_gatherTacks_0_0 4 rfl) rfl
theorem dX2_gatherTacks_5 : decode cX2_gatherTacks 5 = .ok (.iconst 0, 1) := zo_3 (zi_at zh_dX2_gatherTacks_0_0 5 rfl)
theorem dX2_gatherTacks_6 : decode cX2_gatherTacks 6 = .ok (.istore_n 1, 1) := zo_60 (zi_at zh_dX2_gatherTacks_0_0 6 rfl)
theorem dX2_gatherTacks_7 : decode cX2_gatherTacks 7 = .ok (.iload_n 1, 1) := zo_27 (zi_at zh_dX2_gatherTacks_0_0 7 rfl)
theorem dX2_gatherTacks_8 : decode cX2_gatherTacks 8 = .ok (.bipush 8, 2) := zo_16 (zi_at zh_dX2_gatherTacks_0_0 8 rfl) (zi_at zh_dX2_gatherTacks_0_0 9 rfl) rfl
theorem dX2_gatherTacks_10 : decode cX2_gatherTacks 10 = .ok (.if_icmp .ge 89, 3) := zo_162 (zi_at zh_dX2_gatherTacks_0_0 10 rfl) (zi_at zh_dX2_gatherTacks_0_0 11 rfl) (zi_at zh_dX2_gatherTacks_0_0 12 rfl) rfl
theorem dX2_gatherTacks_13 : decode cX2_gatherTacks 13 = .ok (.iconst 0, 1) := zo_3 (zi_at zh_dX2_gatherTacks_0_0 13 rfl)
theorem dX2_gatherTacks_14 : decode cX2_gatherTacks 14 = .ok (.istore_n 2, 1) := zo_61 (zi_at zh_dX2_gatherTacks_0_0 14 rfl)
theorem dX2_gatherTacks_15 : decode cX2_gatherTacks 15 = .ok (.iload_n 2, 1) := zo_28 (zi_at zh_dX2_gatherTacks_0_0 15 rfl)
theorem dX2_gatherTacks_16 : decode cX2_gatherTacks 16 = .ok (.bipush 8, 2) := zo_16 (zi_at zh_dX2_gatherTacks_16_16 0 rfl) (zi_at zh_dX2_gatherTacks_16_16 1 rfl) rfl
theorem dX2_gatherTacks_18 : decode cX2_gatherTacks 18 = .ok (.if_icmp .ge 75, 3) := zo_162 (zi_at zh_dX2_gatherTacks_16_16 2 rfl) (zi_at zh_dX2_gatherTacks_16_16 3 rfl) (zi_at zh_dX2_gatherTacks_16_16 4 rfl) rfl
theorem dX2_gatherTacks_21 : decode cX2_gatherTacks 21 = .ok (.aload_n 0, 1) := zo_42 (zi_at zh_dX2_gatherTacks_16_16 5 rfl)
theorem dX2_gatherTacks_22 : decode cX2_gatherTacks 22 = .ok (.getfield 24, 3) := zo_180 (zi_at zh_dX2_gatherTacks_16_16 6 rfl) (zi_at zh_dX2_gatherTacks_16_16 7 rfl) (zi_at zh_dX2_gatherTacks_16_16 8 rfl) rfl
theorem dX2_gatherTacks_25 : decode cX2_gatherTacks 25 = .ok (.iconst 0, 1) := zo_3 (zi_at zh_dX2_gatherTacks_16_16 9 rfl)
theorem dX2_gatherTacks_26 : decode cX2_gatherTacks 26 = .ok (.iaload, 1) := zo_46 (zi_at zh_dX2_gatherTacks_16_16 10 rfl)
theorem dX2_gatherTacks_27 : decode cX2_gatherTacks 27 = .ok (.iload_n 1, 1) := zo_27 (zi_at zh_dX2_gatherTacks_16_16 11 rfl)
theorem dX2_gatherTacks_28 : decode cX2_gatherTacks 28 = .ok (.ishr, 1) := zo_122 (zi_at zh_dX2_gatherTacks_16_16 12 rfl)
theorem dX2_gatherTacks_29 : decode cX2_gatherTacks 29 = .ok (.iconst 1, 1) := zo_4 (zi_at zh_dX2_gatherTacks_16_16 13 rfl)
theorem dX2_gatherTacks_30 : decode cX2_gatherTacks 30 = .ok (.iand, 1) := zo_126 (zi_at zh_dX2_gatherTacks_16_16 14 rfl)
theorem dX2_gatherTacks_31 : decode cX2_gatherTacks 31 = .ok (.ifCond .eq 56, 3) := zo_153 (zi_at zh_dX2_gatherTacks_16_16 15 rfl) (zi_at zh_dX2_gatherTacks_31_32 0 rfl) (zi_at zh_dX2_gatherTacks_31_32 1 rfl) rfl
theorem dX2_gatherTacks_34 : decode cX2_gatherTacks 34 = .ok (.aload_n 0, 1) := zo_42 (zi_at zh_dX2_gatherTacks_31_32 2 rfl)
theorem dX2_gatherTacks_35 : decode cX2_gatherTacks 35 = .ok (.getfield 24, 3) := zo_180 (zi_at zh_dX2_gatherTacks_31_32 3 rfl) (zi_at zh_dX2_gatherTacks_31_32 4 rfl) (zi_at zh_dX2_gatherTacks_31_32 5 rfl) rfl
theorem dX2_gatherTacks_38 : decode cX2_gatherTacks 38 = .ok (.iconst 1, 1) := zo_4 (zi_at zh_dX2_gatherTacks_31_32 6 rfl)
theorem dX2_gatherTacks_39 : decode cX2_gatherTacks 39 = .ok (.iaload, 1) := zo_46 (zi_at zh_dX2_gatherTacks_31_32 7 rfl)
theorem dX2_gatherTacks_40 : decode cX2_gatherTacks 40 = .ok (.iload_n 2, 1) := zo_28 (zi_at zh_dX2_gatherTacks_31_32 8 rfl)
theorem dX2_gatherTacks_41 : decode cX2_gatherTacks 41 = .ok (.ishr, 1) := zo_122 (zi_at zh_dX2_gatherTacks_31_32 9 rfl)
theorem dX2_gatherTacks_42 : decode cX2_gatherTacks 42 = .ok (.iconst 1, 1) := zo_4 (zi_at zh_dX2_gatherTacks_31_32 10 rfl)
theorem dX2_gatherTacks_43 : decode cX2_gatherTacks 43 = .ok (.iand, 1) := zo_126 (zi_at zh_dX2_gatherTacks_31_32 11 rfl)
theorem dX2_gatherTacks_44 : decode cX2_gatherTacks 44 = .ok (.ifCond .ne 6, 3) := zo_154 (zi_at zh_dX2_gatherTacks_31_32 12 rfl) (zi_at zh_dX2_gatherTacks_31_32 13 rfl) (zi_at zh_dX2_gatherTacks_31_32 14 rfl) rfl
theorem dX2_gatherTacks_47 : decode cX2_gatherTacks 47 = .ok (.goto 40, 3) := zo_167 (zi_at zh_dX2_gatherTacks_31_32 15 rfl) (zi_at zh_dX2_gatherTacks_47_48 0 rfl) (zi_at zh_dX2_gatherTacks_47_48 1 rfl) rfl
theorem dX2_gatherTacks_50 : decode cX2_gatherTacks 50 = .ok (.aload_n 0, 1) := zo_42 (zi_at zh_dX2_gatherTacks_47_48 2 rfl)
theorem dX2_gatherTacks_51 : decode cX2_gatherTacks 51 = .ok (.dup, 1) := zo_89 (zi_at zh_dX2_gatherTacks_47_48 3 rfl)
theorem dX2_gatherTacks_52 : decode cX2_gatherTacks 52 = .ok (.getfield 139, 3) := zo_180 (zi_at zh_dX2_gatherTacks_47_48 4 rfl) (zi_at zh_dX2_gatherTacks_47_48 5 rfl) (zi_at zh_dX2_gatherTacks_47_48 6 rfl) rfl
theorem dX2_gatherTacks_55 : decode cX2_gatherTacks 55 = .ok (.iconst 1, 1) := zo_4 (zi_at zh_dX2_gatherTacks_47_48 7 rfl)
theorem dX2_gatherTacks_56 : decode cX2_gatherTacks 56 = .ok (.iconst 4, 1) := zo_7 (zi_at zh_dX2_gatherTacks_47_48 8 rfl)
theorem dX2_gatherTacks_57 : decode cX2_gatherTacks 57 = .ok (.aload_n 0, 1) := zo_42 (zi_at zh_dX2_gatherTacks_47_48 9 rfl)
theorem dX2_gatherTacks_58 : decode cX2_gatherTacks 58 = .ok (.iload_n 1, 1) := zo_27 (zi_at zh_dX2_gatherTacks_47_48 10 rfl)
theorem dX2_gatherTacks_59 : decode cX2_gatherTacks 59 = .ok (.invokevirtual 142, 3) := zo_182 (zi_at zh_dX2_gatherTacks_47_48 11 rfl) (zi_at zh_dX2_gatherTacks_47_48 12 rfl) (zi_at zh_dX2_gatherTacks_47_48 13 rfl) rfl
theorem dX2_gatherTacks_62 : decode cX2_gatherTacks 62 = .ok (.imul, 1) := zo_104 (zi_at zh_dX2_gatherTacks_47_48 14 rfl)
theorem dX2_gatherTacks_63 : decode cX2_gatherTacks 63 = .ok (.iconst 2, 1) := zo_5 (zi_at zh_dX2_gatherTacks_47_48 15 rfl)
theorem dX2_gatherTacks_64 : decode cX2_gatherTacks 64 = .ok (.aload_n 0, 1) := zo_42 (zi_at zh_dX2_gatherTacks_64_64 0 rfl)
theorem dX2_gatherTacks_65 : decode cX2_gatherTacks 65 = .ok (.iload_n 2, 1) := zo_28 (zi_at zh_dX2_gatherTacks_64_64 1 rfl)
theorem dX2_gatherTacks_66 : decode cX2_gatherTacks 66 = .ok (.invokevirtual 142, 3) := zo_182 (zi_at zh_dX2_gatherTacks_64_64 2 rfl) (zi_at zh_dX2_gatherTacks_64_64 3 rfl) (zi_at zh_dX2_gatherTacks_64_64 4 rfl) rfl
theorem dX2_gatherTacks_69 : decode cX2_gatherTacks 69 = .ok (.imul, 1) := zo_104 (zi_at zh_dX2_gatherTacks_64_64 5 rfl)
theorem dX2_gatherTacks_70 : decode cX2_gatherTacks 70 = .ok (.iadd, 1) := zo_96 (zi_at zh_dX2_gatherTacks_64_64 6 rfl)
theorem dX2_gatherTacks_71 : decode cX2_gatherTacks 71 = .ok (.iload_n 1, 1) := zo_27 (zi_at zh_dX2_gatherTacks_64_64 7 rfl)
theorem dX2_gatherTacks_72 : decode cX2_gatherTacks 72 = .ok (.iload_n 2, 1) := zo_28 (zi_at zh_dX2_gatherTacks_64_64 8 rfl)
theorem dX2_gatherTacks_73 : decode cX2_gatherTacks 73 = .ok (.if_icmp .ne 7, 3) := zo_160 (zi_at zh_dX2_gatherTacks_64_64 9 rfl) (zi_at zh_dX2_gatherTacks_64_64 10 rfl) (zi_at zh_dX2_gatherTacks_64_64 11 rfl) rfl
theorem dX2_gatherTacks_76 : decode cX2_gatherTacks 76 = .ok (.iconst 1, 1) := zo_4 (zi_at zh_dX2_gatherTacks_64_64 12 rfl)
theorem dX2_gatherTacks_77 : decode cX2_gatherTacks 77 = .ok (.goto 4, 3) := zo_167 (zi_at zh_dX2_gatherTacks_64_64 13 rfl) (zi_at zh_dX2_gatherTacks_64_64 14 rfl) (zi_at zh_dX2_gatherTacks_64_64 15 rfl) rfl
theorem dX2_gatherTacks_80 : decode cX2_gatherTacks 80 = .ok (.iconst 0, 1) := zo_3 (zi_at zh_dX2_gatherTacks_80_80 0 rfl)
theorem dX2_gatherTacks_81 : decode cX2_gatherTacks 81 = .ok (.iadd, 1) := zo_96 (zi_at zh_dX2_gatherTacks_80_80 1 rfl)
theorem dX2_gatherTacks_82 : decode cX2_gatherTacks 82 = .ok (.ishl, 1) := zo_120 (zi_at zh_dX2_gatherTacks_80_80 2 rfl)
theorem dX2_gatherTacks_83 : decode cX2_gatherTacks 83 = .ok (.ior, 1) := zo_128 (zi_at zh_dX2_gatherTacks_80_80 3 rfl)
theorem dX2_gatherTacks_84 : decode cX2_gatherTacks 84 = .ok (.putfield 139, 3) := zo_181 (zi_at zh_dX2_gatherTacks_80_80 4 rfl) (zi_at zh_dX2_gatherTacks_80_80 5 rfl) (zi_at zh_dX2_gatherTacks_80_80 6 rfl) rfl
theorem dX2_gatherTacks_87 : decode cX2_gatherTacks 87 = .ok (.iinc 2 1, 3) := zo_132 (zi_at zh_dX2_gatherTacks_80_80 7 rfl) (zi_at zh_dX2_gatherTacks_80_80 8 rfl) (zi_at zh_dX2_gatherTacks_80_80 9 rfl) rfl
theorem dX2_gatherTacks_90 : decode cX2_gatherTacks 90 = .ok (.goto (-75), 3) := zo_167 (zi_at zh_dX2_gatherTacks_80_80 10 rfl) (zi_at zh_dX2_gatherTacks_80_80 11 rfl) (zi_at zh_dX2_gatherTacks_80_80 12 rfl) rfl
theorem dX2_gatherTacks_93 : decode cX2_gatherTacks 93 = .ok (.iinc 1 1, 3) := zo_132 (zi_at zh_dX2_gatherTacks_80_80 13 rfl) (zi_at zh_dX2_gatherTacks_80_80 14 rfl) (zi_at zh_dX2_gatherTacks_80_80 15 rfl) rfl
theorem dX2_gatherTacks_96 : decode cX2_gatherTacks 96 = .ok (.goto (-89), 3) := zo_167 (zi_at zh_dX2_gatherTacks_96_96 0 rfl) (zi_at zh_dX2_gatherTacks_96_96 1 rfl) (zi_at zh_dX2_gatherTacks_96_96 2 rfl) rfl
theorem dX2_gatherTacks_99 : decode cX2_gatherTacks 99 = .ok (.return_, 1) := zo_177 (zi_at zh_dX2_gatherTacks_96_96 3 rfl)
theorem dX2_starboard_0 : decode cX2_starboard 0 = .ok (.iload_n 1, 1) := zo_27 (zi_at zh_dX2_starboard_0_0 0 rfl)
theorem dX2_starboard_1 : decode cX2_starboard 1 = .ok (.aload_n 0, 1) := zo_42 (zi_at zh_dX2_starboard_0_0 1 rfl)
theorem dX2_starboard_2 : decode cX2_starboard 2 = .ok (.getfield 117, 3) := zo_180 (zi_at zh_dX2_starboard_0_0 2 rfl) (zi_at zh_dX2_starboard_0_0 3 rfl) (zi_at zh_dX2_starboard_0_0 4 rfl) rfl
theorem dX2_starboard_5 : decode cX2_starboard 5 = .ok (.getfield 145, 3) := zo_180 (zi_at zh_dX2_starboard_0_0 5 rfl) (zi_at zh_dX2_starboard_0_0 6 rfl) (zi_at zh_dX2_starboard_0_0 7 rfl) rfl
theorem dX2_starboard_8 : decode cX2_starboard 8 = .ok (.isub, 1) := zo_100 (zi_at zh_dX2_starboard_0_0 8 rfl)
theorem dX2_starboard_9 : decode cX2_starboard 9 = .ok (.bipush 8, 2) := zo_16 (zi_at zh_dX2_starboard_0_0 9 rfl) (zi_at zh_dX2_starboard_0_0 10 rfl) rfl
theorem dX2_starboard_11 : decode cX2_starboard 11 = .ok (.iadd, 1) := zo_96 (zi_at zh_dX2_starboard_0_0 11 rfl)
theorem dX2_starboard_12 : decode cX2_starboard 12 = .ok (.bipush 8, 2) := zo_16 (zi_at zh_dX2_starboard_0_0 12 rfl) (zi_at zh_dX2_starboard_0_0 13 rfl) rfl
theorem dX2_starboard_14 : decode cX2_starboard 14 = .ok (.irem, 1) := zo_112 (zi_at zh_dX2_starboard_0_0 14 rfl)
theorem dX2_starboard_15 : decode cX2_starboard 15 = .ok (.iconst 5, 1) := zo_8 (zi_at zh_dX2_starboard_0_0 15 rfl)
theorem dX2_starboard_16 : decode cX2_starboard 16 = .ok (.if_icmp .lt 7, 3) := zo_161 (zi_at zh_dX2_starboard_16_16 0 rfl) (zi_at zh_dX2_starboard_16_16 1 rfl) (zi_at zh_dX2_starboard_16_16 2 rfl) rfl
theorem dX2_starboard_19 : decode cX2_starboard 19 = .ok (.iconst 1, 1) := zo_4 (zi_at zh_dX2_starboard_16_16 3 rfl)
theorem dX2_starboard_20 : decode cX2_starboard 20 = .ok (.goto 4, 3) := zo_167 (zi_at zh_dX2_starboard_16_16 4 rfl) (zi_at zh_dX2_starboard_16_16 5 rfl) (zi_at zh_dX2_starboard_16_16 6 rfl) rfl
theorem dX2_starboard_23 : decode cX2_starboard 23 = .ok (.iconst 0, 1) := zo_3 (zi_at zh_dX2_starboard_16_16 7 rfl)
theorem dX2_starboard_24 : decode cX2_starboard 24 = .ok (.ireturn, 1) := zo_172 (zi_at zh_dX2_starboard_16_16 8 rfl)
theorem dX2_faultsFrom_0 : decode cX2_faultsFrom 0 = .ok (.iconst 0, 1) := zo_3 (zi_at zh_dX2_faultsFrom_0_0 0 rfl)
theorem dX2_faultsFrom_1 : decode cX2_faultsFrom 1 = .ok (.istore_n 3, 1) := zo_62 (zi_at zh_dX2_faultsFrom_0_0 1 rfl)
theorem dX2_faultsFrom_2 : decode cX2_faultsFrom 2 = .ok (.aload_n 0, 1) := zo_42 (zi_at zh_dX2_faultsFrom_0_0 2 rfl)
theorem dX2_faultsFrom_3 : decode cX2_faultsFrom 3 = .ok (.getfield 9, 3) := zo_180 (zi_at zh_dX2_faultsFrom_0_0 3 rfl) (zi_at zh_dX2_faultsFrom_0_0 4 rfl) (zi_at zh_dX2_faultsFrom_0_0 5 rfl) rfl
theorem dX2_faultsFrom_6 : decode cX2_faultsFrom 6 = .ok (.iconst 1, 1) := zo_4 (zi_at zh_dX2_faultsFrom_0_0 6 rfl)
theorem dX2_faultsFrom_7 : decode cX2_faultsFrom 7 = .ok (.iaload, 1) := zo_46 (zi_at zh_dX2_faultsFrom_0_0 7 rfl)
theorem dX2_faultsFrom_8 : decode cX2_faultsFrom 8 = .ok (.istore 4, 2) := zo_54 (zi_at zh_dX2_faultsFrom_0_0 8 rfl) (zi_at zh_dX2_faultsFrom_0_0 9 rfl)
theorem dX2_faultsFrom_10 : decode cX2_faultsFrom 10 = .ok (.iload 4, 2) := zo_21 (zi_at zh_dX2_faultsFrom_0_0 10 rfl) (zi_at zh_dX2_faultsFrom_0_0 11 rfl)
theorem dX2_faultsFrom_12 : decode cX2_faultsFrom 12 = .ok (.aload_n 0, 1) := zo_42 (zi_at zh_dX2_faultsFrom_0_0 12 rfl)
theorem dX2_faultsFrom_13 : decode cX2_faultsFrom 13 = .ok (.getfield 15, 3) := zo_180 (zi_at zh_dX2_faultsFrom_0_0 13 rfl) (zi_at zh_dX2_faultsFrom_0_0 14 rfl) (zi_at zh_dX2_faultsFrom_0_0 15 rfl) rfl
theorem dX2_faultsFrom_16 : decode cX2_faultsFrom 16 = .ok (.iconst 1, 1) := zo_4 (zi_at zh_dX2_faultsFrom_16_16 0 rfl)
theorem dX2_faultsFrom_17 : decode cX2_faultsFrom 17 = .ok (.iaload, 1) := zo_46 (zi_at zh_dX2_faultsFrom_16_16 1 rfl)
theorem dX2_faultsFrom_18 : decode cX2_faultsFrom 18 = .ok (.if_icmp .gt 191, 3) := zo_163 (zi_at zh_dX2_faultsFrom_16_16 2 rfl) (zi_at zh_dX2_faultsFrom_16_16 3 rfl) (zi_at zh_dX2_faultsFrom_16_16 4 rfl) rfl
theorem dX2_faultsFrom_21 : decode cX2_faultsFrom 21 = .ok (.iload_n 3, 1) := zo_29 (zi_at zh_dX2_faultsFrom_16_16 5 rfl)
theorem dX2_faultsFrom_22 : decode cX2_faultsFrom 22 = .ok (.iconst 3, 1) := zo_6 (zi_at zh_dX2_faultsFrom_16_16 6 rfl)
theorem dX2_faultsFrom_23 : decode cX2_faultsFrom 23 = .ok (.if_icmp .eq 186, 3) := zo_159 (zi_at zh_dX2_faultsFrom_16_16 7 rfl) (zi_at zh_dX2_faultsFrom_16_16 8 rfl) (zi_at zh_dX2_faultsFrom_16_16 9 rfl) rfl
theorem dX2_faultsFrom_26 : decode cX2_faultsFrom 26 = .ok (.aload_n 0, 1) := zo_42 (zi_at zh_dX2_faultsFrom_16_16 10 rfl)
theorem dX2_faultsFrom_27 : decode cX2_faultsFrom 27 = .ok (.getfield 18, 3) := zo_180 (zi_at zh_dX2_faultsFrom_16_16 11 rfl) (zi_at zh_dX2_faultsFrom_16_16 12 rfl) (zi_at zh_dX2_faultsFrom_16_16 13 rfl) rfl
theorem dX2_faultsFrom_30 : decode cX2_faultsFrom 30 = .ok (.iconst 1, 1) := zo_4 (zi_at zh_dX2_faultsFrom_16_16 14 rfl)
theorem dX2_faultsFrom_31 : decode cX2_faultsFrom 31 = .ok (.iaload, 1) := zo_46 (zi_at zh_dX2_faultsFrom_16_16 15 rfl)
theorem dX2_faultsFrom_32 : decode cX2_faultsFrom 32 = .ok (.istore 5, 2) := zo_54 (zi_at zh_dX2_faultsFrom_32_32 0 rfl) (zi_at zh_dX2_faultsFrom_32_32 1 rfl)
theorem dX2_faultsFrom_34 : decode cX2_faultsFrom 34 = .ok (.iload 5, 2) := zo_21 (zi_at zh_dX2_faultsFrom_32_32 2 rfl) (zi_at zh_dX2_faultsFrom_32_32 3 rfl)
theorem dX2_faultsFrom_36 : decode cX2_faultsFrom 36 = .ok (.aload_n 0, 1) := zo_42 (zi_at zh_dX2_faultsFrom_32_32 4 rfl)
theorem dX2_faultsFrom_37 : decode cX2_faultsFrom 37 = .ok (.getfield 21, 3) := zo_180 (zi_at zh_dX2_faultsFrom_32_32 5 rfl) (zi_at zh_dX2_faultsFrom_32_32 6 rfl) (zi_at zh_dX2_faultsFrom_32_32 7 rfl) rfl
theorem dX2_faultsFrom_40 : decode cX2_faultsFrom 40 = .ok (.iconst 1, 1) := zo_4 (zi_at zh_dX2_faultsFrom_32_32 8 rfl)
theorem dX2_faultsFrom_41 : decode cX2_faultsFrom 41 = .ok (.iaload, 1) := zo_46 (zi_at zh_dX2_faultsFrom_32_32 9 rfl)
theorem dX2_faultsFrom_42 : decode cX2_faultsFrom 42 = .ok (.if_icmp .gt 161, 3) := zo_163 (zi_at zh_dX2_faultsFrom_32_32 10 rfl) (zi_at zh_dX2_faultsFrom_32_32 11 rfl) (zi_at zh_dX2_faultsFrom_32_32 12 rfl) rfl
theorem dX2_faultsFrom_45 : decode cX2_faultsFrom 45 = .ok (.iload_n 3, 1) := zo_29 (zi_at zh_dX2_faultsFrom_32_32 13 rfl)
theorem dX2_faultsFrom_46 : decode cX2_faultsFrom 46 = .ok (.iconst 3, 1) := zo_6 (zi_at zh_dX2_faultsFrom_32_32 14 rfl)
theorem dX2_faultsFrom_47 : decode cX2_faultsFrom 47 = .ok (.if_icmp .eq 156, 3) := zo_159 (zi_at zh_dX2_faultsFrom_32_32 15 rfl) (zi_at zh_dX2_faultsFrom_47_48 0 rfl) (zi_at zh_dX2_faultsFrom_47_48 1 rfl) rfl
theorem dX2_faultsFrom_50 : decode cX2_faultsFrom 50 = .ok (.aload_n 0, 1) := zo_42 (zi_at zh_dX2_faultsFrom_47_48 2 rfl)
theorem dX2_faultsFrom_51 : decode cX2_faultsFrom 51 = .ok (.getfield 27, 3) := zo_180 (zi_at zh_dX2_faultsFrom_47_48 3 rfl) (zi_at zh_dX2_faultsFrom_47_48 4 rfl) (zi_at zh_dX2_faultsFrom_47_48 5 rfl) rfl
theorem dX2_faultsFrom_54 : decode cX2_faultsFrom 54 = .ok (.invokevirtual 148, 3) := zo_182 (zi_at zh_dX2_faultsFrom_47_48 6 rfl) (zi_at zh_dX2_faultsFrom_47_48 7 rfl) (zi_at zh_dX2_faultsFrom_47_48 8 rfl) rfl
theorem dX2_faultsFrom_57 : decode cX2_faultsFrom 57 = .ok (.iload_n 1, 1) := zo_27 (zi_at zh_dX2_faultsFrom_47_48 9 rfl)
theorem dX2_faultsFrom_58 : decode cX2_faultsFrom 58 = .ok (.iload 4, 2) := zo_21 (zi_at zh_dX2_faultsFrom_47_48 10 rfl) (zi_at zh_dX2_faultsFrom_47_48 11 rfl)
theorem dX2_faultsFrom_60 : decode cX2_faultsFrom 60 = .ok (.isub, 1) := zo_100 (zi_at zh_dX2_faultsFrom_47_48 12 rfl)
theorem dX2_faultsFrom_61 : decode cX2_faultsFrom 61 = .ok (.getstatic 151, 3) := zo_178 (zi_at zh_dX2_faultsFrom_47_48 13 rfl) (zi_at zh_dX2_faultsFrom_47_48 14 rfl) (zi_at zh_dX2_faultsFrom_47_48 15 rfl) rfl
theorem dX2_faultsFrom_64 : decode cX2_faultsFrom 64 = .ok (.aload_n 0, 1) := zo_42 (zi_at zh_dX2_faultsFrom_64_64 0 rfl)
theorem dX2_faultsFrom_65 : decode cX2_faultsFrom 65 = .ok (.getfield 117, 3) := zo_180 (zi_at zh_dX2_faultsFrom_64_64 1 rfl) (zi_at zh_dX2_faultsFrom_64_64 2 rfl) (zi_at zh_dX2_faultsFrom_64_64 3 rfl) rfl
theorem dX2_faultsFrom_68 : decode cX2_faultsFrom 68 = .ok (.getfield 145, 3) := zo_180 (zi_at zh_dX2_faultsFrom_64_64 4 rfl) (zi_at zh_dX2_faultsFrom_64_64 5 rfl) (zi_at zh_dX2_faultsFrom_64_64 6 rfl) rfl
theorem dX2_faultsFrom_71 : decode cX2_faultsFrom 71 = .ok (.iaload, 1) := zo_46 (zi_at zh_dX2_faultsFrom_64_64 7 rfl)
theorem dX2_faultsFrom_72 : decode cX2_faultsFrom 72 = .ok (.imul, 1) := zo_104 (zi_at zh_dX2_faultsFrom_64_64 8 rfl)
theorem dX2_faultsFrom_73 : decode cX2_faultsFrom 73 = .ok (.iload_n 2, 1) := zo_28 (zi_at zh_dX2_faultsFrom_64_64 9 rfl)
theorem dX2_faultsFrom_74 : decode cX2_faultsFrom 74 = .ok (.iload 5, 2) := zo_21 (zi_at zh_dX2_faultsFrom_64_64 10 rfl) (zi_at zh_dX2_faultsFrom_64_64 11 rfl)
theorem dX2_faultsFrom_76 : decode cX2_faultsFrom 76 = .ok (.isub, 1) := zo_100 (zi_at zh_dX2_faultsFrom_64_64 12 rfl)
theorem dX2_faultsFrom_77 : decode cX2_faultsFrom 77 = .ok (.getstatic 154, 3) := zo_178 (zi_at zh_dX2_faultsFrom_64_64 13 rfl) (zi_at zh_dX2_faultsFrom_64_64 14 rfl) (zi_at zh_dX2_faultsFrom_64_64 15 rfl) rfl
theorem dX2_faultsFrom_80 : decode cX2_faultsFrom 80 = .ok (.aload_n 0, 1) := zo_42 (zi_at zh_dX2_faultsFrom_80_80 0 rfl)
theorem dX2_faultsFrom_81 : decode cX2_faultsFrom 81 = .ok (.getfield 117, 3) := zo_180 (zi_at zh_dX2_faultsFrom_80_80 1 rfl) (zi_at zh_dX2_faultsFrom_80_80 2 rfl) (zi_at zh_dX2_faultsFrom_80_80 3 rfl) rfl
theorem dX2_faultsFrom_84 : decode cX2_faultsFrom 84 = .ok (.getfield 145, 3) := zo_180 (zi_at zh_dX2_faultsFrom_80_80 4 rfl) (zi_at zh_dX2_faultsFrom_80_80 5 rfl) (zi_at zh_dX2_faultsFrom_80_80 6 rfl) rfl
theorem dX2_faultsFrom_87 : decode cX2_faultsFrom 87 = .ok (.iaload, 1) := zo_46 (zi_at zh_dX2_faultsFrom_80_80 7 rfl)
theorem dX2_faultsFrom_88 : decode cX2_faultsFrom 88 = .ok (.imul, 1) := zo_104 (zi_at zh_dX2_faultsFrom_80_80 8 rfl)
theorem dX2_faultsFrom_89 : decode cX2_faultsFrom 89 = .ok (.iadd, 1) := zo_96 (zi_at zh_dX2_faultsFrom_80_80 9 rfl)
theorem dX2_faultsFrom_90 : decode cX2_faultsFrom 90 = .ok (.istore 6, 2) := zo_54 (zi_at zh_dX2_faultsFrom_80_80 10 rfl) (zi_at zh_dX2_faultsFrom_80_80 11 rfl)
theorem dX2_faultsFrom_92 : decode cX2_faultsFrom 92 = .ok (.aload_n 0, 1) := zo_42 (zi_at zh_dX2_faultsFrom_80_80 12 rfl)
theorem dX2_faultsFrom_93 : decode cX2_faultsFrom 93 = .ok (.getfield 27, 3) := zo_180 (zi_at zh_dX2_faultsFrom_80_80 13 rfl) (zi_at zh_dX2_faultsFrom_80_80 14 rfl) (zi_at zh_dX2_faultsFrom_80_80 15 rfl) rfl
theorem dX2_faultsFrom_96 : decode cX2_faultsFrom 96 = .ok (.getfield 157, 3) := zo_180 (zi_at zh_dX2_faultsFrom_96_96 0 rfl) (zi_at zh_dX2_faultsFrom_96_96 1 rfl) (zi_at zh_dX2_faultsFrom_96_96 2 rfl) rfl
theorem dX2_faultsFrom_99 : decode cX2_faultsFrom 99 = .ok (.bipush 8, 2) := zo_16 (zi_at zh_dX2_faultsFrom_96_96 3 rfl) (zi_at zh_dX2_faultsFrom_96_96 4 rfl) rfl
theorem dX2_faultsFrom_101 : decode cX2_faultsFrom 101 = .ok (.iload_n 1, 1) := zo_27 (zi_at zh_dX2_faultsFrom_96_96 5 rfl)
theorem dX2_faultsFrom_102 : decode cX2_faultsFrom 102 = .ok (.iload_n 2, 1) := zo_28 (zi_at zh_dX2_faultsFrom_96_96 6 rfl)
theorem dX2_faultsFrom_103 : decode cX2_faultsFrom 103 = .ok (.iload 4, 2) := zo_21 (zi_at zh_dX2_faultsFrom_96_96 7 rfl) (zi_at zh_dX2_faultsFrom_96_96 8 rfl)
theorem dX2_faultsFrom_105 : decode cX2_faultsFrom 105 = .ok (.iload 5, 2) := zo_21 (zi_at zh_dX2_faultsFrom_96_96 9 rfl) (zi_at zh_dX2_faultsFrom_96_96 10 rfl)
theorem dX2_faultsFrom_107 : decode cX2_faultsFrom 107 = .ok (.invokestatic 160, 3) := zo_184 (zi_at zh_dX2_faultsFrom_96_96 11 rfl) (zi_at zh_dX2_faultsFrom_96_96 12 rfl) (zi_at zh_dX2_faultsFrom_96_96 13 rfl) rfl
theorem dX2_faultsFrom_110 : decode cX2_faultsFrom 110 = .ok (.iastore, 1) := zo_79 (zi_at zh_dX2_faultsFrom_96_96 14 rfl)
theorem dX2_faultsFrom_111 : decode cX2_faultsFrom 111 = .ok (.aload_n 0, 1) := zo_42 (zi_at zh_dX2_faultsFrom_96_96 15 rfl)
theorem dX2_faultsFrom_112 : decode cX2_faultsFrom 112 = .ok (.getfield 27, 3) := zo_180 (zi_at zh_dX2_faultsFrom_112_112 0 rfl) (zi_at zh_dX2_faultsFrom_112_112 1 rfl) (zi_at zh_dX2_faultsFrom_112_112 2 rfl) rfl
theorem dX2_faultsFrom_115 : decode cX2_faultsFrom 115 = .ok (.getfield 157, 3) := zo_180 (zi_at zh_dX2_faultsFrom_112_112 3 rfl) (zi_at zh_dX2_faultsFrom_112_112 4 rfl) (zi_at zh_dX2_faultsFrom_112_112 5 rfl) rfl
theorem dX2_faultsFrom_118 : decode cX2_faultsFrom 118 = .ok (.bipush 11, 2) := zo_16 (zi_at zh_dX2_faultsFrom_112_112 6 rfl) (zi_at zh_dX2_faultsFrom_112_112 7 rfl) rfl
theorem dX2_faultsFrom_120 : decode cX2_faultsFrom 120 = .ok (.iload 6, 2) := zo_21 (zi_at zh_dX2_faultsFrom_112_112 8 rfl) (zi_at zh_dX2_faultsFrom_112_112 9 rfl)
theorem dX2_faultsFrom_122 : decode cX2_faultsFrom 122 = .ok (.ifCond .le 7, 3) := zo_158 (zi_at zh_dX2_faultsFrom_112_112 10 rfl) (zi_at zh_dX2_faultsFrom_112_112 11 rfl) (zi_at zh_dX2_faultsFrom_112_112 12 rfl) rfl
theorem dX2_faultsFrom_125 : decode cX2_faultsFrom 125 = .ok (.iconst 1, 1) := zo_4 (zi_at zh_dX2_faultsFrom_112_112 13 rfl)
theorem dX2_faultsFrom_126 : decode cX2_faultsFrom 126 = .ok (.goto 4, 3) := zo_167 (zi_at zh_dX2_faultsFrom_112_112 14 rfl) (zi_at zh_dX2_faultsFrom_112_112 15 rfl) (zi_at zh_dX2_faultsFrom_126_128 0 rfl) rfl
theorem dX2_faultsFrom_129 : decode cX2_faultsFrom 129 = .ok (.iconst 0, 1) := zo_3 (zi_at zh_dX2_faultsFrom_126_128 1 rfl)
theorem dX2_faultsFrom_130 : decode cX2_faultsFrom 130 = .ok (.iastore, 1) := zo_79 (zi_at zh_dX2_faultsFrom_126_128 2 rfl)
theorem dX2_faultsFrom_131 : decode cX2_faultsFrom 131 = .ok (.aload_n 0, 1) := zo_42 (zi_at zh_dX2_faultsFrom_126_128 3 rfl)
theorem dX2_faultsFrom_132 : decode cX2_faultsFrom 132 = .ok (.getfield 27, 3) := zo_180 (zi_at zh_dX2_faultsFrom_126_128 4 rfl) (zi_at zh_dX2_faultsFrom_126_128 5 rfl) (zi_at zh_dX2_faultsFrom_126_128 6 rfl) rfl
theorem dX2_faultsFrom_135 : decode cX2_faultsFrom 135 = .ok (.getfield 157, 3) := zo_180 (zi_at zh_dX2_faultsFrom_126_128 7 rfl) (zi_at zh_dX2_faultsFrom_126_128 8 rfl) (zi_at zh_dX2_faultsFrom_126_128 9 rfl) rfl
theorem dX2_faultsFrom_138 : decode cX2_faultsFrom 138 = .ok (.bipush 12, 2) := zo_16 (zi_at zh_dX2_faultsFrom_126_128 10 rfl) (zi_at zh_dX2_faultsFrom_126_128 11 rfl) rfl
theorem dX2_faultsFrom_140 : decode cX2_faultsFrom 140 = .ok (.iload_n 1, 1) := zo_27 (zi_at zh_dX2_faultsFrom_126_128 12 rfl)
theorem dX2_faultsFrom_141 : decode cX2_faultsFrom 141 = .ok (.iload_n 2, 1) := zo_28 (zi_at zh_dX2_faultsFrom_126_128 13 rfl)
theorem dX2_faultsFrom_142 : decode cX2_faultsFrom 142 = .ok (.aload_n 0, 1) := zo_42 (zi_at zh_dX2_faultsFrom_126_128 14 rfl)
theorem dX2_faultsFrom_143 : decode cX2_faultsFrom 143 = .ok (.getfield 117, 3) := zo_180 (zi_at zh_dX2_faultsFrom_126_128 15 rfl) (zi_at zh_dX2_faultsFrom_143_144 0 rfl) (zi_at zh_dX2_faultsFrom_143_144 1 rfl) rfl
theorem dX2_faultsFrom_146 : decode cX2_faultsFrom 146 = .ok (.getfield 164, 3) := zo_180 (zi_at zh_dX2_faultsFrom_143_144 2 rfl) (zi_at zh_dX2_faultsFrom_143_144 3 rfl) (zi_at zh_dX2_faultsFrom_143_144 4 rfl) rfl
theorem dX2_faultsFrom_149 : decode cX2_faultsFrom 149 = .ok (.aload_n 0, 1) := zo_42 (zi_at zh_dX2_faultsFrom_143_144 5 rfl)
theorem dX2_faultsFrom_150 : decode cX2_faultsFrom 150 = .ok (.getfield 117, 3) := zo_180 (zi_at zh_dX2_faultsFrom_143_144 6 rfl) (zi_at zh_dX2_faultsFrom_143_144 7 rfl) (zi_at zh_dX2_faultsFrom_143_144 8 rfl) rfl
theorem dX2_faultsFrom_153 : decode cX2_faultsFrom 153 = .ok (.getfield 165, 3) := zo_180 (zi_at zh_dX2_faultsFrom_143_144 9 rfl) (zi_at zh_dX2_faultsFrom_143_144 10 rfl) (zi_at zh_dX2_faultsFrom_143_144 11 rfl) rfl
theorem dX2_faultsFrom_156 : decode cX2_faultsFrom 156 = .ok (.invokestatic 160, 3) := zo_184 (zi_at zh_dX2_faultsFrom_143_144 12 rfl) (zi_at zh_dX2_faultsFrom_143_144 13 rfl) (zi_at zh_dX2_faultsFrom_143_144 14 rfl) rfl
theorem dX2_faultsFrom_159 : decode cX2_faultsFrom 159 = .ok (.iastore, 1) := zo_79 (zi_at zh_dX2_faultsFrom_143_144 15 rfl)
theorem dX2_faultsFrom_160 : decode cX2_faultsFrom 160 = .ok (.aload_n 0, 1) := zo_42 (zi_at zh_dX2_faultsFrom_160_160 0 rfl)
theorem dX2_faultsFrom_161 : decode cX2_faultsFrom 161 = .ok (.getfield 27, 3) := zo_180 (zi_at zh_dX2_faultsFrom_160_160 1 rfl) (zi_at zh_dX2_faultsFrom_160_160 2 rfl) (zi_at zh_dX2_faultsFrom_160_160 3 rfl) rfl
theorem dX2_faultsFrom_164 : decode cX2_faultsFrom 164 = .ok (.getfield 157, 3) := zo_180 (zi_at zh_dX2_faultsFrom_160_160 4 rfl) (zi_at zh_dX2_faultsFrom_160_160 5 rfl) (zi_at zh_dX2_faultsFrom_160_160 6 rfl) rfl
theorem dX2_faultsFrom_167 : decode cX2_faultsFrom 167 = .ok (.iconst 3, 1) := zo_6 (zi_at zh_dX2_faultsFrom_160_160 7 rfl)
theorem dX2_faultsFrom_168 : decode cX2_faultsFrom 168 = .ok (.iload 4, 2) := zo_21 (zi_at zh_dX2_faultsFrom_160_160 8 rfl) (zi_at zh_dX2_faultsFrom_160_160 9 rfl)
theorem dX2_faultsFrom_170 : decode cX2_faultsFrom 170 = .ok (.iload 5, 2) := zo_21 (zi_at zh_dX2_faultsFrom_160_160 10 rfl) (zi_at zh_dX2_faultsFrom_160_160 11 rfl)
theorem dX2_faultsFrom_172 : decode cX2_faultsFrom 172 = .ok (.aload_n 0, 1) := zo_42 (zi_at zh_dX2_faultsFrom_160_160 12 rfl)
theorem dX2_faultsFrom_173 : decode cX2_faultsFrom 173 = .ok (.getfield 117, 3) := zo_180 (zi_at zh_dX2_faultsFrom_160_160 13 rfl) (zi_at zh_dX2_faultsFrom_160_160 14 rfl) (zi_at zh_dX2_faultsFrom_160_160 15 rfl) rfl
theorem dX2_faultsFrom_176 : decode cX2_faultsFrom 176 = .ok (.getfield 164, 3) := zo_180 (zi_at zh_dX2_faultsFrom_176_176 0 rfl) (zi_at zh_dX2_faultsFrom_176_176 1 rfl) (zi_at zh_dX2_faultsFrom_176_176 2 rfl) rfl
theorem dX2_faultsFrom_179 : decode cX2_faultsFrom 179 = .ok (.aload_n 0, 1) := zo_42 (zi_at zh_dX2_faultsFrom_176_176 3 rfl)
theorem dX2_faultsFrom_180 : decode cX2_faultsFrom 180 = .ok (.getfield 117, 3) := zo_180 (zi_at zh_dX2_faultsFrom_176_176 4 rfl) (zi_at zh_dX2_faultsFrom_176_176 5 rfl) (zi_at zh_dX2_faultsFrom_176_176 6 rfl) rfl
theorem dX2_faultsFrom_183 : decode cX2_faultsFrom 183 = .ok (.getfield 165, 3) := zo_180 (zi_at zh_dX2_faultsFrom_176_176 7 rfl) (zi_at zh_dX2_faultsFrom_176_176 8 rfl) (zi_at zh_dX2_faultsFrom_176_176 9 rfl) rfl
theorem dX2_faultsFrom_186 : decode cX2_faultsFrom 186 = .ok (.invokestatic 160, 3) := zo_184 (zi_at zh_dX2_faultsFrom_176_176 10 rfl) (zi_at zh_dX2_faultsFrom_176_176 11 rfl) (zi_at zh_dX2_faultsFrom_176_176 12 rfl) rfl
theorem dX2_faultsFrom_189 : decode cX2_faultsFrom 189 = .ok (.iastore, 1) := zo_79 (zi_at zh_dX2_faultsFrom_176_176 13 rfl)
theorem dX2_faultsFrom_190 : decode cX2_faultsFrom 190 = .ok (.iload_n 3, 1) := zo_29 (zi_at zh_dX2_faultsFrom_176_176 14 rfl)
theorem dX2_faultsFrom_191 : decode cX2_faultsFrom 191 = .ok (.aload_n 0, 1) := zo_42 (zi_at zh_dX2_faultsFrom_176_176 15 rfl)
theorem dX2_faultsFrom_192 : decode cX2_faultsFrom 192 = .ok (.invokevirtual 166, 3) := zo_182 (zi_at zh_dX2_faultsFrom_192_192 0 rfl) (zi_at zh_dX2_faultsFrom_192_192 1 rfl) (zi_at zh_dX2_faultsFrom_192_192 2 rfl) rfl
theorem dX2_faultsFrom_195 : decode cX2_faultsFrom 195 = .ok (.ior, 1) := zo_128 (zi_at zh_dX2_faultsFrom_192_192 3 rfl)
theorem dX2_faultsFrom_196 : decode cX2_faultsFrom 196 = .ok (.istore_n 3, 1) := zo_62 (zi_at zh_dX2_faultsFrom_192_192 4 rfl)
theorem dX2_faultsFrom_197 : decode cX2_faultsFrom 197 = .ok (.iinc 5 1, 3) := zo_132 (zi_at zh_dX2_faultsFrom_192_192 5 rfl) (zi_at zh_dX2_faultsFrom_192_192 6 rfl) (zi_at zh_dX2_faultsFrom_192_192 7 rfl) rfl
theorem dX2_faultsFrom_200 : decode cX2_faultsFrom 200 = .ok (.goto (-166), 3) := zo_167 (zi_at zh_dX2_faultsFrom_192_192 8 rfl) (zi_at zh_dX2_faultsFrom_192_192 9 rfl) (zi_at zh_dX2_faultsFrom_192_192 10 rfl) rfl
theorem dX2_faultsFrom_203 : decode cX2_faultsFrom 203 = .ok (.iinc 4 1, 3) := zo_132 (zi_at zh_dX2_faultsFrom_192_192 11 rfl) (zi_at zh_dX2_faultsFrom_192_192 12 rfl) (zi_at zh_dX2_faultsFrom_192_192 13 rfl) rfl
theorem dX2_faultsFrom_206 : decode cX2_faultsFrom 206 = .ok (.goto (-196), 3) := zo_167 (zi_at zh_dX2_faultsFrom_192_192 14 rfl) (zi_at zh_dX2_faultsFrom_192_192 15 rfl) (zi_at zh_dX2_faultsFrom_206_208 0 rfl) rfl
theorem dX2_faultsFrom_209 : decode cX2_faultsFrom 209 = .ok (.iload_n 3, 1) := zo_29 (zi_at zh_dX2_faultsFrom_206_208 1 rfl)
theorem dX2_faultsFrom_210 : decode cX2_faultsFrom 210 = .ok (.ireturn, 1) := zo_172 (zi_at zh_dX2_faultsFrom_206_208 2 rfl)
theorem dX2_faultsOnTacks_0 : decode cX2_faultsOnTacks 0 = .ok (.iconst 0, 1) := zo_3 (zi_at zh_dX2_faultsOnTacks_0_0 0 rfl)
theorem dX2_faultsOnTacks_1 : decode cX2_faultsOnTacks 1 = .ok (.istore_n 1, 1) := zo_60 (zi_at zh_dX2_faultsOnTacks_0_0 1 rfl)
theorem dX2_faultsOnTacks_2 : decode cX2_faultsOnTacks 2 = .ok (.iconst 0, 1) := zo_3 (zi_at zh_dX2_faultsOnTacks_0_0 2 rfl)
theorem dX2_faultsOnTacks_3 : decode cX2_faultsOnTacks 3 = .ok (.istore_n 2, 1) := zo_61 (zi_at zh_dX2_faultsOnTacks_0_0 3 rfl)
theorem dX2_faultsOnTacks_4 : decode cX2_faultsOnTacks 4 = .ok (.iload_n 2, 1) := zo_28 (zi_at zh_dX2_faultsOnTacks_0_0 4 rfl)
theorem dX2_faultsOnTacks_5 : decode cX2_faultsOnTacks 5 = .ok (.bipush 8, 2) := zo_16 (zi_at zh_dX2_faultsOnTacks_0_0 5 rfl) (zi_at zh_dX2_faultsOnTacks_0_0 6 rfl) rfl
theorem dX2_faultsOnTacks_7 : decode cX2_faultsOnTacks 7 = .ok (.if_icmp .ge 95, 3) := zo_162 (zi_at zh_dX2_faultsOnTacks_0_0 7 rfl) (zi_at zh_dX2_faultsOnTacks_0_0 8 rfl) (zi_at zh_dX2_faultsOnTacks_0_0 9 rfl) rfl
theorem dX2_faultsOnTacks_10 : decode cX2_faultsOnTacks 10 = .ok (.iload_n 1, 1) := zo_27 (zi_at zh_dX2_faultsOnTacks_0_0 10 rfl)
theorem dX2_faultsOnTacks_11 : decode cX2_faultsOnTacks 11 = .ok (.iconst 3, 1) := zo_6 (zi_at zh_dX2_faultsOnTacks_0_0 11 rfl)
theorem dX2_faultsOnTacks_12 : decode cX2_faultsOnTacks 12 = .ok (.if_icmp .eq 90, 3) := zo_159 (zi_at zh_dX2_faultsOnTacks_0_0 12 rfl) (zi_at zh_dX2_faultsOnTacks_0_0 13 rfl) (zi_at zh_dX2_faultsOnTacks_0_0 14 rfl) rfl
theorem dX2_faultsOnTacks_15 : decode cX2_faultsOnTacks 15 = .ok (.aload_n 0, 1) := zo_42 (zi_at zh_dX2_faultsOnTacks_0_0 15 rfl)
theorem dX2_faultsOnTacks_16 : decode cX2_faultsOnTacks 16 = .ok (.getfield 139, 3) := zo_180 (zi_at zh_dX2_faultsOnTacks_16_16 0 rfl) (zi_at zh_dX2_faultsOnTacks_16_16 1 rfl) (zi_at zh_dX2_faultsOnTacks_16_16 2 rfl) rfl
theorem dX2_faultsOnTacks_19 : decode cX2_faultsOnTacks 19 = .ok (.iload_n 2, 1) := zo_28 (zi_at zh_dX2_faultsOnTacks_16_16 3 rfl)
theorem dX2_faultsOnTacks_20 : decode cX2_faultsOnTacks 20 = .ok (.ishr, 1) := zo_122 (zi_at zh_dX2_faultsOnTacks_16_16 4 rfl)
theorem dX2_faultsOnTacks_21 : decode cX2_faultsOnTacks 21 = .ok (.iconst 1, 1) := zo_4 (zi_at zh_dX2_faultsOnTacks_16_16 5 rfl)
theorem dX2_faultsOnTacks_22 : decode cX2_faultsOnTacks 22 = .ok (.iand, 1) := zo_126 (zi_at zh_dX2_faultsOnTacks_16_16 6 rfl)
theorem dX2_faultsOnTacks_23 : decode cX2_faultsOnTacks 23 = .ok (.ifCond .ne 6, 3) := zo_154 (zi_at zh_dX2_faultsOnTacks_16_16 7 rfl) (zi_at zh_dX2_faultsOnTacks_16_16 8 rfl) (zi_at zh_dX2_faultsOnTacks_16_16 9 rfl) rfl
theorem dX2_faultsOnTacks_26 : decode cX2_faultsOnTacks 26 = .ok (.goto 70, 3) := zo_167 (zi_at zh_dX2_faultsOnTacks_16_16 10 rfl) (zi_at zh_dX2_faultsOnTacks_16_16 11 rfl) (zi_at zh_dX2_faultsOnTacks_16_16 12 rfl) rfl
theorem dX2_faultsOnTacks_29 : decode cX2_faultsOnTacks 29 = .ok (.aload_n 0, 1) := zo_42 (zi_at zh_dX2_faultsOnTacks_16_16 13 rfl)
theorem dX2_faultsOnTacks_30 : decode cX2_faultsOnTacks 30 = .ok (.getfield 27, 3) := zo_180 (zi_at zh_dX2_faultsOnTacks_16_16 14 rfl) (zi_at zh_dX2_faultsOnTacks_16_16 15 rfl) (zi_at zh_dX2_faultsOnTacks_30_32 0 rfl) rfl
theorem dX2_faultsOnTacks_33 : decode cX2_faultsOnTacks 33 = .ok (.getfield 157, 3) := zo_180 (zi_at zh_dX2_faultsOnTacks_30_32 1 rfl) (zi_at zh_dX2_faultsOnTacks_30_32 2 rfl) (zi_at zh_dX2_faultsOnTacks_30_32 3 rfl) rfl
theorem dX2_faultsOnTacks_36 : decode cX2_faultsOnTacks 36 = .ok (.bipush 9, 2) := zo_16 (zi_at zh_dX2_faultsOnTacks_30_32 4 rfl) (zi_at zh_dX2_faultsOnTacks_30_32 5 rfl) rfl
theorem dX2_faultsOnTacks_38 : decode cX2_faultsOnTacks 38 = .ok (.iload_n 2, 1) := zo_28 (zi_at zh_dX2_faultsOnTacks_30_32 6 rfl)
theorem dX2_faultsOnTacks_39 : decode cX2_faultsOnTacks 39 = .ok (.iconst 2, 1) := zo_5 (zi_at zh_dX2_faultsOnTacks_30_32 7 rfl)
theorem dX2_faultsOnTacks_40 : decode cX2_faultsOnTacks 40 = .ok (.ishr, 1) := zo_122 (zi_at zh_dX2_faultsOnTacks_30_32 8 rfl)
theorem dX2_faultsOnTacks_41 : decode cX2_faultsOnTacks 41 = .ok (.iastore, 1) := zo_79 (zi_at zh_dX2_faultsOnTacks_30_32 9 rfl)
theorem dX2_faultsOnTacks_42 : decode cX2_faultsOnTacks 42 = .ok (.aload_n 0, 1) := zo_42 (zi_at zh_dX2_faultsOnTacks_30_32 10 rfl)
theorem dX2_faultsOnTacks_43 : decode cX2_faultsOnTacks 43 = .ok (.getfield 27, 3) := zo_180 (zi_at zh_dX2_faultsOnTacks_30_32 11 rfl) (zi_at zh_dX2_faultsOnTacks_30_32 12 rfl) (zi_at zh_dX2_faultsOnTacks_30_32 13 rfl) rfl
theorem dX2_faultsOnTacks_46 : decode cX2_faultsOnTacks 46 = .ok (.getfield 157, 3) := zo_180 (zi_at zh_dX2_faultsOnTacks_30_32 14 rfl) (zi_at zh_dX2_faultsOnTacks_30_32 15 rfl) (zi_at zh_dX2_faultsOnTacks_46_48 0 rfl) rfl
theorem dX2_faultsOnTacks_49 : decode cX2_faultsOnTacks 49 = .ok (.bipush 10, 2) := zo_16 (zi_at zh_dX2_faultsOnTacks_46_48 1 rfl) (zi_at zh_dX2_faultsOnTacks_46_48 2 rfl) rfl
theorem dX2_faultsOnTacks_51 : decode cX2_faultsOnTacks 51 = .ok (.iload_n 2, 1) := zo_28 (zi_at zh_dX2_faultsOnTacks_46_48 3 rfl)
theorem dX2_faultsOnTacks_52 : decode cX2_faultsOnTacks 52 = .ok (.iconst 1, 1) := zo_4 (zi_at zh_dX2_faultsOnTacks_46_48 4 rfl)
theorem dX2_faultsOnTacks_53 : decode cX2_faultsOnTacks 53 = .ok (.ishr, 1) := zo_122 (zi_at zh_dX2_faultsOnTacks_46_48 5 rfl)
theorem dX2_faultsOnTacks_54 : decode cX2_faultsOnTacks 54 = .ok (.iconst 1, 1) := zo_4 (zi_at zh_dX2_faultsOnTacks_46_48 6 rfl)
theorem dX2_faultsOnTacks_55 : decode cX2_faultsOnTacks 55 = .ok (.iand, 1) := zo_126 (zi_at zh_dX2_faultsOnTacks_46_48 7 rfl)
theorem dX2_faultsOnTacks_56 : decode cX2_faultsOnTacks 56 = .ok (.iastore, 1) := zo_79 (zi_at zh_dX2_faultsOnTacks_46_48 8 rfl)
theorem dX2_faultsOnTacks_57 : decode cX2_faultsOnTacks 57 = .ok (.aload_n 0, 1) := zo_42 (zi_at zh_dX2_faultsOnTacks_46_48 9 rfl)
theorem dX2_faultsOnTacks_58 : decode cX2_faultsOnTacks 58 = .ok (.getfield 27, 3) := zo_180 (zi_at zh_dX2_faultsOnTacks_46_48 10 rfl) (zi_at zh_dX2_faultsOnTacks_46_48 11 rfl) (zi_at zh_dX2_faultsOnTacks_46_48 12 rfl) rfl
theorem dX2_faultsOnTacks_61 : decode cX2_faultsOnTacks 61 = .ok (.getfield 157, 3) := zo_180 (zi_at zh_dX2_faultsOnTacks_46_48 13 rfl) (zi_at zh_dX2_faultsOnTacks_46_48 14 rfl) (zi_at zh_dX2_faultsOnTacks_46_48 15 rfl) rfl
theorem dX2_faultsOnTacks_64 : decode cX2_faultsOnTacks 64 = .ok (.bipush 13, 2) := zo_16 (zi_at zh_dX2_faultsOnTacks_64_64 0 rfl) (zi_at zh_dX2_faultsOnTacks_64_64 1 rfl) rfl
theorem dX2_faultsOnTacks_66 : decode cX2_faultsOnTacks 66 = .ok (.iload_n 2, 1) := zo_28 (zi_at zh_dX2_faultsOnTacks_64_64 2 rfl)
theorem dX2_faultsOnTacks_67 : decode cX2_faultsOnTacks 67 = .ok (.iconst 1, 1) := zo_4 (zi_at zh_dX2_faultsOnTacks_64_64 3 rfl)
theorem dX2_faultsOnTacks_68 : decode cX2_faultsOnTacks 68 = .ok (.iand, 1) := zo_126 (zi_at zh_dX2_faultsOnTacks_64_64 4 rfl)
theorem dX2_faultsOnTacks_69 : decode cX2_faultsOnTacks 69 = .ok (.iastore, 1) := zo_79 (zi_at zh_dX2_faultsOnTacks_64_64 5 rfl)
theorem dX2_faultsOnTacks_70 : decode cX2_faultsOnTacks 70 = .ok (.iload_n 1, 1) := zo_27 (zi_at zh_dX2_faultsOnTacks_64_64 6 rfl)
theorem dX2_faultsOnTacks_71 : decode cX2_faultsOnTacks 71 = .ok (.aload_n 0, 1) := zo_42 (zi_at zh_dX2_faultsOnTacks_64_64 7 rfl)
theorem dX2_faultsOnTacks_72 : decode cX2_faultsOnTacks 72 = .ok (.getfield 27, 3) := zo_180 (zi_at zh_dX2_faultsOnTacks_64_64 8 rfl) (zi_at zh_dX2_faultsOnTacks_64_64 9 rfl) (zi_at zh_dX2_faultsOnTacks_64_64 10 rfl) rfl
theorem dX2_faultsOnTacks_75 : decode cX2_faultsOnTacks 75 = .ok (.aload_n 0, 1) := zo_42 (zi_at zh_dX2_faultsOnTacks_64_64 11 rfl)
theorem dX2_faultsOnTacks_76 : decode cX2_faultsOnTacks 76 = .ok (.getfield 126, 3) := zo_180 (zi_at zh_dX2_faultsOnTacks_64_64 12 rfl) (zi_at zh_dX2_faultsOnTacks_64_64 13 rfl) (zi_at zh_dX2_faultsOnTacks_64_64 14 rfl) rfl
theorem dX2_faultsOnTacks_79 : decode cX2_faultsOnTacks 79 = .ok (.aload_n 0, 1) := zo_42 (zi_at zh_dX2_faultsOnTacks_64_64 15 rfl)
theorem dX2_faultsOnTacks_80 : decode cX2_faultsOnTacks 80 = .ok (.getfield 129, 3) := zo_180 (zi_at zh_dX2_faultsOnTacks_80_80 0 rfl) (zi_at zh_dX2_faultsOnTacks_80_80 1 rfl) (zi_at zh_dX2_faultsOnTacks_80_80 2 rfl) rfl
theorem dX2_faultsOnTacks_83 : decode cX2_faultsOnTacks 83 = .ok (.invokevirtual 169, 3) := zo_182 (zi_at zh_dX2_faultsOnTacks_80_80 3 rfl) (zi_at zh_dX2_faultsOnTacks_80_80 4 rfl) (zi_at zh_dX2_faultsOnTacks_80_80 5 rfl) rfl
theorem dX2_faultsOnTacks_86 : decode cX2_faultsOnTacks 86 = .ok (.ifCond .ne 7, 3) := zo_154 (zi_at zh_dX2_faultsOnTacks_80_80 6 rfl) (zi_at zh_dX2_faultsOnTacks_80_80 7 rfl) (zi_at zh_dX2_faultsOnTacks_80_80 8 rfl) rfl
theorem dX2_faultsOnTacks_89 : decode cX2_faultsOnTacks 89 = .ok (.iconst 1, 1) := zo_4 (zi_at zh_dX2_faultsOnTacks_80_80 9 rfl)
theorem dX2_faultsOnTacks_90 : decode cX2_faultsOnTacks 90 = .ok (.goto 4, 3) := zo_167 (zi_at zh_dX2_faultsOnTacks_80_80 10 rfl) (zi_at zh_dX2_faultsOnTacks_80_80 11 rfl) (zi_at zh_dX2_faultsOnTacks_80_80 12 rfl) rfl
theorem dX2_faultsOnTacks_93 : decode cX2_faultsOnTacks 93 = .ok (.iconst 2, 1) := zo_5 (zi_at zh_dX2_faultsOnTacks_80_80 13 rfl)
theorem dX2_faultsOnTacks_94 : decode cX2_faultsOnTacks 94 = .ok (.ior, 1) := zo_128 (zi_at zh_dX2_faultsOnTacks_80_80 14 rfl)
theorem dX2_faultsOnTacks_95 : decode cX2_faultsOnTacks 95 = .ok (.istore_n 1, 1) := zo_60 (zi_at zh_dX2_faultsOnTacks_80_80 15 rfl)
theorem dX2_faultsOnTacks_96 : decode cX2_faultsOnTacks 96 = .ok (.iinc 2 1, 3) := zo_132 (zi_at zh_dX2_faultsOnTacks_96_96 0 rfl) (zi_at zh_dX2_faultsOnTacks_96_96 1 rfl) (zi_at zh_dX2_faultsOnTacks_96_96 2 rfl) rfl
theorem dX2_faultsOnTacks_99 : decode cX2_faultsOnTacks 99 = .ok (.goto (-95), 3) := zo_167 (zi_at zh_dX2_faultsOnTacks_96_96 3 rfl) (zi_at zh_dX2_faultsOnTacks_96_96 4 rfl) (zi_at zh_dX2_faultsOnTacks_96_96 5 rfl) rfl
theorem dX2_faultsOnTacks_102 : decode cX2_faultsOnTacks 102 = .ok (.iload_n 1, 1) := zo_27 (zi_at zh_dX2_faultsOnTacks_96_96 6 rfl)
theorem dX2_faultsOnTacks_103 : decode cX2_faultsOnTacks 103 = .ok (.ireturn, 1) := zo_172 (zi_at zh_dX2_faultsOnTacks_96_96 7 rfl)
theorem dX8_tally_0 : decode cX8_tally 0 = .ok (.aload_n 0, 1) := zo_42 (zi_at zh_dX8_tally_0_0 0 rfl)
theorem dX8_tally_1 : decode cX8_tally 1 = .ok (.aload_n 0, 1) := zo_42 (zi_at zh_dX8_tally_0_0 1 rfl)
theorem dX8_tally_2 : decode cX8_tally 2 = .ok (.getfield 34, 3) := zo_180 (zi_at zh_dX8_tally_0_0 2 rfl) (zi_at zh_dX8_tally_0_0 3 rfl) (zi_at zh_dX8_tally_0_0 4 rfl) rfl
theorem dX8_tally_5 : decode cX8_tally 5 = .ok (.iload_n 1, 1) := zo_27 (zi_at zh_dX8_tally_0_0 5 rfl)
theorem dX8_tally_6 : decode cX8_tally 6 = .ok (.invokevirtual 70, 3) := zo_182 (zi_at zh_dX8_tally_0_0 6 rfl) (zi_at zh_dX8_tally_0_0 7 rfl) (zi_at zh_dX8_tally_0_0 8 rfl) rfl
theorem dX8_tally_9 : decode cX8_tally 9 = .ok (.putfield 73, 3) := zo_181 (zi_at zh_dX8_tally_0_0 9 rfl) (zi_at zh_dX8_tally_0_0 10 rfl) (zi_at zh_dX8_tally_0_0 11 rfl) rfl
theorem dX8_tally_12 : decode cX8_tally 12 = .ok (.iconst 0, 1) := zo_3 (zi_at zh_dX8_tally_0_0 12 rfl)
theorem dX8_tally_13 : decode cX8_tally 13 = .ok (.istore_n 2, 1) := zo_61 (zi_at zh_dX8_tally_0_0 13 rfl)
theorem dX8_tally_14 : decode cX8_tally 14 = .ok (.iload_n 2, 1) := zo_28 (zi_at zh_dX8_tally_0_0 14 rfl)
theorem dX8_tally_15 : decode cX8_tally 15 = .ok (.bipush 16, 2) := zo_16 (zi_at zh_dX8_tally_0_0 15 rfl) (zi_at zh_dX8_tally_15_16 0 rfl) rfl
theorem dX8_tally_17 : decode cX8_tally 17 = .ok (.if_icmp .ge 16, 3) := zo_162 (zi_at zh_dX8_tally_15_16 1 rfl) (zi_at zh_dX8_tally_15_16 2 rfl) (zi_at zh_dX8_tally_15_16 3 rfl) rfl
theorem dX8_tally_20 : decode cX8_tally 20 = .ok (.aload_n 0, 1) := zo_42 (zi_at zh_dX8_tally_15_16 4 rfl)
theorem dX8_tally_21 : decode cX8_tally 21 = .ok (.getfield 22, 3) := zo_180 (zi_at zh_dX8_tally_15_16 5 rfl) (zi_at zh_dX8_tally_15_16 6 rfl) (zi_at zh_dX8_tally_15_16 7 rfl) rfl
theorem dX8_tally_24 : decode cX8_tally 24 = .ok (.iload_n 2, 1) := zo_28 (zi_at zh_dX8_tally_15_16 8 rfl)
theorem dX8_tally_25 : decode cX8_tally 25 = .ok (.iconst 0, 1) := zo_3 (zi_at zh_dX8_tally_15_16 9 rfl)
theorem dX8_tally_26 : decode cX8_tally 26 = .ok (.bastore, 1) := zo_84 (zi_at zh_dX8_tally_15_16 10 rfl)
theorem dX8_tally_27 : decode cX8_tally 27 = .ok (.iinc 2 1, 3) := zo_132 (zi_at zh_dX8_tally_15_16 11 rfl) (zi_at zh_dX8_tally_15_16 12 rfl) (zi_at zh_dX8_tally_15_16 13 rfl) rfl
theorem dX8_tally_30 : decode cX8_tally 30 = .ok (.goto (-16), 3) := zo_167 (zi_at zh_dX8_tally_15_16 14 rfl) (zi_at zh_dX8_tally_15_16 15 rfl) (zi_at zh_dX8_tally_30_32 0 rfl) rfl
theorem dX8_tally_33 : decode cX8_tally 33 = .ok (.iconst 0, 1) := zo_3 (zi_at zh_dX8_tally_30_32 1 rfl)
theorem dX8_tally_34 : decode cX8_tally 34 = .ok (.istore_n 2, 1) := zo_61 (zi_at zh_dX8_tally_30_32 2 rfl)
theorem dX8_tally_35 : decode cX8_tally 35 = .ok (.iload_n 2, 1) := zo_28 (zi_at zh_dX8_tally_30_32 3 rfl)
theorem dX8_tally_36 : decode cX8_tally 36 = .ok (.aload_n 0, 1) := zo_42 (zi_at zh_dX8_tally_30_32 4 rfl)
theorem dX8_tally_37 : decode cX8_tally 37 = .ok (.getfield 73, 3) := zo_180 (zi_at zh_dX8_tally_30_32 5 rfl) (zi_at zh_dX8_tally_30_32 6 rfl) (zi_at zh_dX8_tally_30_32 7 rfl) rfl
theorem dX8_tally_40 : decode cX8_tally 40 = .ok (.if_icmp .ge 75, 3) := zo_162 (zi_at zh_dX8_tally_30_32 8 rfl) (zi_at zh_dX8_tally_30_32 9 rfl) (zi_at zh_dX8_tally_30_32 10 rfl) rfl
theorem dX8_tally_43 : decode cX8_tally 43 = .ok (.aload_n 0, 1) := zo_42 (zi_at zh_dX8_tally_30_32 11 rfl)
theorem dX8_tally_44 : decode cX8_tally 44 = .ok (.getfield 38, 3) := zo_180 (zi_at zh_dX8_tally_30_32 12 rfl) (zi_at zh_dX8_tally_30_32 13 rfl) (zi_at zh_dX8_tally_30_32 14 rfl) rfl
theorem dX8_tally_47 : decode cX8_tally 47 = .ok (.iload_n 2, 1) := zo_28 (zi_at zh_dX8_tally_30_32 15 rfl)
theorem dX8_tally_48 : decode cX8_tally 48 = .ok (.iload_n 1, 1) := zo_27 (zi_at zh_dX8_tally_48_48 0 rfl)
theorem dX8_tally_49 : decode cX8_tally 49 = .ok (.invokevirtual 60, 3) := zo_182 (zi_at zh_dX8_tally_48_48 1 rfl) (zi_at zh_dX8_tally_48_48 2 rfl) (zi_at zh_dX8_tally_48_48 3 rfl) rfl
theorem dX8_tally_52 : decode cX8_tally 52 = .ok (.iconst 0, 1) := zo_3 (zi_at zh_dX8_tally_48_48 4 rfl)
theorem dX8_tally_53 : decode cX8_tally 53 = .ok (.istore_n 3, 1) := zo_62 (zi_at zh_dX8_tally_48_48 5 rfl)
theorem dX8_tally_54 : decode cX8_tally 54 = .ok (.iload_n 3, 1) := zo_29 (zi_at zh_dX8_tally_48_48 6 rfl)
theorem dX8_tally_55 : decode cX8_tally 55 = .ok (.aload_n 0, 1) := zo_42 (zi_at zh_dX8_tally_48_48 7 rfl)
theorem dX8_tally_56 : decode cX8_tally 56 = .ok (.getfield 34, 3) := zo_180 (zi_at zh_dX8_tally_48_48 8 rfl) (zi_at zh_dX8_tally_48_48 9 rfl) (zi_at zh_dX8_tally_48_48 10 rfl) rfl
theorem dX8_tally_59 : decode cX8_tally 59 = .ok (.getfield 84, 3) := zo_180 (zi_at zh_dX8_tally_48_48 11 rfl) (zi_at zh_dX8_tally_48_48 12 rfl) (zi_at zh_dX8_tally_48_48 13 rfl) rfl
theorem dX8_tally_62 : decode cX8_tally 62 = .ok (.if_icmp .ge 47, 3) := zo_162 (zi_at zh_dX8_tally_48_48 14 rfl) (zi_at zh_dX8_tally_48_48 15 rfl) (zi_at zh_dX8_tally_62_64 0 rfl) rfl
theorem dX8_tally_65 : decode cX8_tally 65 = .ok (.aload_n 0, 1) := zo_42 (zi_at zh_dX8_tally_62_64 1 rfl)
theorem dX8_tally_66 : decode cX8_tally 66 = .ok (.getfield 38, 3) := zo_180 (zi_at zh_dX8_tally_62_64 2 rfl) (zi_at zh_dX8_tally_62_64 3 rfl) (zi_at zh_dX8_tally_62_64 4 rfl) rfl
theorem dX8_tally_69 : decode cX8_tally 69 = .ok (.getfield 87, 3) := zo_180 (zi_at zh_dX8_tally_62_64 5 rfl) (zi_at zh_dX8_tally_62_64 6 rfl) (zi_at zh_dX8_tally_62_64 7 rfl) rfl
theorem dX8_tally_72 : decode cX8_tally 72 = .ok (.iload_n 3, 1) := zo_29 (zi_at zh_dX8_tally_62_64 8 rfl)
theorem dX8_tally_73 : decode cX8_tally 73 = .ok (.iaload, 1) := zo_46 (zi_at zh_dX8_tally_62_64 9 rfl)
theorem dX8_tally_74 : decode cX8_tally 74 = .ok (.iconst (-1), 1) := zo_2 (zi_at zh_dX8_tally_62_64 10 rfl)
theorem dX8_tally_75 : decode cX8_tally 75 = .ok (.if_icmp .eq 10, 3) := zo_159 (zi_at zh_dX8_tally_62_64 11 rfl) (zi_at zh_dX8_tally_62_64 12 rfl) (zi_at zh_dX8_tally_62_64 13 rfl) rfl
theorem dX8_tally_78 : decode cX8_tally 78 = .ok (.aload_n 0, 1) := zo_42 (zi_at zh_dX8_tally_62_64 14 rfl)
theorem dX8_tally_79 : decode cX8_tally 79 = .ok (.getfield 22, 3) := zo_180 (zi_at zh_dX8_tally_62_64 15 rfl) (zi_at zh_dX8_tally_79_80 0 rfl) (zi_at zh_dX8_tally_79_80 1 rfl) rfl
theorem dX8_tally_82 : decode cX8_tally 82 = .ok (.iload_n 3, 1) := zo_29 (zi_at zh_dX8_tally_79_80 2 rfl)
theorem dX8_tally_83 : decode cX8_tally 83 = .ok (.iconst 1, 1) := zo_4 (zi_at zh_dX8_tally_79_80 3 rfl)
theorem dX8_tally_84 : decode cX8_tally 84 = .ok (.bastore, 1) := zo_84 (zi_at zh_dX8_tally_79_80 4 rfl)
theorem dX8_tally_85 : decode cX8_tally 85 = .ok (.aload_n 0, 1) := zo_42 (zi_at zh_dX8_tally_79_80 5 rfl)
theorem dX8_tally_86 : decode cX8_tally 86 = .ok (.getfield 9, 3) := zo_180 (zi_at zh_dX8_tally_79_80 6 rfl) (zi_at zh_dX8_tally_79_80 7 rfl) (zi_at zh_dX8_tally_79_80 8 rfl) rfl
theorem dX8_tally_89 : decode cX8_tally 89 = .ok (.iload_n 2, 1) := zo_28 (zi_at zh_dX8_tally_79_80 9 rfl)
theorem dX8_tally_90 : decode cX8_tally 90 = .ok (.iload_n 3, 1) := zo_29 (zi_at zh_dX8_tally_79_80 10 rfl)
theorem dX8_tally_91 : decode cX8_tally 91 = .ok (.invokestatic 76, 3) := zo_184 (zi_at zh_dX8_tally_79_80 11 rfl) (zi_at zh_dX8_tally_79_80 12 rfl) (zi_at zh_dX8_tally_79_80 13 rfl) rfl
theorem dX8_tally_94 : decode cX8_tally 94 = .ok (.aload_n 0, 1) := zo_42 (zi_at zh_dX8_tally_79_80 14 rfl)
theorem dX8_tally_95 : decode cX8_tally 95 = .ok (.getfield 38, 3) := zo_180 (zi_at zh_dX8_tally_79_80 15 rfl) (zi_at zh_dX8_tally_95_96 0 rfl) (zi_at zh_dX8_tally_95_96 1 rfl) rfl
theorem dX8_tally_98 : decode cX8_tally 98 = .ok (.iload_n 3, 1) := zo_29 (zi_at zh_dX8_tally_95_96 2 rfl)
theorem dX8_tally_99 : decode cX8_tally 99 = .ok (.invokevirtual 66, 3) := zo_182 (zi_at zh_dX8_tally_95_96 3 rfl) (zi_at zh_dX8_tally_95_96 4 rfl) (zi_at zh_dX8_tally_95_96 5 rfl) rfl
theorem dX8_tally_102 : decode cX8_tally 102 = .ok (.iastore, 1) := zo_79 (zi_at zh_dX8_tally_95_96 6 rfl)
theorem dX8_tally_103 : decode cX8_tally 103 = .ok (.iinc 3 1, 3) := zo_132 (zi_at zh_dX8_tally_95_96 7 rfl) (zi_at zh_dX8_tally_95_96 8 rfl) (zi_at zh_dX8_tally_95_96 9 rfl) rfl
theorem dX8_tally_106 : decode cX8_tally 106 = .ok (.goto (-52), 3) := zo_167 (zi_at zh_dX8_tally_95_96 10 rfl) (zi_at zh_dX8_tally_95_96 11 rfl) (zi_at zh_dX8_tally_95_96 12 rfl) rfl
theorem dX8_tally_109 : decode cX8_tally 109 = .ok (.iinc 2 1, 3) := zo_132 (zi_at zh_dX8_tally_95_96 13 rfl) (zi_at zh_dX8_tally_95_96 14 rfl) (zi_at zh_dX8_tally_95_96 15 rfl) rfl
theorem dX8_tally_112 : decode cX8_tally 112 = .ok (.goto (-77), 3) := zo_167 (zi_at zh_dX8_tally_112_112 0 rfl) (zi_at zh_dX8_tally_112_112 1 rfl) (zi_at zh_dX8_tally_112_112 2 rfl) rfl
theorem dX8_tally_115 : decode cX8_tally 115 = .ok (.aload_n 0, 1) := zo_42 (zi_at zh_dX8_tally_112_112 3 rfl)
theorem dX8_tally_116 : decode cX8_tally 116 = .ok (.iload_n 1, 1) := zo_27 (zi_at zh_dX8_tally_112_112 4 rfl)
theorem dX8_tally_117 : decode cX8_tally 117 = .ok (.invokevirtual 90, 3) := zo_182 (zi_at zh_dX8_tally_112_112 5 rfl) (zi_at zh_dX8_tally_112_112 6 rfl) (zi_at zh_dX8_tally_112_112 7 rfl) rfl
theorem dX8_tally_120 : decode cX8_tally 120 = .ok (.istore_n 2, 1) := zo_61 (zi_at zh_dX8_tally_112_112 8 rfl)
theorem dX8_tally_121 : decode cX8_tally 121 = .ok (.iconst 0, 1) := zo_3 (zi_at zh_dX8_tally_112_112 9 rfl)
theorem dX8_tally_122 : decode cX8_tally 122 = .ok (.istore_n 3, 1) := zo_62 (zi_at zh_dX8_tally_112_112 10 rfl)
theorem dX8_tally_123 : decode cX8_tally 123 = .ok (.iload_n 3, 1) := zo_29 (zi_at zh_dX8_tally_112_112 11 rfl)
theorem dX8_tally_124 : decode cX8_tally 124 = .ok (.aload_n 0, 1) := zo_42 (zi_at zh_dX8_tally_112_112 12 rfl)
theorem dX8_tally_125 : decode cX8_tally 125 = .ok (.getfield 34, 3) := zo_180 (zi_at zh_dX8_tally_112_112 13 rfl) (zi_at zh_dX8_tally_112_112 14 rfl) (zi_at zh_dX8_tally_112_112 15 rfl) rfl
theorem dX8_tally_128 : decode cX8_tally 128 = .ok (.getfield 84, 3) := zo_180 (zi_at zh_dX8_tally_128_128 0 rfl) (zi_at zh_dX8_tally_128_128 1 rfl) (zi_at zh_dX8_tally_128_128 2 rfl) rfl
theorem dX8_tally_131 : decode cX8_tally 131 = .ok (.if_icmp .ge 93, 3) := zo_162 (zi_at zh_dX8_tally_128_128 3 rfl) (zi_at zh_dX8_tally_128_128 4 rfl) (zi_at zh_dX8_tally_128_128 5 rfl) rfl
theorem dX8_tally_134 : decode cX8_tally 134 = .ok (.iconst 0, 1) := zo_3 (zi_at zh_dX8_tally_128_128 6 rfl)
theorem dX8_tally_135 : decode cX8_tally 135 = .ok (.istore 4, 2) := zo_54 (zi_at zh_dX8_tally_128_128 7 rfl) (zi_at zh_dX8_tally_128_128 8 rfl)
theorem dX8_tally_137 : decode cX8_tally 137 = .ok (.iload 4, 2) := zo_21 (zi_at zh_dX8_tally_128_128 9 rfl) (zi_at zh_dX8_tally_128_128 10 rfl)
theorem dX8_tally_139 : decode cX8_tally 139 = .ok (.aload_n 0, 1) := zo_42 (zi_at zh_dX8_tally_128_128 11 rfl)
theorem dX8_tally_140 : decode cX8_tally 140 = .ok (.getfield 73, 3) := zo_180 (zi_at zh_dX8_tally_128_128 12 rfl) (zi_at zh_dX8_tally_128_128 13 rfl) (zi_at zh_dX8_tally_128_128 14 rfl) rfl
theorem dX8_tally_143 : decode cX8_tally 143 = .ok (.if_icmp .ge 69, 3) := zo_162 (zi_at zh_dX8_tally_128_128 15 rfl) (zi_at zh_dX8_tally_143_144 0 rfl) (zi_at zh_dX8_tally_143_144 1 rfl) rfl
theorem dX8_tally_146 : decode cX8_tally 146 = .ok (.aload_n 0, 1) := zo_42 (zi_at zh_dX8_tally_143_144 2 rfl)
theorem dX8_tally_147 : decode cX8_tally 147 = .ok (.getfield 34, 3) := zo_180 (zi_at zh_dX8_tally_143_144 3 rfl) (zi_at zh_dX8_tally_143_144 4 rfl) (zi_at zh_dX8_tally_143_144 5 rfl) rfl
theorem dX8_tally_150 : decode cX8_tally 150 = .ok (.getfield 42, 3) := zo_180 (zi_at zh_dX8_tally_143_144 6 rfl) (zi_at zh_dX8_tally_143_144 7 rfl) (zi_at zh_dX8_tally_143_144 8 rfl) rfl
theorem dX8_tally_153 : decode cX8_tally 153 = .ok (.iload 4, 2) := zo_21 (zi_at zh_dX8_tally_143_144 9 rfl) (zi_at zh_dX8_tally_143_144 10 rfl)
theorem dX8_tally_155 : decode cX8_tally 155 = .ok (.invokevirtual 48, 3) := zo_182 (zi_at zh_dX8_tally_143_144 11 rfl) (zi_at zh_dX8_tally_143_144 12 rfl) (zi_at zh_dX8_tally_143_144 13 rfl) rfl
theorem dX8_tally_158 : decode cX8_tally 158 = .ok (.checkcast 54, 3) := zo_192 (zi_at zh_dX8_tally_143_144 14 rfl) (zi_at zh_dX8_tally_143_144 15 rfl) (zi_at zh_dX8_tally_158_160 0 rfl) rfl
theorem dX8_tally_161 : decode cX8_tally 161 = .ok (.iload_n 3, 1) := zo_29 (zi_at zh_dX8_tally_158_160 1 rfl)
theorem dX8_tally_162 : decode cX8_tally 162 = .ok (.iload_n 1, 1) := zo_27 (zi_at zh_dX8_tally_158_160 2 rfl)
theorem dX8_tally_163 : decode cX8_tally 163 = .ok (.invokevirtual 56, 3) := zo_182 (zi_at zh_dX8_tally_158_160 3 rfl) (zi_at zh_dX8_tally_158_160 4 rfl) (zi_at zh_dX8_tally_158_160 5 rfl) rfl
theorem dX8_tally_166 : decode cX8_tally 166 = .ok (.istore 5, 2) := zo_54 (zi_at zh_dX8_tally_158_160 6 rfl) (zi_at zh_dX8_tally_158_160 7 rfl)
theorem dX8_tally_168 : decode cX8_tally 168 = .ok (.aload_n 0, 1) := zo_42 (zi_at zh_dX8_tally_158_160 8 rfl)
theorem dX8_tally_169 : decode cX8_tally 169 = .ok (.getfield 15, 3) := zo_180 (zi_at zh_dX8_tally_158_160 9 rfl) (zi_at zh_dX8_tally_158_160 10 rfl) (zi_at zh_dX8_tally_158_160 11 rfl) rfl
theorem dX8_tally_172 : decode cX8_tally 172 = .ok (.iload 4, 2) := zo_21 (zi_at zh_dX8_tally_158_160 12 rfl) (zi_at zh_dX8_tally_158_160 13 rfl)
theorem dX8_tally_174 : decode cX8_tally 174 = .ok (.iload_n 3, 1) := zo_29 (zi_at zh_dX8_tally_158_160 14 rfl)
theorem dX8_tally_175 : decode cX8_tally 175 = .ok (.invokestatic 76, 3) := zo_184 (zi_at zh_dX8_tally_158_160 15 rfl) (zi_at zh_dX8_tally_175_176 0 rfl) (zi_at zh_dX8_tally_175_176 1 rfl) rfl
theorem dX8_tally_178 : decode cX8_tally 178 = .ok (.iload 5, 2) := zo_21 (zi_at zh_dX8_tally_175_176 2 rfl) (zi_at zh_dX8_tally_175_176 3 rfl)
theorem dX8_tally_180 : decode cX8_tally 180 = .ok (.ifCond .eq 14, 3) := zo_153 (zi_at zh_dX8_tally_175_176 4 rfl) (zi_at zh_dX8_tally_175_176 5 rfl) (zi_at zh_dX8_tally_175_176 6 rfl) rfl
theorem dX8_tally_183 : decode cX8_tally 183 = .ok (.aload_n 0, 1) := zo_42 (zi_at zh_dX8_tally_175_176 7 rfl)
theorem dX8_tally_184 : decode cX8_tally 184 = .ok (.iload 4, 2) := zo_21 (zi_at zh_dX8_tally_175_176 8 rfl) (zi_at zh_dX8_tally_175_176 9 rfl)
theorem dX8_tally_186 : decode cX8_tally 186 = .ok (.iload_n 3, 1) := zo_29 (zi_at zh_dX8_tally_175_176 10 rfl)
theorem dX8_tally_187 : decode cX8_tally 187 = .ok (.iload_n 1, 1) := zo_27 (zi_at zh_dX8_tally_175_176 11 rfl)
theorem dX8_tally_188 : decode cX8_tally 188 = .ok (.invokevirtual 80, 3) := zo_182 (zi_at zh_dX8_tally_175_176 12 rfl) (zi_at zh_dX8_tally_175_176 13 rfl) (zi_at zh_dX8_tally_175_176 14 rfl) rfl
theorem dX8_tally_191 : decode cX8_tally 191 = .ok (.goto 14, 3) := zo_167 (zi_at zh_dX8_tally_175_176 15 rfl) (zi_at zh_dX8_tally_191_192 0 rfl) (zi_at zh_dX8_tally_191_192 1 rfl) rfl
theorem dX8_tally_194 : decode cX8_tally 194 = .ok (.aload_n 0, 1) := zo_42 (zi_at zh_dX8_tally_191_192 2 rfl)
theorem dX8_tally_195 : decode cX8_tally 195 = .ok (.getfield 9, 3) := zo_180 (zi_at zh_dX8_tally_191_192 3 rfl) (zi_at zh_dX8_tally_191_192 4 rfl) (zi_at zh_dX8_tally_191_192 5 rfl) rfl
theorem dX8_tally_198 : decode cX8_tally 198 = .ok (.iload 4, 2) := zo_21 (zi_at zh_dX8_tally_191_192 6 rfl) (zi_at zh_dX8_tally_191_192 7 rfl)
theorem dX8_tally_200 : decode cX8_tally 200 = .ok (.iload_n 3, 1) := zo_29 (zi_at zh_dX8_tally_191_192 8 rfl)
theorem dX8_tally_201 : decode cX8_tally 201 = .ok (.invokestatic 76, 3) := zo_184 (zi_at zh_dX8_tally_191_192 9 rfl) (zi_at zh_dX8_tally_191_192 10 rfl) (zi_at zh_dX8_tally_191_192 11 rfl) rfl
theorem dX8_tally_204 : decode cX8_tally 204 = .ok (.iaload, 1) := zo_46 (zi_at zh_dX8_tally_191_192 12 rfl)
theorem dX8_tally_205 : decode cX8_tally 205 = .ok (.iastore, 1) := zo_79 (zi_at zh_dX8_tally_191_192 13 rfl)
theorem dX8_tally_206 : decode cX8_tally 206 = .ok (.iinc 4 1, 3) := zo_132 (zi_at zh_dX8_tally_191_192 14 rfl) (zi_at zh_dX8_tally_191_192 15 rfl) (zi_at zh_dX8_tally_206_208 0 rfl) rfl
theorem dX8_tally_209 : decode cX8_tally 209 = .ok (.goto (-72), 3) := zo_167 (zi_at zh_dX8_tally_206_208 1 rfl) (zi_at zh_dX8_tally_206_208 2 rfl) (zi_at zh_dX8_tally_206_208 3 rfl) rfl
theorem dX8_tally_212 : decode cX8_tally 212 = .ok (.aload_n 0, 1) := zo_42 (zi_at zh_dX8_tally_206_208 4 rfl)
theorem dX8_tally_213 : decode cX8_tally 213 = .ok (.iload_n 3, 1) := zo_29 (zi_at zh_dX8_tally_206_208 5 rfl)
theorem dX8_tally_214 : decode cX8_tally 214 = .ok (.iload_n 2, 1) := zo_28 (zi_at zh_dX8_tally_206_208 6 rfl)
theorem dX8_tally_215 : decode cX8_tally 215 = .ok (.invokevirtual 93, 3) := zo_182 (zi_at zh_dX8_tally_206_208 7 rfl) (zi_at zh_dX8_tally_206_208 8 rfl) (zi_at zh_dX8_tally_206_208 9 rfl) rfl
theorem dX8_tally_218 : decode cX8_tally 218 = .ok (.iinc 3 1, 3) := zo_132 (zi_at zh_dX8_tally_206_208 10 rfl) (zi_at zh_dX8_tally_206_208 11 rfl) (zi_at zh_dX8_tally_206_208 12 rfl) rfl
theorem dX8_tally_221 : decode cX8_tally 221 = .ok (.goto (-98), 3) := zo_167 (zi_at zh_dX8_tally_206_208 13 rfl) (zi_at zh_dX8_tally_206_208 14 rfl) (zi_at zh_dX8_tally_206_208 15 rfl) rfl
theorem dX8_tally_224 : decode cX8_tally 224 = .ok (.return_, 1) := zo_177 (zi_at zh_dX8_tally_224_224 0 rfl)
theorem dX8_meanBeside_0 : decode cX8_meanBeside 0 = .ok (.iconst 0, 1) := zo_3 (zi_at zh_dX8_meanBeside_0_0 0 rfl)
theorem dX8_meanBeside_1 : decode cX8_meanBeside 1 = .ok (.istore 4, 2) := zo_54 (zi_at zh_dX8_meanBeside_0_0 1 rfl) (zi_at zh_dX8_meanBeside_0_0 2 rfl)
theorem dX8_meanBeside_3 : decode cX8_meanBeside 3 = .ok (.iconst 0, 1) := zo_3 (zi_at zh_dX8_meanBeside_0_0 3 rfl)
theorem dX8_meanBeside_4 : decode cX8_meanBeside 4 = .ok (.istore 5, 2) := zo_54 (zi_at zh_dX8_meanBeside_0_0 4 rfl) (zi_at zh_dX8_meanBeside_0_0 5 rfl)
theorem dX8_meanBeside_6 : decode cX8_meanBeside 6 = .ok (.iconst 0, 1) := zo_3 (zi_at zh_dX8_meanBeside_0_0 6 rfl)
theorem dX8_meanBeside_7 : decode cX8_meanBeside 7 = .ok (.istore 6, 2) := zo_54 (zi_at zh_dX8_meanBeside_0_0 7 rfl) (zi_at zh_dX8_meanBeside_0_0 8 rfl)
theorem dX8_meanBeside_9 : decode cX8_meanBeside 9 = .ok (.iload 6, 2) := zo_21 (zi_at zh_dX8_meanBeside_0_0 9 rfl) (zi_at zh_dX8_meanBeside_0_0 10 rfl)
theorem dX8_meanBeside_11 : decode cX8_meanBeside 11 = .ok (.aload_n 0, 1) := zo_42 (zi_at zh_dX8_meanBeside_0_0 11 rfl)
theorem dX8_meanBeside_12 : decode cX8_meanBeside 12 = .ok (.getfield 73, 3) := zo_180 (zi_at zh_dX8_meanBeside_0_0 12 rfl) (zi_at zh_dX8_meanBeside_0_0 13 rfl) (zi_at zh_dX8_meanBeside_0_0 14 rfl) rfl
theorem dX8_meanBeside_15 : decode cX8_meanBeside 15 = .ok (.if_icmp .ge 60, 3) := zo_162 (zi_at zh_dX8_meanBeside_0_0 15 rfl) (zi_at zh_dX8_meanBeside_15_16 0 rfl) (zi_at zh_dX8_meanBeside_15_16 1 rfl) rfl
theorem dX8_meanBeside_18 : decode cX8_meanBeside 18 = .ok (.iload 6, 2) := zo_21 (zi_at zh_dX8_meanBeside_15_16 2 rfl) (zi_at zh_dX8_meanBeside_15_16 3 rfl)
theorem dX8_meanBeside_20 : decode cX8_meanBeside 20 = .ok (.iload_n 1, 1) := zo_27 (zi_at zh_dX8_meanBeside_15_16 4 rfl)
theorem dX8_meanBeside_21 : decode cX8_meanBeside 21 = .ok (.if_icmp .eq 48, 3) := zo_159 (zi_at zh_dX8_meanBeside_15_16 5 rfl) (zi_at zh_dX8_meanBeside_15_16 6 rfl) (zi_at zh_dX8_meanBeside_15_16 7 rfl) rfl
theorem dX8_meanBeside_24 : decode cX8_meanBeside 24 = .ok (.aload_n 0, 1) := zo_42 (zi_at zh_dX8_meanBeside_15_16 8 rfl)
theorem dX8_meanBeside_25 : decode cX8_meanBeside 25 = .ok (.getfield 34, 3) := zo_180 (zi_at zh_dX8_meanBeside_15_16 9 rfl) (zi_at zh_dX8_meanBeside_15_16 10 rfl) (zi_at zh_dX8_meanBeside_15_16 11 rfl) rfl
theorem dX8_meanBeside_28 : decode cX8_meanBeside 28 = .ok (.getfield 42, 3) := zo_180 (zi_at zh_dX8_meanBeside_15_16 12 rfl) (zi_at zh_dX8_meanBeside_15_16 13 rfl) (zi_at zh_dX8_meanBeside_15_16 14 rfl) rfl
theorem dX8_meanBeside_31 : decode cX8_meanBeside 31 = .ok (.iload 6, 2) := zo_21 (zi_at zh_dX8_meanBeside_15_16 15 rfl) (zi_at zh_dX8_meanBeside_31_32 0 rfl)
theorem dX8_meanBeside_33 : decode cX8_meanBeside 33 = .ok (.invokevirtual 48, 3) := zo_182 (zi_at zh_dX8_meanBeside_31_32 1 rfl) (zi_at zh_dX8_meanBeside_31_32 2 rfl) (zi_at zh_dX8_meanBeside_31_32 3 rfl) rfl
theorem dX8_meanBeside_36 : decode cX8_meanBeside 36 = .ok (.checkcast 54, 3) := zo_192 (zi_at zh_dX8_meanBeside_31_32 4 rfl) (zi_at zh_dX8_meanBeside_31_32 5 rfl) (zi_at zh_dX8_meanBeside_31_32 6 rfl) rfl
theorem dX8_meanBeside_39 : decode cX8_meanBeside 39 = .ok (.iload_n 2, 1) := zo_28 (zi_at zh_dX8_meanBeside_31_32 7 rfl)
theorem dX8_meanBeside_40 : decode cX8_meanBeside 40 = .ok (.iload_n 3, 1) := zo_29 (zi_at zh_dX8_meanBeside_31_32 8 rfl)
theorem dX8_meanBeside_41 : decode cX8_meanBeside 41 = .ok (.invokevirtual 56, 3) := zo_182 (zi_at zh_dX8_meanBeside_31_32 9 rfl) (zi_at zh_dX8_meanBeside_31_32 10 rfl) (zi_at zh_dX8_meanBeside_31_32 11 rfl) rfl
theorem dX8_meanBeside_44 : decode cX8_meanBeside 44 = .ok (.ifCond .eq 6, 3) := zo_153 (zi_at zh_dX8_meanBeside_31_32 12 rfl) (zi_at zh_dX8_meanBeside_31_32 13 rfl) (zi_at zh_dX8_meanBeside_31_32 14 rfl) rfl
theorem dX8_meanBeside_47 : decode cX8_meanBeside 47 = .ok (.goto 22, 3) := zo_167 (zi_at zh_dX8_meanBeside_31_32 15 rfl) (zi_at zh_dX8_meanBeside_47_48 0 rfl) (zi_at zh_dX8_meanBeside_47_48 1 rfl) rfl
theorem dX8_meanBeside_50 : decode cX8_meanBeside 50 = .ok (.iload 4, 2) := zo_21 (zi_at zh_dX8_meanBeside_47_48 2 rfl) (zi_at zh_dX8_meanBeside_47_48 3 rfl)
theorem dX8_meanBeside_52 : decode cX8_meanBeside 52 = .ok (.aload_n 0, 1) := zo_42 (zi_at zh_dX8_meanBeside_47_48 4 rfl)
theorem dX8_meanBeside_53 : decode cX8_meanBeside 53 = .ok (.getfield 9, 3) := zo_180 (zi_at zh_dX8_meanBeside_47_48 5 rfl) (zi_at zh_dX8_meanBeside_47_48 6 rfl) (zi_at zh_dX8_meanBeside_47_48 7 rfl) rfl
theorem dX8_meanBeside_56 : decode cX8_meanBeside 56 = .ok (.iload 6, 2) := zo_21 (zi_at zh_dX8_meanBeside_47_48 8 rfl) (zi_at zh_dX8_meanBeside_47_48 9 rfl)
theorem dX8_meanBeside_58 : decode cX8_meanBeside 58 = .ok (.iload_n 2, 1) := zo_28 (zi_at zh_dX8_meanBeside_47_48 10 rfl)
theorem dX8_meanBeside_59 : decode cX8_meanBeside 59 = .ok (.invokestatic 76, 3) := zo_184 (zi_at zh_dX8_meanBeside_47_48 11 rfl) (zi_at zh_dX8_meanBeside_47_48 12 rfl) (zi_at zh_dX8_meanBeside_47_48 13 rfl) rfl
theorem dX8_meanBeside_62 : decode cX8_meanBeside 62 = .ok (.iaload, 1) := zo_46 (zi_at zh_dX8_meanBeside_47_48 14 rfl)
theorem dX8_meanBeside_63 : decode cX8_meanBeside 63 = .ok (.iadd, 1) := zo_96 (zi_at zh_dX8_meanBeside_47_48 15 rfl)
theorem dX8_meanBeside_64 : decode cX8_meanBeside 64 = .ok (.istore 4, 2) := zo_54 (zi_at zh_dX8_meanBeside_64_64 0 rfl) (zi_at zh_dX8_meanBeside_64_64 1 rfl)
theorem dX8_meanBeside_66 : decode cX8_meanBeside 66 = .ok (.iinc 5 1, 3) := zo_132 (zi_at zh_dX8_meanBeside_64_64 2 rfl) (zi_at zh_dX8_meanBeside_64_64 3 rfl) (zi_at zh_dX8_meanBeside_64_64 4 rfl) rfl
theorem dX8_meanBeside_69 : decode cX8_meanBeside 69 = .ok (.iinc 6 1, 3) := zo_132 (zi_at zh_dX8_meanBeside_64_64 5 rfl) (zi_at zh_dX8_meanBeside_64_64 6 rfl) (zi_at zh_dX8_meanBeside_64_64 7 rfl) rfl
theorem dX8_meanBeside_72 : decode cX8_meanBeside 72 = .ok (.goto (-63), 3) := zo_167 (zi_at zh_dX8_meanBeside_64_64 8 rfl) (zi_at zh_dX8_meanBeside_64_64 9 rfl) (zi_at zh_dX8_meanBeside_64_64 10 rfl) rfl
theorem dX8_meanBeside_75 : decode cX8_meanBeside 75 = .ok (.iload 5, 2) := zo_21 (zi_at zh_dX8_meanBeside_64_64 11 rfl) (zi_at zh_dX8_meanBeside_64_64 12 rfl)
theorem dX8_meanBeside_77 : decode cX8_meanBeside 77 = .ok (.ifCond .ne 7, 3) := zo_154 (zi_at zh_dX8_meanBeside_64_64 13 rfl) (zi_at zh_dX8_meanBeside_64_64 14 rfl) (zi_at zh_dX8_meanBeside_64_64 15 rfl) rfl
theorem dX8_meanBeside_80 : decode cX8_meanBeside 80 = .ok (.iconst 0, 1) := zo_3 (zi_at zh_dX8_meanBeside_80_80 0 rfl)
theorem dX8_meanBeside_81 : decode cX8_meanBeside 81 = .ok (.goto 8, 3) := zo_167 (zi_at zh_dX8_meanBeside_80_80 1 rfl) (zi_at zh_dX8_meanBeside_80_80 2 rfl) (zi_at zh_dX8_meanBeside_80_80 3 rfl) rfl
theorem dX8_meanBeside_84 : decode cX8_meanBeside 84 = .ok (.iload 4, 2) := zo_21 (zi_at zh_dX8_meanBeside_80_80 4 rfl) (zi_at zh_dX8_meanBeside_80_80 5 rfl)
theorem dX8_meanBeside_86 : decode cX8_meanBeside 86 = .ok (.iload 5, 2) := zo_21 (zi_at zh_dX8_meanBeside_80_80 6 rfl) (zi_at zh_dX8_meanBeside_80_80 7 rfl)
theorem dX8_meanBeside_88 : decode cX8_meanBeside 88 = .ok (.idiv, 1) := zo_108 (zi_at zh_dX8_meanBeside_80_80 8 rfl)
theorem dX8_meanBeside_89 : decode cX8_meanBeside 89 = .ok (.ireturn, 1) := zo_172 (zi_at zh_dX8_meanBeside_80_80 9 rfl)
theorem dX8_throwOutsIn_0 : decode cX8_throwOutsIn 0 = .ok (.aload_n 0, 1) := zo_42 (zi_at zh_dX8_throwOutsIn_0_0 0 rfl)
theorem dX8_throwOutsIn_1 : decode cX8_throwOutsIn 1 = .ok (.getfield 34, 3) := zo_180 (zi_at zh_dX8_throwOutsIn_0_0 1 rfl) (zi_at zh_dX8_throwOutsIn_0_0 2 rfl) (zi_at zh_dX8_throwOutsIn_0_0 3 rfl) rfl
theorem dX8_throwOutsIn_4 : decode cX8_throwOutsIn 4 = .ok (.invokevirtual 96, 3) := zo_182 (zi_at zh_dX8_throwOutsIn_0_0 4 rfl) (zi_at zh_dX8_throwOutsIn_0_0 5 rfl) (zi_at zh_dX8_throwOutsIn_0_0 6 rfl) rfl
theorem dX8_throwOutsIn_7 : decode cX8_throwOutsIn 7 = .ok (.aload_n 0, 1) := zo_42 (zi_at zh_dX8_throwOutsIn_0_0 7 rfl)
theorem dX8_throwOutsIn_8 : decode cX8_throwOutsIn 8 = .ok (.getfield 34, 3) := zo_180 (zi_at zh_dX8_throwOutsIn_0_0 8 rfl) (zi_at zh_dX8_throwOutsIn_0_0 9 rfl) (zi_at zh_dX8_throwOutsIn_0_0 10 rfl) rfl
theorem dX8_throwOutsIn_11 : decode cX8_throwOutsIn 11 = .ok (.getfield 99, 3) := zo_180 (zi_at zh_dX8_throwOutsIn_0_0 11 rfl) (zi_at zh_dX8_throwOutsIn_0_0 12 rfl) (zi_at zh_dX8_throwOutsIn_0_0 13 rfl) rfl
theorem dX8_throwOutsIn_14 : decode cX8_throwOutsIn 14 = .ok (.bipush 7, 2) := zo_16 (zi_at zh_dX8_throwOutsIn_0_0 14 rfl) (zi_at zh_dX8_throwOutsIn_0_0 15 rfl) rfl
theorem dX8_throwOutsIn_16 : decode cX8_throwOutsIn 16 = .ok (.aload_n 0, 1) := zo_42 (zi_at zh_dX8_throwOutsIn_16_16 0 rfl)
theorem dX8_throwOutsIn_17 : decode cX8_throwOutsIn 17 = .ok (.getfield 73, 3) := zo_180 (zi_at zh_dX8_throwOutsIn_16_16 1 rfl) (zi_at zh_dX8_throwOutsIn_16_16 2 rfl) (zi_at zh_dX8_throwOutsIn_16_16 3 rfl) rfl
theorem dX8_throwOutsIn_20 : decode cX8_throwOutsIn 20 = .ok (.iastore, 1) := zo_79 (zi_at zh_dX8_throwOutsIn_16_16 4 rfl)
theorem dX8_throwOutsIn_21 : decode cX8_throwOutsIn 21 = .ok (.aload_n 0, 1) := zo_42 (zi_at zh_dX8_throwOutsIn_16_16 5 rfl)
theorem dX8_throwOutsIn_22 : decode cX8_throwOutsIn 22 = .ok (.getfield 34, 3) := zo_180 (zi_at zh_dX8_throwOutsIn_16_16 6 rfl) (zi_at zh_dX8_throwOutsIn_16_16 7 rfl) (zi_at zh_dX8_throwOutsIn_16_16 8 rfl) rfl
theorem dX8_throwOutsIn_25 : decode cX8_throwOutsIn 25 = .ok (.aload_n 0, 1) := zo_42 (zi_at zh_dX8_throwOutsIn_16_16 9 rfl)
theorem dX8_throwOutsIn_26 : decode cX8_throwOutsIn 26 = .ok (.getfield 34, 3) := zo_180 (zi_at zh_dX8_throwOutsIn_16_16 10 rfl) (zi_at zh_dX8_throwOutsIn_16_16 11 rfl) (zi_at zh_dX8_throwOutsIn_16_16 12 rfl) rfl
theorem dX8_throwOutsIn_29 : decode cX8_throwOutsIn 29 = .ok (.iload_n 1, 1) := zo_27 (zi_at zh_dX8_throwOutsIn_16_16 13 rfl)
theorem dX8_throwOutsIn_30 : decode cX8_throwOutsIn 30 = .ok (.iload_n 1, 1) := zo_27 (zi_at zh_dX8_throwOutsIn_16_16 14 rfl)
theorem dX8_throwOutsIn_31 : decode cX8_throwOutsIn 31 = .ok (.invokevirtual 102, 3) := zo_182 (zi_at zh_dX8_throwOutsIn_16_16 15 rfl) (zi_at zh_dX8_throwOutsIn_31_32 0 rfl) (zi_at zh_dX8_throwOutsIn_31_32 1 rfl) rfl
theorem dX8_throwOutsIn_34 : decode cX8_throwOutsIn 34 = .ok (.bipush 116, 2) := zo_16 (zi_at zh_dX8_throwOutsIn_31_32 2 rfl) (zi_at zh_dX8_throwOutsIn_31_32 3 rfl) rfl
theorem dX8_throwOutsIn_36 : decode cX8_throwOutsIn 36 = .ok (.invokevirtual 105, 3) := zo_182 (zi_at zh_dX8_throwOutsIn_31_32 4 rfl) (zi_at zh_dX8_throwOutsIn_31_32 5 rfl) (zi_at zh_dX8_throwOutsIn_31_32 6 rfl) rfl
theorem dX8_throwOutsIn_39 : decode cX8_throwOutsIn 39 = .ok (.istore_n 2, 1) := zo_61 (zi_at zh_dX8_throwOutsIn_31_32 7 rfl)
theorem dX8_throwOutsIn_40 : decode cX8_throwOutsIn 40 = .ok (.iload_n 2, 1) := zo_28 (zi_at zh_dX8_throwOutsIn_31_32 8 rfl)
theorem dX8_throwOutsIn_41 : decode cX8_throwOutsIn 41 = .ok (.iconst 0, 1) := zo_3 (zi_at zh_dX8_throwOutsIn_31_32 9 rfl)
theorem dX8_throwOutsIn_42 : decode cX8_throwOutsIn 42 = .ok (.iconst 0, 1) := zo_3 (zi_at zh_dX8_throwOutsIn_31_32 10 rfl)
theorem dX8_throwOutsIn_43 : decode cX8_throwOutsIn 43 = .ok (.aload_n 0, 1) := zo_42 (zi_at zh_dX8_throwOutsIn_31_32 11 rfl)
theorem dX8_throwOutsIn_44 : decode cX8_throwOutsIn 44 = .ok (.getfield 73, 3) := zo_180 (zi_at zh_dX8_throwOutsIn_31_32 12 rfl) (zi_at zh_dX8_throwOutsIn_31_32 13 rfl) (zi_at zh_dX8_throwOutsIn_31_32 14 rfl) rfl
theorem dX8_throwOutsIn_47 : decode cX8_throwOutsIn 47 = .ok (.iconst 1, 1) := zo_4 (zi_at zh_dX8_throwOutsIn_31_32 15 rfl)
theorem dX8_throwOutsIn_48 : decode cX8_throwOutsIn 48 = .ok (.isub, 1) := zo_100 (zi_at zh_dX8_throwOutsIn_48_48 0 rfl)
theorem dX8_throwOutsIn_49 : decode cX8_throwOutsIn 49 = .ok (.invokestatic 109, 3) := zo_184 (zi_at zh_dX8_throwOutsIn_48_48 1 rfl) (zi_at zh_dX8_throwOutsIn_48_48 2 rfl) (zi_at zh_dX8_throwOutsIn_48_48 3 rfl) rfl
theorem dX8_throwOutsIn_52 : decode cX8_throwOutsIn 52 = .ok (.invokestatic 114, 3) := zo_184 (zi_at zh_dX8_throwOutsIn_48_48 4 rfl) (zi_at zh_dX8_throwOutsIn_48_48 5 rfl) (zi_at zh_dX8_throwOutsIn_48_48 6 rfl) rfl
theorem dX8_throwOutsIn_55 : decode cX8_throwOutsIn 55 = .ok (.ireturn, 1) := zo_172 (zi_at zh_dX8_throwOutsIn_48_48 7 rfl)
theorem dX8_throwOut_0 : decode cX8_throwOut 0 = .ok (.iconst 0, 1) := zo_3 (zi_at zh_dX8_throwOut_0_0 0 rfl)
theorem dX8_throwOut_1 : decode cX8_throwOut 1 = .ok (.istore_n 3, 1) := zo_62 (zi_at zh_dX8_throwOut_0_0 1 rfl)
theorem dX8_throwOut_2 : decode cX8_throwOut 2 = .ok (.iconst 0, 1) := zo_3 (zi_at zh_dX8_throwOut_0_0 2 rfl)
theorem dX8_throwOut_3 : decode cX8_throwOut 3 = .ok (.istore 4, 2) := zo_54 (zi_at zh_dX8_throwOut_0_0 3 rfl) (zi_at zh_dX8_throwOut_0_0 4 rfl)
theorem dX8_throwOut_5 : decode cX8_throwOut 5 = .ok (.iload 4, 2) := zo_21 (zi_at zh_dX8_throwOut_0_0 5 rfl) (zi_at zh_dX8_throwOut_0_0 6 rfl)
theorem dX8_throwOut_7 : decode cX8_throwOut 7 = .ok (.aload_n 0, 1) := zo_42 (zi_at zh_dX8_throwOut_0_0 7 rfl)
theorem dX8_throwOut_8 : decode cX8_throwOut 8 = .ok (.getfield 73, 3) := zo_180 (zi_at zh_dX8_throwOut_0_0 8 rfl) (zi_at zh_dX8_throwOut_0_0 9 rfl) (zi_at zh_dX8_throwOut_0_0 10 rfl) rfl
theorem dX8_throwOut_11 : decode cX8_throwOut 11 = .ok (.if_icmp .ge 35, 3) := zo_162 (zi_at zh_dX8_throwOut_0_0 11 rfl) (zi_at zh_dX8_throwOut_0_0 12 rfl) (zi_at zh_dX8_throwOut_0_0 13 rfl) rfl
theorem dX8_throwOut_14 : decode cX8_throwOut 14 = .ok (.aload_n 0, 1) := zo_42 (zi_at zh_dX8_throwOut_0_0 14 rfl)
theorem dX8_throwOut_15 : decode cX8_throwOut 15 = .ok (.getfield 18, 3) := zo_180 (zi_at zh_dX8_throwOut_0_0 15 rfl) (zi_at zh_dX8_throwOut_15_16 0 rfl) (zi_at zh_dX8_throwOut_15_16 1 rfl) rfl
theorem dX8_throwOut_18 : decode cX8_throwOut 18 = .ok (.iload 4, 2) := zo_21 (zi_at zh_dX8_throwOut_15_16 2 rfl) (zi_at zh_dX8_throwOut_15_16 3 rfl)
theorem dX8_throwOut_20 : decode cX8_throwOut 20 = .ok (.iload_n 1, 1) := zo_27 (zi_at zh_dX8_throwOut_15_16 4 rfl)
theorem dX8_throwOut_21 : decode cX8_throwOut 21 = .ok (.invokestatic 76, 3) := zo_184 (zi_at zh_dX8_throwOut_15_16 5 rfl) (zi_at zh_dX8_throwOut_15_16 6 rfl) (zi_at zh_dX8_throwOut_15_16 7 rfl) rfl
theorem dX8_throwOut_24 : decode cX8_throwOut 24 = .ok (.iconst 0, 1) := zo_3 (zi_at zh_dX8_throwOut_15_16 8 rfl)
theorem dX8_throwOut_25 : decode cX8_throwOut 25 = .ok (.bastore, 1) := zo_84 (zi_at zh_dX8_throwOut_15_16 9 rfl)
theorem dX8_throwOut_26 : decode cX8_throwOut 26 = .ok (.iload_n 3, 1) := zo_29 (zi_at zh_dX8_throwOut_15_16 10 rfl)
theorem dX8_throwOut_27 : decode cX8_throwOut 27 = .ok (.aload_n 0, 1) := zo_42 (zi_at zh_dX8_throwOut_15_16 11 rfl)
theorem dX8_throwOut_28 : decode cX8_throwOut 28 = .ok (.getfield 15, 3) := zo_180 (zi_at zh_dX8_throwOut_15_16 12 rfl) (zi_at zh_dX8_throwOut_15_16 13 rfl) (zi_at zh_dX8_throwOut_15_16 14 rfl) rfl
theorem dX8_throwOut_31 : decode cX8_throwOut 31 = .ok (.iload 4, 2) := zo_21 (zi_at zh_dX8_throwOut_15_16 15 rfl) (zi_at zh_dX8_throwOut_31_32 0 rfl)
theorem dX8_throwOut_33 : decode cX8_throwOut 33 = .ok (.iload_n 1, 1) := zo_27 (zi_at zh_dX8_throwOut_31_32 1 rfl)
theorem dX8_throwOut_34 : decode cX8_throwOut 34 = .ok (.invokestatic 76, 3) := zo_184 (zi_at zh_dX8_throwOut_31_32 2 rfl) (zi_at zh_dX8_throwOut_31_32 3 rfl) (zi_at zh_dX8_throwOut_31_32 4 rfl) rfl
theorem dX8_throwOut_37 : decode cX8_throwOut 37 = .ok (.iaload, 1) := zo_46 (zi_at zh_dX8_throwOut_31_32 5 rfl)
theorem dX8_throwOut_38 : decode cX8_throwOut 38 = .ok (.iadd, 1) := zo_96 (zi_at zh_dX8_throwOut_31_32 6 rfl)
theorem dX8_throwOut_39 : decode cX8_throwOut 39 = .ok (.istore_n 3, 1) := zo_62 (zi_at zh_dX8_throwOut_31_32 7 rfl)
theorem dX8_throwOut_40 : decode cX8_throwOut 40 = .ok (.iinc 4 1, 3) := zo_132 (zi_at zh_dX8_throwOut_31_32 8 rfl) (zi_at zh_dX8_throwOut_31_32 9 rfl) (zi_at zh_dX8_throwOut_31_32 10 rfl) rfl
theorem dX8_throwOut_43 : decode cX8_throwOut 43 = .ok (.goto (-38), 3) := zo_167 (zi_at zh_dX8_throwOut_31_32 11 rfl) (zi_at zh_dX8_throwOut_31_32 12 rfl) (zi_at zh_dX8_throwOut_31_32 13 rfl) rfl
theorem dX8_throwOut_46 : decode cX8_throwOut 46 = .ok (.iconst 0, 1) := zo_3 (zi_at zh_dX8_throwOut_31_32 14 rfl)
theorem dX8_throwOut_47 : decode cX8_throwOut 47 = .ok (.istore 4, 2) := zo_54 (zi_at zh_dX8_throwOut_31_32 15 rfl) (zi_at zh_dX8_throwOut_47_48 0 rfl)
theorem dX8_throwOut_49 : decode cX8_throwOut 49 = .ok (.iload 4, 2) := zo_21 (zi_at zh_dX8_throwOut_47_48 1 rfl) (zi_at zh_dX8_throwOut_47_48 2 rfl)
theorem dX8_throwOut_51 : decode cX8_throwOut 51 = .ok (.iload_n 2, 1) := zo_28 (zi_at zh_dX8_throwOut_47_48 3 rfl)
theorem dX8_throwOut_52 : decode cX8_throwOut 52 = .ok (.if_icmp .ge 51, 3) := zo_162 (zi_at zh_dX8_throwOut_47_48 4 rfl) (zi_at zh_dX8_throwOut_47_48 5 rfl) (zi_at zh_dX8_throwOut_47_48 6 rfl) rfl
theorem dX8_throwOut_55 : decode cX8_throwOut 55 = .ok (.aload_n 0, 1) := zo_42 (zi_at zh_dX8_throwOut_47_48 7 rfl)
theorem dX8_throwOut_56 : decode cX8_throwOut 56 = .ok (.iload_n 1, 1) := zo_27 (zi_at zh_dX8_throwOut_47_48 8 rfl)
theorem dX8_throwOut_57 : decode cX8_throwOut 57 = .ok (.invokevirtual 117, 3) := zo_182 (zi_at zh_dX8_throwOut_47_48 9 rfl) (zi_at zh_dX8_throwOut_47_48 10 rfl) (zi_at zh_dX8_throwOut_47_48 11 rfl) rfl
theorem dX8_throwOut_60 : decode cX8_throwOut 60 = .ok (.istore 5, 2) := zo_54 (zi_at zh_dX8_throwOut_47_48 12 rfl) (zi_at zh_dX8_throwOut_47_48 13 rfl)
theorem dX8_throwOut_62 : decode cX8_throwOut 62 = .ok (.iload 5, 2) := zo_21 (zi_at zh_dX8_throwOut_47_48 14 rfl) (zi_at zh_dX8_throwOut_47_48 15 rfl)
theorem dX8_throwOut_64 : decode cX8_throwOut 64 = .ok (.iconst (-1), 1) := zo_2 (zi_at zh_dX8_throwOut_64_64 0 rfl)
theorem dX8_throwOut_65 : decode cX8_throwOut 65 = .ok (.if_icmp .ne 6, 3) := zo_160 (zi_at zh_dX8_throwOut_64_64 1 rfl) (zi_at zh_dX8_throwOut_64_64 2 rfl) (zi_at zh_dX8_throwOut_64_64 3 rfl) rfl
theorem dX8_throwOut_68 : decode cX8_throwOut 68 = .ok (.goto 35, 3) := zo_167 (zi_at zh_dX8_throwOut_64_64 4 rfl) (zi_at zh_dX8_throwOut_64_64 5 rfl) (zi_at zh_dX8_throwOut_64_64 6 rfl) rfl
theorem dX8_throwOut_71 : decode cX8_throwOut 71 = .ok (.aload_n 0, 1) := zo_42 (zi_at zh_dX8_throwOut_64_64 7 rfl)
theorem dX8_throwOut_72 : decode cX8_throwOut 72 = .ok (.getfield 18, 3) := zo_180 (zi_at zh_dX8_throwOut_64_64 8 rfl) (zi_at zh_dX8_throwOut_64_64 9 rfl) (zi_at zh_dX8_throwOut_64_64 10 rfl) rfl
theorem dX8_throwOut_75 : decode cX8_throwOut 75 = .ok (.iload 5, 2) := zo_21 (zi_at zh_dX8_throwOut_64_64 11 rfl) (zi_at zh_dX8_throwOut_64_64 12 rfl)
theorem dX8_throwOut_77 : decode cX8_throwOut 77 = .ok (.iload_n 1, 1) := zo_27 (zi_at zh_dX8_throwOut_64_64 13 rfl)
theorem dX8_throwOut_78 : decode cX8_throwOut 78 = .ok (.invokestatic 76, 3) := zo_184 (zi_at zh_dX8_throwOut_64_64 14 rfl) (zi_at zh_dX8_throwOut_64_64 15 rfl) (zi_at zh_dX8_throwOut_78_80 0 rfl) rfl
theorem dX8_throwOut_81 : decode cX8_throwOut 81 = .ok (.iconst 1, 1) := zo_4 (zi_at zh_dX8_throwOut_78_80 1 rfl)
theorem dX8_throwOut_82 : decode cX8_throwOut 82 = .ok (.bastore, 1) := zo_84 (zi_at zh_dX8_throwOut_78_80 2 rfl)
theorem dX8_throwOut_83 : decode cX8_throwOut 83 = .ok (.iload_n 3, 1) := zo_29 (zi_at zh_dX8_throwOut_78_80 3 rfl)
theorem dX8_throwOut_84 : decode cX8_throwOut 84 = .ok (.aload_n 0, 1) := zo_42 (zi_at zh_dX8_throwOut_78_80 4 rfl)
theorem dX8_throwOut_85 : decode cX8_throwOut 85 = .ok (.getfield 15, 3) := zo_180 (zi_at zh_dX8_throwOut_78_80 5 rfl) (zi_at zh_dX8_throwOut_78_80 6 rfl) (zi_at zh_dX8_throwOut_78_80 7 rfl) rfl
theorem dX8_throwOut_88 : decode cX8_throwOut 88 = .ok (.iload 5, 2) := zo_21 (zi_at zh_dX8_throwOut_78_80 8 rfl) (zi_at zh_dX8_throwOut_78_80 9 rfl)
theorem dX8_throwOut_90 : decode cX8_throwOut 90 = .ok (.iload_n 1, 1) := zo_27 (zi_at zh_dX8_throwOut_78_80 10 rfl)
theorem dX8_throwOut_91 : decode cX8_throwOut 91 = .ok (.invokestatic 76, 3) := zo_184 (zi_at zh_dX8_throwOut_78_80 11 rfl) (zi_at zh_dX8_throwOut_78_80 12 rfl) (zi_at zh_dX8_throwOut_78_80 13 rfl) rfl
theorem dX8_throwOut_94 : decode cX8_throwOut 94 = .ok (.iaload, 1) := zo_46 (zi_at zh_dX8_throwOut_78_80 14 rfl)
theorem dX8_throwOut_95 : decode cX8_throwOut 95 = .ok (.isub, 1) := zo_100 (zi_at zh_dX8_throwOut_78_80 15 rfl)
theorem dX8_throwOut_96 : decode cX8_throwOut 96 = .ok (.istore_n 3, 1) := zo_62 (zi_at zh_dX8_throwOut_96_96 0 rfl)
theorem dX8_throwOut_97 : decode cX8_throwOut 97 = .ok (.iinc 4 1, 3) := zo_132 (zi_at zh_dX8_throwOut_96_96 1 rfl) (zi_at zh_dX8_throwOut_96_96 2 rfl) (zi_at zh_dX8_throwOut_96_96 3 rfl) rfl
theorem dX8_throwOut_100 : decode cX8_throwOut 100 = .ok (.goto (-51), 3) := zo_167 (zi_at zh_dX8_throwOut_96_96 4 rfl) (zi_at zh_dX8_throwOut_96_96 5 rfl) (zi_at zh_dX8_throwOut_96_96 6 rfl) rfl
theorem dX8_throwOut_103 : decode cX8_throwOut 103 = .ok (.aload_n 0, 1) := zo_42 (zi_at zh_dX8_throwOut_96_96 7 rfl)
theorem dX8_throwOut_104 : decode cX8_throwOut 104 = .ok (.getfield 25, 3) := zo_180 (zi_at zh_dX8_throwOut_96_96 8 rfl) (zi_at zh_dX8_throwOut_96_96 9 rfl) (zi_at zh_dX8_throwOut_96_96 10 rfl) rfl
theorem dX8_throwOut_107 : decode cX8_throwOut 107 = .ok (.iload_n 1, 1) := zo_27 (zi_at zh_dX8_throwOut_96_96 11 rfl)
theorem dX8_throwOut_108 : decode cX8_throwOut 108 = .ok (.iload_n 3, 1) := zo_29 (zi_at zh_dX8_throwOut_96_96 12 rfl)
theorem dX8_throwOut_109 : decode cX8_throwOut 109 = .ok (.iastore, 1) := zo_79 (zi_at zh_dX8_throwOut_96_96 13 rfl)
theorem dX8_throwOut_110 : decode cX8_throwOut 110 = .ok (.return_, 1) := zo_177 (zi_at zh_dX8_throwOut_96_96 14 rfl)
theorem dX8_worstOf_0 : decode cX8_worstOf 0 = .ok (.iconst (-1), 1) := zo_2 (zi_at zh_dX8_worstOf_0_0 0 rfl)
theorem dX8_worstOf_1 : decode cX8_worstOf 1 = .ok (.istore_n 2, 1) := zo_61 (zi_at zh_dX8_worstOf_0_0 1 rfl)
theorem dX8_worstOf_2 : decode cX8_worstOf 2 = .ok (.iconst 0, 1) := zo_3 (zi_at zh_dX8_worstOf_0_0 2 rfl)
theorem dX8_worstOf_3 : decode cX8_worstOf 3 = .ok (.istore_n 3, 1) := zo_62 (zi_at zh_dX8_worstOf_0_0 3 rfl)
theorem dX8_worstOf_4 : decode cX8_worstOf 4 = .ok (.iconst 0, 1) := zo_3 (zi_at zh_dX8_worstOf_0_0 4 rfl)
theorem dX8_worstOf_5 : decode cX8_worstOf 5 = .ok (.istore 4, 2) := zo_54 (zi_at zh_dX8_worstOf_0_0 5 rfl) (zi_at zh_dX8_worstOf_0_0 6 rfl)
theorem dX8_worstOf_7 : decode cX8_worstOf 7 = .ok (.iload 4, 2) := zo_21 (zi_at zh_dX8_worstOf_0_0 7 rfl) (zi_at zh_dX8_worstOf_0_0 8 rfl)
theorem dX8_worstOf_9 : decode cX8_worstOf 9 = .ok (.aload_n 0, 1) := zo_42 (zi_at zh_dX8_worstOf_0_0 9 rfl)
theorem dX8_worstOf_10 : decode cX8_worstOf 10 = .ok (.getfield 73, 3) := zo_180 (zi_at zh_dX8_worstOf_0_0 10 rfl) (zi_at zh_dX8_worstOf_0_0 11 rfl) (zi_at zh_dX8_worstOf_0_0 12 rfl) rfl
theorem dX8_worstOf_13 : decode cX8_worstOf 13 = .ok (.if_icmp .ge 51, 3) := zo_162 (zi_at zh_dX8_worstOf_0_0 13 rfl) (zi_at zh_dX8_worstOf_0_0 14 rfl) (zi_at zh_dX8_worstOf_0_0 15 rfl) rfl
theorem dX8_worstOf_16 : decode cX8_worstOf 16 = .ok (.aload_n 0, 1) := zo_42 (zi_at zh_dX8_worstOf_16_16 0 rfl)
theorem dX8_worstOf_17 : decode cX8_worstOf 17 = .ok (.getfield 15, 3) := zo_180 (zi_at zh_dX8_worstOf_16_16 1 rfl) (zi_at zh_dX8_worstOf_16_16 2 rfl) (zi_at zh_dX8_worstOf_16_16 3 rfl) rfl
theorem dX8_worstOf_20 : decode cX8_worstOf 20 = .ok (.iload 4, 2) := zo_21 (zi_at zh_dX8_worstOf_16_16 4 rfl) (zi_at zh_dX8_worstOf_16_16 5 rfl)
theorem dX8_worstOf_22 : decode cX8_worstOf 22 = .ok (.iload_n 1, 1) := zo_27 (zi_at zh_dX8_worstOf_16_16 6 rfl)
theorem dX8_worstOf_23 : decode cX8_worstOf 23 = .ok (.invokestatic 76, 3) := zo_184 (zi_at zh_dX8_worstOf_16_16 7 rfl) (zi_at zh_dX8_worstOf_16_16 8 rfl) (zi_at zh_dX8_worstOf_16_16 9 rfl) rfl
theorem dX8_worstOf_26 : decode cX8_worstOf 26 = .ok (.iaload, 1) := zo_46 (zi_at zh_dX8_worstOf_16_16 10 rfl)
theorem dX8_worstOf_27 : decode cX8_worstOf 27 = .ok (.istore 5, 2) := zo_54 (zi_at zh_dX8_worstOf_16_16 11 rfl) (zi_at zh_dX8_worstOf_16_16 12 rfl)
theorem dX8_worstOf_29 : decode cX8_worstOf 29 = .ok (.aload_n 0, 1) := zo_42 (zi_at zh_dX8_worstOf_16_16 13 rfl)
theorem dX8_worstOf_30 : decode cX8_worstOf 30 = .ok (.getfield 18, 3) := zo_180 (zi_at zh_dX8_worstOf_16_16 14 rfl) (zi_at zh_dX8_worstOf_16_16 15 rfl) (zi_at zh_dX8_worstOf_30_32 0 rfl) rfl
theorem dX8_worstOf_33 : decode cX8_worstOf 33 = .ok (.iload 4, 2) := zo_21 (zi_at zh_dX8_worstOf_30_32 1 rfl) (zi_at zh_dX8_worstOf_30_32 2 rfl)
theorem dX8_worstOf_35 : decode cX8_worstOf 35 = .ok (.iload_n 1, 1) := zo_27 (zi_at zh_dX8_worstOf_30_32 3 rfl)
theorem dX8_worstOf_36 : decode cX8_worstOf 36 = .ok (.invokestatic 76, 3) := zo_184 (zi_at zh_dX8_worstOf_30_32 4 rfl) (zi_at zh_dX8_worstOf_30_32 5 rfl) (zi_at zh_dX8_worstOf_30_32 6 rfl) rfl
theorem dX8_worstOf_39 : decode cX8_worstOf 39 = .ok (.baload, 1) := zo_51 (zi_at zh_dX8_worstOf_30_32 7 rfl)
theorem dX8_worstOf_40 : decode cX8_worstOf 40 = .ok (.ifCond .ne 18, 3) := zo_154 (zi_at zh_dX8_worstOf_30_32 8 rfl) (zi_at zh_dX8_worstOf_30_32 9 rfl) (zi_at zh_dX8_worstOf_30_32 10 rfl) rfl
theorem dX8_worstOf_43 : decode cX8_worstOf 43 = .ok (.iload 5, 2) := zo_21 (zi_at zh_dX8_worstOf_30_32 11 rfl) (zi_at zh_dX8_worstOf_30_32 12 rfl)
theorem dX8_worstOf_45 : decode cX8_worstOf 45 = .ok (.iload_n 3, 1) := zo_29 (zi_at zh_dX8_worstOf_30_32 13 rfl)
theorem dX8_worstOf_46 : decode cX8_worstOf 46 = .ok (.if_icmp .ge 6, 3) := zo_162 (zi_at zh_dX8_worstOf_30_32 14 rfl) (zi_at zh_dX8_worstOf_30_32 15 rfl) (zi_at zh_dX8_worstOf_46_48 0 rfl) rfl
theorem dX8_worstOf_49 : decode cX8_worstOf 49 = .ok (.goto 9, 3) := zo_167 (zi_at zh_dX8_worstOf_46_48 1 rfl) (zi_at zh_dX8_worstOf_46_48 2 rfl) (zi_at zh_dX8_worstOf_46_48 3 rfl) rfl
theorem dX8_worstOf_52 : decode cX8_worstOf 52 = .ok (.iload 4, 2) := zo_21 (zi_at zh_dX8_worstOf_46_48 4 rfl) (zi_at zh_dX8_worstOf_46_48 5 rfl)
theorem dX8_worstOf_54 : decode cX8_worstOf 54 = .ok (.istore_n 2, 1) := zo_61 (zi_at zh_dX8_worstOf_46_48 6 rfl)
theorem dX8_worstOf_55 : decode cX8_worstOf 55 = .ok (.iload 5, 2) := zo_21 (zi_at zh_dX8_worstOf_46_48 7 rfl) (zi_at zh_dX8_worstOf_46_48 8 rfl)
theorem dX8_worstOf_57 : decode cX8_worstOf 57 = .ok (.istore_n 3, 1) := zo_62 (zi_at zh_dX8_worstOf_46_48 9 rfl)
theorem dX8_worstOf_58 : decode cX8_worstOf 58 = .ok (.iinc 4 1, 3) := zo_132 (zi_at zh_dX8_worstOf_46_48 10 rfl) (zi_at zh_dX8_worstOf_46_48 11 rfl) (zi_at zh_dX8_worstOf_46_48 12 rfl) rfl
theorem dX8_worstOf_61 : decode cX8_worstOf 61 = .ok (.goto (-54), 3) := zo_167 (zi_at zh_dX8_worstOf_46_48 13 rfl) (zi_at zh_dX8_worstOf_46_48 14 rfl) (zi_at zh_dX8_worstOf_46_48 15 rfl) rfl
theorem dX8_worstOf_64 : decode cX8_worstOf 64 = .ok (.iload_n 2, 1) := zo_28 (zi_at zh_dX8_worstOf_64_64 0 rfl)
theorem dX8_worstOf_65 : decode cX8_worstOf 65 = .ok (.ireturn, 1) := zo_172 (zi_at zh_dX8_worstOf_64_64 1 rfl)
theorem dX8_boatAt_0 : decode cX8_boatAt 0 = .ok (.iconst 0, 1) := zo_3 (zi_at zh_dX8_boatAt_0_0 0 rfl)
theorem dX8_boatAt_1 : decode cX8_boatAt 1 = .ok (.istore_n 2, 1) := zo_61 (zi_at zh_dX8_boatAt_0_0 1 rfl)
theorem dX8_boatAt_2 : decode cX8_boatAt 2 = .ok (.iload_n 2, 1) := zo_28 (zi_at zh_dX8_boatAt_0_0 2 rfl)
theorem dX8_boatAt_3 : decode cX8_boatAt 3 = .ok (.aload_n 0, 1) := zo_42 (zi_at zh_dX8_boatAt_0_0 3 rfl)
theorem dX8_boatAt_4 : decode cX8_boatAt 4 = .ok (.getfield 34, 3) := zo_180 (zi_at zh_dX8_boatAt_0_0 4 rfl) (zi_at zh_dX8_boatAt_0_0 5 rfl) (zi_at zh_dX8_boatAt_0_0 6 rfl) rfl
theorem dX8_boatAt_7 : decode cX8_boatAt 7 = .ok (.getfield 84, 3) := zo_180 (zi_at zh_dX8_boatAt_0_0 7 rfl) (zi_at zh_dX8_boatAt_0_0 8 rfl) (zi_at zh_dX8_boatAt_0_0 9 rfl) rfl
theorem dX8_boatAt_10 : decode cX8_boatAt 10 = .ok (.if_icmp .ge 80, 3) := zo_162 (zi_at zh_dX8_boatAt_0_0 10 rfl) (zi_at zh_dX8_boatAt_0_0 11 rfl) (zi_at zh_dX8_boatAt_0_0 12 rfl) rfl
theorem dX8_boatAt_13 : decode cX8_boatAt 13 = .ok (.aload_n 0, 1) := zo_42 (zi_at zh_dX8_boatAt_0_0 13 rfl)
theorem dX8_boatAt_14 : decode cX8_boatAt 14 = .ok (.getfield 22, 3) := zo_180 (zi_at zh_dX8_boatAt_0_0 14 rfl) (zi_at zh_dX8_boatAt_0_0 15 rfl) (zi_at zh_dX8_boatAt_14_16 0 rfl) rfl
theorem dX8_boatAt_17 : decode cX8_boatAt 17 = .ok (.iload_n 2, 1) := zo_28 (zi_at zh_dX8_boatAt_14_16 1 rfl)
theorem dX8_boatAt_18 : decode cX8_boatAt 18 = .ok (.baload, 1) := zo_51 (zi_at zh_dX8_boatAt_14_16 2 rfl)
theorem dX8_boatAt_19 : decode cX8_boatAt 19 = .ok (.ifCond .ne 6, 3) := zo_154 (zi_at zh_dX8_boatAt_14_16 3 rfl) (zi_at zh_dX8_boatAt_14_16 4 rfl) (zi_at zh_dX8_boatAt_14_16 5 rfl) rfl
theorem dX8_boatAt_22 : decode cX8_boatAt 22 = .ok (.goto 62, 3) := zo_167 (zi_at zh_dX8_boatAt_14_16 6 rfl) (zi_at zh_dX8_boatAt_14_16 7 rfl) (zi_at zh_dX8_boatAt_14_16 8 rfl) rfl
theorem dX8_boatAt_25 : decode cX8_boatAt 25 = .ok (.iconst 0, 1) := zo_3 (zi_at zh_dX8_boatAt_14_16 9 rfl)
theorem dX8_boatAt_26 : decode cX8_boatAt 26 = .ok (.istore_n 3, 1) := zo_62 (zi_at zh_dX8_boatAt_14_16 10 rfl)
theorem dX8_boatAt_27 : decode cX8_boatAt 27 = .ok (.iconst 0, 1) := zo_3 (zi_at zh_dX8_boatAt_14_16 11 rfl)
theorem dX8_boatAt_28 : decode cX8_boatAt 28 = .ok (.istore 4, 2) := zo_54 (zi_at zh_dX8_boatAt_14_16 12 rfl) (zi_at zh_dX8_boatAt_14_16 13 rfl)
theorem dX8_boatAt_30 : decode cX8_boatAt 30 = .ok (.iload 4, 2) := zo_21 (zi_at zh_dX8_boatAt_14_16 14 rfl) (zi_at zh_dX8_boatAt_14_16 15 rfl)
theorem dX8_boatAt_32 : decode cX8_boatAt 32 = .ok (.aload_n 0, 1) := zo_42 (zi_at zh_dX8_boatAt_32_32 0 rfl)
theorem dX8_boatAt_33 : decode cX8_boatAt 33 = .ok (.getfield 34, 3) := zo_180 (zi_at zh_dX8_boatAt_32_32 1 rfl) (zi_at zh_dX8_boatAt_32_32 2 rfl) (zi_at zh_dX8_boatAt_32_32 3 rfl) rfl
theorem dX8_boatAt_36 : decode cX8_boatAt 36 = .ok (.getfield 84, 3) := zo_180 (zi_at zh_dX8_boatAt_32_32 4 rfl) (zi_at zh_dX8_boatAt_32_32 5 rfl) (zi_at zh_dX8_boatAt_32_32 6 rfl) rfl
theorem dX8_boatAt_39 : decode cX8_boatAt 39 = .ok (.if_icmp .ge 38, 3) := zo_162 (zi_at zh_dX8_boatAt_32_32 7 rfl) (zi_at zh_dX8_boatAt_32_32 8 rfl) (zi_at zh_dX8_boatAt_32_32 9 rfl) rfl
theorem dX8_boatAt_42 : decode cX8_boatAt 42 = .ok (.iload 4, 2) := zo_21 (zi_at zh_dX8_boatAt_32_32 10 rfl) (zi_at zh_dX8_boatAt_32_32 11 rfl)
theorem dX8_boatAt_44 : decode cX8_boatAt 44 = .ok (.iload_n 2, 1) := zo_28 (zi_at zh_dX8_boatAt_32_32 12 rfl)
theorem dX8_boatAt_45 : decode cX8_boatAt 45 = .ok (.if_icmp .eq 26, 3) := zo_159 (zi_at zh_dX8_boatAt_32_32 13 rfl) (zi_at zh_dX8_boatAt_32_32 14 rfl) (zi_at zh_dX8_boatAt_32_32 15 rfl) rfl
theorem dX8_boatAt_48 : decode cX8_boatAt 48 = .ok (.aload_n 0, 1) := zo_42 (zi_at zh_dX8_boatAt_48_48 0 rfl)
theorem dX8_boatAt_49 : decode cX8_boatAt 49 = .ok (.getfield 22, 3) := zo_180 (zi_at zh_dX8_boatAt_48_48 1 rfl) (zi_at zh_dX8_boatAt_48_48 2 rfl) (zi_at zh_dX8_boatAt_48_48 3 rfl) rfl
theorem dX8_boatAt_52 : decode cX8_boatAt 52 = .ok (.iload 4, 2) := zo_21 (zi_at zh_dX8_boatAt_48_48 4 rfl) (zi_at zh_dX8_boatAt_48_48 5 rfl)
theorem dX8_boatAt_54 : decode cX8_boatAt 54 = .ok (.baload, 1) := zo_51 (zi_at zh_dX8_boatAt_48_48 6 rfl)
theorem dX8_boatAt_55 : decode cX8_boatAt 55 = .ok (.ifCond .eq 16, 3) := zo_153 (zi_at zh_dX8_boatAt_48_48 7 rfl) (zi_at zh_dX8_boatAt_48_48 8 rfl) (zi_at zh_dX8_boatAt_48_48 9 rfl) rfl
theorem dX8_boatAt_58 : decode cX8_boatAt 58 = .ok (.aload_n 0, 1) := zo_42 (zi_at zh_dX8_boatAt_48_48 10 rfl)
theorem dX8_boatAt_59 : decode cX8_boatAt 59 = .ok (.iload 4, 2) := zo_21 (zi_at zh_dX8_boatAt_48_48 11 rfl) (zi_at zh_dX8_boatAt_48_48 12 rfl)
theorem dX8_boatAt_61 : decode cX8_boatAt 61 = .ok (.iload_n 2, 1) := zo_28 (zi_at zh_dX8_boatAt_48_48 13 rfl)
theorem dX8_boatAt_62 : decode cX8_boatAt 62 = .ok (.invokevirtual 120, 3) := zo_182 (zi_at zh_dX8_boatAt_48_48 14 rfl) (zi_at zh_dX8_boatAt_48_48 15 rfl) (zi_at zh_dX8_boatAt_62_64 0 rfl) rfl
theorem dX8_boatAt_65 : decode cX8_boatAt 65 = .ok (.ifCond .eq 6, 3) := zo_153 (zi_at zh_dX8_boatAt_62_64 1 rfl) (zi_at zh_dX8_boatAt_62_64 2 rfl) (zi_at zh_dX8_boatAt_62_64 3 rfl) rfl
theorem dX8_boatAt_68 : decode cX8_boatAt 68 = .ok (.iinc 3 1, 3) := zo_132 (zi_at zh_dX8_boatAt_62_64 4 rfl) (zi_at zh_dX8_boatAt_62_64 5 rfl) (zi_at zh_dX8_boatAt_62_64 6 rfl) rfl
theorem dX8_boatAt_71 : decode cX8_boatAt 71 = .ok (.iinc 4 1, 3) := zo_132 (zi_at zh_dX8_boatAt_62_64 7 rfl) (zi_at zh_dX8_boatAt_62_64 8 rfl) (zi_at zh_dX8_boatAt_62_64 9 rfl) rfl
theorem dX8_boatAt_74 : decode cX8_boatAt 74 = .ok (.goto (-44), 3) := zo_167 (zi_at zh_dX8_boatAt_62_64 10 rfl) (zi_at zh_dX8_boatAt_62_64 11 rfl) (zi_at zh_dX8_boatAt_62_64 12 rfl) rfl
theorem dX8_boatAt_77 : decode cX8_boatAt 77 = .ok (.iload_n 3, 1) := zo_29 (zi_at zh_dX8_boatAt_62_64 13 rfl)
theorem dX8_boatAt_78 : decode cX8_boatAt 78 = .ok (.iload_n 1, 1) := zo_27 (zi_at zh_dX8_boatAt_62_64 14 rfl)
theorem dX8_boatAt_79 : decode cX8_boatAt 79 = .ok (.if_icmp .ne 5, 3) := zo_160 (zi_at zh_dX8_boatAt_62_64 15 rfl) (zi_at zh_dX8_boatAt_79_80 0 rfl) (zi_at zh_dX8_boatAt_79_80 1 rfl) rfl
theorem dX8_boatAt_82 : decode cX8_boatAt 82 = .ok (.iload_n 2, 1) := zo_28 (zi_at zh_dX8_boatAt_79_80 2 rfl)
theorem dX8_boatAt_83 : decode cX8_boatAt 83 = .ok (.ireturn, 1) := zo_172 (zi_at zh_dX8_boatAt_79_80 3 rfl)
theorem dX8_boatAt_84 : decode cX8_boatAt 84 = .ok (.iinc 2 1, 3) := zo_132 (zi_at zh_dX8_boatAt_79_80 4 rfl) (zi_at zh_dX8_boatAt_79_80 5 rfl) (zi_at zh_dX8_boatAt_79_80 6 rfl) rfl
theorem dX8_boatAt_87 : decode cX8_boatAt 87 = .ok (.goto (-85), 3) := zo_167 (zi_at zh_dX8_boatAt_79_80 7 rfl) (zi_at zh_dX8_boatAt_79_80 8 rfl) (zi_at zh_dX8_boatAt_79_80 9 rfl) rfl
theorem dX8_boatAt_90 : decode cX8_boatAt 90 = .ok (.iconst (-1), 1) := zo_2 (zi_at zh_dX8_boatAt_79_80 10 rfl)
theorem dX8_boatAt_91 : decode cX8_boatAt 91 = .ok (.ireturn, 1) := zo_172 (zi_at zh_dX8_boatAt_79_80 11 rfl)
theorem dX8_isBetter_0 : decode cX8_isBetter 0 = .ok (.aload_n 0, 1) := zo_42 (zi_at zh_dX8_isBetter_0_0 0 rfl)
theorem dX8_isBetter_1 : decode cX8_isBetter 1 = .ok (.getfield 25, 3) := zo_180 (zi_at zh_dX8_isBetter_0_0 1 rfl) (zi_at zh_dX8_isBetter_0_0 2 rfl) (zi_at zh_dX8_isBetter_0_0 3 rfl) rfl
theorem dX8_isBetter_4 : decode cX8_isBetter 4 = .ok (.iload_n 1, 1) := zo_27 (zi_at zh_dX8_isBetter_0_0 4 rfl)
theorem dX8_isBetter_5 : decode cX8_isBetter 5 = .ok (.iaload, 1) := zo_46 (zi_at zh_dX8_isBetter_0_0 5 rfl)
theorem dX8_isBetter_6 : decode cX8_isBetter 6 = .ok (.aload_n 0, 1) := zo_42 (zi_at zh_dX8_isBetter_0_0 6 rfl)
theorem dX8_isBetter_7 : decode cX8_isBetter 7 = .ok (.getfield 25, 3) := zo_180 (zi_at zh_dX8_isBetter_0_0 7 rfl) (zi_at zh_dX8_isBetter_0_0 8 rfl) (zi_at zh_dX8_isBetter_0_0 9 rfl) rfl
theorem dX8_isBetter_10 : decode cX8_isBetter 10 = .ok (.iload_n 2, 1) := zo_28 (zi_at zh_dX8_isBetter_0_0 10 rfl)
theorem dX8_isBetter_11 : decode cX8_isBetter 11 = .ok (.iaload, 1) := zo_46 (zi_at zh_dX8_isBetter_0_0 11 rfl)
theorem dX8_isBetter_12 : decode cX8_isBetter 12 = .ok (.if_icmp .eq 24, 3) := zo_159 (zi_at zh_dX8_isBetter_0_0 12 rfl) (zi_at zh_dX8_isBetter_0_0 13 rfl) (zi_at zh_dX8_isBetter_0_0 14 rfl) rfl
theorem dX8_isBetter_15 : decode cX8_isBetter 15 = .ok (.aload_n 0, 1) := zo_42 (zi_at zh_dX8_isBetter_0_0 15 rfl)
theorem dX8_isBetter_16 : decode cX8_isBetter 16 = .ok (.getfield 25, 3) := zo_180 (zi_at zh_dX8_isBetter_16_16 0 rfl) (zi_at zh_dX8_isBetter_16_16 1 rfl) (zi_at zh_dX8_isBetter_16_16 2 rfl) rfl
theorem dX8_isBetter_19 : decode cX8_isBetter 19 = .ok (.iload_n 1, 1) := zo_27 (zi_at zh_dX8_isBetter_16_16 3 rfl)
theorem dX8_isBetter_20 : decode cX8_isBetter 20 = .ok (.iaload, 1) := zo_46 (zi_at zh_dX8_isBetter_16_16 4 rfl)
theorem dX8_isBetter_21 : decode cX8_isBetter 21 = .ok (.aload_n 0, 1) := zo_42 (zi_at zh_dX8_isBetter_16_16 5 rfl)
theorem dX8_isBetter_22 : decode cX8_isBetter 22 = .ok (.getfield 25, 3) := zo_180 (zi_at zh_dX8_isBetter_16_16 6 rfl) (zi_at zh_dX8_isBetter_16_16 7 rfl) (zi_at zh_dX8_isBetter_16_16 8 rfl) rfl
theorem dX8_isBetter_25 : decode cX8_isBetter 25 = .ok (.iload_n 2, 1) := zo_28 (zi_at zh_dX8_isBetter_16_16 9 rfl)
theorem dX8_isBetter_26 : decode cX8_isBetter 26 = .ok (.iaload, 1) := zo_46 (zi_at zh_dX8_isBetter_16_16 10 rfl)
theorem dX8_isBetter_27 : decode cX8_isBetter 27 = .ok (.if_icmp .ge 7, 3) := zo_162 (zi_at zh_dX8_isBetter_16_16 11 rfl) (zi_at zh_dX8_isBetter_16_16 12 rfl) (zi_at zh_dX8_isBetter_16_16 13 rfl) rfl
theorem dX8_isBetter_30 : decode cX8_isBetter 30 = .ok (.iconst 1, 1) := zo_4 (zi_at zh_dX8_isBetter_16_16 14 rfl)
theorem dX8_isBetter_31 : decode cX8_isBetter 31 = .ok (.goto 4, 3) := zo_167 (zi_at zh_dX8_isBetter_16_16 15 rfl) (zi_at zh_dX8_isBetter_31_32 0 rfl) (zi_at zh_dX8_isBetter_31_32 1 rfl) rfl
theorem dX8_isBetter_34 : decode cX8_isBetter 34 = .ok (.iconst 0, 1) := zo_3 (zi_at zh_dX8_isBetter_31_32 2 rfl)
theorem dX8_isBetter_35 : decode cX8_isBetter 35 = .ok (.ireturn, 1) := zo_172 (zi_at zh_dX8_isBetter_31_32 3 rfl)
theorem dX8_isBetter_36 : decode cX8_isBetter 36 = .ok (.aload_n 0, 1) := zo_42 (zi_at zh_dX8_isBetter_31_32 4 rfl)
theorem dX8_isBetter_37 : decode cX8_isBetter 37 = .ok (.iload_n 1, 1) := zo_27 (zi_at zh_dX8_isBetter_31_32 5 rfl)
theorem dX8_isBetter_38 : decode cX8_isBetter 38 = .ok (.aload_n 0, 1) := zo_42 (zi_at zh_dX8_isBetter_31_32 6 rfl)
theorem dX8_isBetter_39 : decode cX8_isBetter 39 = .ok (.getfield 28, 3) := zo_180 (zi_at zh_dX8_isBetter_31_32 7 rfl) (zi_at zh_dX8_isBetter_31_32 8 rfl) (zi_at zh_dX8_isBetter_31_32 9 rfl) rfl
theorem dX8_isBetter_42 : decode cX8_isBetter 42 = .ok (.invokevirtual 123, 3) := zo_182 (zi_at zh_dX8_isBetter_31_32 10 rfl) (zi_at zh_dX8_isBetter_31_32 11 rfl) (zi_at zh_dX8_isBetter_31_32 12 rfl) rfl
theorem dX8_isBetter_45 : decode cX8_isBetter 45 = .ok (.istore_n 3, 1) := zo_62 (zi_at zh_dX8_isBetter_31_32 13 rfl)
theorem dX8_isBetter_46 : decode cX8_isBetter 46 = .ok (.aload_n 0, 1) := zo_42 (zi_at zh_dX8_isBetter_31_32 14 rfl)
theorem dX8_isBetter_47 : decode cX8_isBetter 47 = .ok (.iload_n 2, 1) := zo_28 (zi_at zh_dX8_isBetter_31_32 15 rfl)
theorem dX8_isBetter_48 : decode cX8_isBetter 48 = .ok (.aload_n 0, 1) := zo_42 (zi_at zh_dX8_isBetter_48_48 0 rfl)
theorem dX8_isBetter_49 : decode cX8_isBetter 49 = .ok (.getfield 31, 3) := zo_180 (zi_at zh_dX8_isBetter_48_48 1 rfl) (zi_at zh_dX8_isBetter_48_48 2 rfl) (zi_at zh_dX8_isBetter_48_48 3 rfl) rfl
theorem dX8_isBetter_52 : decode cX8_isBetter 52 = .ok (.invokevirtual 123, 3) := zo_182 (zi_at zh_dX8_isBetter_48_48 4 rfl) (zi_at zh_dX8_isBetter_48_48 5 rfl) (zi_at zh_dX8_isBetter_48_48 6 rfl) rfl
theorem dX8_isBetter_55 : decode cX8_isBetter 55 = .ok (.pop, 1) := zo_87 (zi_at zh_dX8_isBetter_48_48 7 rfl)
theorem dX8_isBetter_56 : decode cX8_isBetter 56 = .ok (.iconst 0, 1) := zo_3 (zi_at zh_dX8_isBetter_48_48 8 rfl)
theorem dX8_isBetter_57 : decode cX8_isBetter 57 = .ok (.istore 4, 2) := zo_54 (zi_at zh_dX8_isBetter_48_48 9 rfl) (zi_at zh_dX8_isBetter_48_48 10 rfl)
theorem dX8_isBetter_59 : decode cX8_isBetter 59 = .ok (.iload 4, 2) := zo_21 (zi_at zh_dX8_isBetter_48_48 11 rfl) (zi_at zh_dX8_isBetter_48_48 12 rfl)
theorem dX8_isBetter_61 : decode cX8_isBetter 61 = .ok (.iload_n 3, 1) := zo_29 (zi_at zh_dX8_isBetter_48_48 13 rfl)
theorem dX8_isBetter_62 : decode cX8_isBetter 62 = .ok (.if_icmp .ge 49, 3) := zo_162 (zi_at zh_dX8_isBetter_48_48 14 rfl) (zi_at zh_dX8_isBetter_48_48 15 rfl) (zi_at zh_dX8_isBetter_62_64 0 rfl) rfl
theorem dX8_isBetter_65 : decode cX8_isBetter 65 = .ok (.aload_n 0, 1) := zo_42 (zi_at zh_dX8_isBetter_62_64 1 rfl)
theorem dX8_isBetter_66 : decode cX8_isBetter 66 = .ok (.getfield 28, 3) := zo_180 (zi_at zh_dX8_isBetter_62_64 2 rfl) (zi_at zh_dX8_isBetter_62_64 3 rfl) (zi_at zh_dX8_isBetter_62_64 4 rfl) rfl
theorem dX8_isBetter_69 : decode cX8_isBetter 69 = .ok (.iload 4, 2) := zo_21 (zi_at zh_dX8_isBetter_62_64 5 rfl) (zi_at zh_dX8_isBetter_62_64 6 rfl)
theorem dX8_isBetter_71 : decode cX8_isBetter 71 = .ok (.iaload, 1) := zo_46 (zi_at zh_dX8_isBetter_62_64 7 rfl)
theorem dX8_isBetter_72 : decode cX8_isBetter 72 = .ok (.aload_n 0, 1) := zo_42 (zi_at zh_dX8_isBetter_62_64 8 rfl)
theorem dX8_isBetter_73 : decode cX8_isBetter 73 = .ok (.getfield 31, 3) := zo_180 (zi_at zh_dX8_isBetter_62_64 9 rfl) (zi_at zh_dX8_isBetter_62_64 10 rfl) (zi_at zh_dX8_isBetter_62_64 11 rfl) rfl
theorem dX8_isBetter_76 : decode cX8_isBetter 76 = .ok (.iload 4, 2) := zo_21 (zi_at zh_dX8_isBetter_62_64 12 rfl) (zi_at zh_dX8_isBetter_62_64 13 rfl)
theorem dX8_isBetter_78 : decode cX8_isBetter 78 = .ok (.iaload, 1) := zo_46 (zi_at zh_dX8_isBetter_62_64 14 rfl)
theorem dX8_isBetter_79 : decode cX8_isBetter 79 = .ok (.if_icmp .eq 26, 3) := zo_159 (zi_at zh_dX8_isBetter_62_64 15 rfl) (zi_at zh_dX8_isBetter_79_80 0 rfl) (zi_at zh_dX8_isBetter_79_80 1 rfl) rfl
theorem dX8_isBetter_82 : decode cX8_isBetter 82 = .ok (.aload_n 0, 1) := zo_42 (zi_at zh_dX8_isBetter_79_80 2 rfl)
theorem dX8_isBetter_83 : decode cX8_isBetter 83 = .ok (.getfield 28, 3) := zo_180 (zi_at zh_dX8_isBetter_79_80 3 rfl) (zi_at zh_dX8_isBetter_79_80 4 rfl) (zi_at zh_dX8_isBetter_79_80 5 rfl) rfl
theorem dX8_isBetter_86 : decode cX8_isBetter 86 = .ok (.iload 4, 2) := zo_21 (zi_at zh_dX8_isBetter_79_80 6 rfl) (zi_at zh_dX8_isBetter_79_80 7 rfl)
theorem dX8_isBetter_88 : decode cX8_isBetter 88 = .ok (.iaload, 1) := zo_46 (zi_at zh_dX8_isBetter_79_80 8 rfl)
theorem dX8_isBetter_89 : decode cX8_isBetter 89 = .ok (.aload_n 0, 1) := zo_42 (zi_at zh_dX8_isBetter_79_80 9 rfl)
theorem dX8_isBetter_90 : decode cX8_isBetter 90 = .ok (.getfield 31, 3) := zo_180 (zi_at zh_dX8_isBetter_79_80 10 rfl) (zi_at zh_dX8_isBetter_79_80 11 rfl) (zi_at zh_dX8_isBetter_79_80 12 rfl) rfl
theorem dX8_isBetter_93 : decode cX8_isBetter 93 = .ok (.iload 4, 2) := zo_21 (zi_at zh_dX8_isBetter_79_80 13 rfl) (zi_at zh_dX8_isBetter_79_80 14 rfl)
theorem dX8_isBetter_95 : decode cX8_isBetter 95 = .ok (.iaload, 1) := zo_46 (zi_at zh_dX8_isBetter_79_80 15 rfl)
theorem dX8_isBetter_96 : decode cX8_isBetter 96 = .ok (.if_icmp .ge 7, 3) := zo_162 (zi_at zh_dX8_isBetter_96_96 0 rfl) (zi_at zh_dX8_isBetter_96_96 1 rfl) (zi_at zh_dX8_isBetter_96_96 2 rfl) rfl
theorem dX8_isBetter_99 : decode cX8_isBetter 99 = .ok (.iconst 1, 1) := zo_4 (zi_at zh_dX8_isBetter_96_96 3 rfl)
theorem dX8_isBetter_100 : decode cX8_isBetter 100 = .ok (.goto 4, 3) := zo_167 (zi_at zh_dX8_isBetter_96_96 4 rfl) (zi_at zh_dX8_isBetter_96_96 5 rfl) (zi_at zh_dX8_isBetter_96_96 6 rfl) rfl
theorem dX8_isBetter_103 : decode cX8_isBetter 103 = .ok (.iconst 0, 1) := zo_3 (zi_at zh_dX8_isBetter_96_96 7 rfl)
theorem dX8_isBetter_104 : decode cX8_isBetter 104 = .ok (.ireturn, 1) := zo_172 (zi_at zh_dX8_isBetter_96_96 8 rfl)
theorem dX8_isBetter_105 : decode cX8_isBetter 105 = .ok (.iinc 4 1, 3) := zo_132 (zi_at zh_dX8_isBetter_96_96 9 rfl) (zi_at zh_dX8_isBetter_96_96 10 rfl) (zi_at zh_dX8_isBetter_96_96 11 rfl) rfl
theorem dX8_isBetter_108 : decode cX8_isBetter 108 = .ok (.goto (-49), 3) := zo_167 (zi_at zh_dX8_isBetter_96_96 12 rfl) (zi_at zh_dX8_isBetter_96_96 13 rfl) (zi_at zh_dX8_isBetter_96_96 14 rfl) rfl
theorem dX8_isBetter_111 : decode cX8_isBetter 111 = .ok (.aload_n 0, 1) := zo_42 (zi_at zh_dX8_isBetter_96_96 15 rfl)
theorem dX8_isBetter_112 : decode cX8_isBetter 112 = .ok (.getfield 73, 3) := zo_180 (zi_at zh_dX8_isBetter_112_112 0 rfl) (zi_at zh_dX8_isBetter_112_112 1 rfl) (zi_at zh_dX8_isBetter_112_112 2 rfl) rfl
theorem dX8_isBetter_115 : decode cX8_isBetter 115 = .ok (.iconst 1, 1) := zo_4 (zi_at zh_dX8_isBetter_112_112 3 rfl)
theorem dX8_isBetter_116 : decode cX8_isBetter 116 = .ok (.isub, 1) := zo_100 (zi_at zh_dX8_isBetter_112_112 4 rfl)
theorem dX8_isBetter_117 : decode cX8_isBetter 117 = .ok (.istore 4, 2) := zo_54 (zi_at zh_dX8_isBetter_112_112 5 rfl) (zi_at zh_dX8_isBetter_112_112 6 rfl)
theorem dX8_isBetter_119 : decode cX8_isBetter 119 = .ok (.iload 4, 2) := zo_21 (zi_at zh_dX8_isBetter_112_112 7 rfl) (zi_at zh_dX8_isBetter_112_112 8 rfl)
theorem dX8_isBetter_121 : decode cX8_isBetter 121 = .ok (.ifCond .lt 55, 3) := zo_155 (zi_at zh_dX8_isBetter_112_112 9 rfl) (zi_at zh_dX8_isBetter_112_112 10 rfl) (zi_at zh_dX8_isBetter_112_112 11 rfl) rfl
theorem dX8_isBetter_124 : decode cX8_isBetter 124 = .ok (.aload_n 0, 1) := zo_42 (zi_at zh_dX8_isBetter_112_112 12 rfl)
theorem dX8_isBetter_125 : decode cX8_isBetter 125 = .ok (.getfield 15, 3) := zo_180 (zi_at zh_dX8_isBetter_112_112 13 rfl) (zi_at zh_dX8_isBetter_112_112 14 rfl) (zi_at zh_dX8_isBetter_112_112 15 rfl) rfl
theorem dX8_isBetter_128 : decode cX8_isBetter 128 = .ok (.iload 4, 2) := zo_21 (zi_at zh_dX8_isBetter_128_128 0 rfl) (zi_at zh_dX8_isBetter_128_128 1 rfl)
theorem dX8_isBetter_130 : decode cX8_isBetter 130 = .ok (.iload_n 1, 1) := zo_27 (zi_at zh_dX8_isBetter_128_128 2 rfl)
theorem dX8_isBetter_131 : decode cX8_isBetter 131 = .ok (.invokestatic 76, 3) := zo_184 (zi_at zh_dX8_isBetter_128_128 3 rfl) (zi_at zh_dX8_isBetter_128_128 4 rfl) (zi_at zh_dX8_isBetter_128_128 5 rfl) rfl
theorem dX8_isBetter_134 : decode cX8_isBetter 134 = .ok (.iaload, 1) := zo_46 (zi_at zh_dX8_isBetter_128_128 6 rfl)
theorem dX8_isBetter_135 : decode cX8_isBetter 135 = .ok (.istore 5, 2) := zo_54 (zi_at zh_dX8_isBetter_128_128 7 rfl) (zi_at zh_dX8_isBetter_128_128 8 rfl)
theorem dX8_isBetter_137 : decode cX8_isBetter 137 = .ok (.aload_n 0, 1) := zo_42 (zi_at zh_dX8_isBetter_128_128 9 rfl)
theorem dX8_isBetter_138 : decode cX8_isBetter 138 = .ok (.getfield 15, 3) := zo_180 (zi_at zh_dX8_isBetter_128_128 10 rfl) (zi_at zh_dX8_isBetter_128_128 11 rfl) (zi_at zh_dX8_isBetter_128_128 12 rfl) rfl
theorem dX8_isBetter_141 : decode cX8_isBetter 141 = .ok (.iload 4, 2) := zo_21 (zi_at zh_dX8_isBetter_128_128 13 rfl) (zi_at zh_dX8_isBetter_128_128 14 rfl)
theorem dX8_isBetter_143 : decode cX8_isBetter 143 = .ok (.iload_n 2, 1) := zo_28 (zi_at zh_dX8_isBetter_128_128 15 rfl)
theorem dX8_isBetter_144 : decode cX8_isBetter 144 = .ok (.invokestatic 76, 3) := zo_184 (zi_at zh_dX8_isBetter_144_144 0 rfl) (zi_at zh_dX8_isBetter_144_144 1 rfl) (zi_at zh_dX8_isBetter_144_144 2 rfl) rfl
theorem dX8_isBetter_147 : decode cX8_isBetter 147 = .ok (.iaload, 1) := zo_46 (zi_at zh_dX8_isBetter_144_144 3 rfl)
theorem dX8_isBetter_148 : decode cX8_isBetter 148 = .ok (.istore 6, 2) := zo_54 (zi_at zh_dX8_isBetter_144_144 4 rfl) (zi_at zh_dX8_isBetter_144_144 5 rfl)
theorem dX8_isBetter_150 : decode cX8_isBetter 150 = .ok (.iload 5, 2) := zo_21 (zi_at zh_dX8_isBetter_144_144 6 rfl) (zi_at zh_dX8_isBetter_144_144 7 rfl)
theorem dX8_isBetter_152 : decode cX8_isBetter 152 = .ok (.iload 6, 2) := zo_21 (zi_at zh_dX8_isBetter_144_144 8 rfl) (zi_at zh_dX8_isBetter_144_144 9 rfl)
theorem dX8_isBetter_154 : decode cX8_isBetter 154 = .ok (.if_icmp .eq 16, 3) := zo_159 (zi_at zh_dX8_isBetter_144_144 10 rfl) (zi_at zh_dX8_isBetter_144_144 11 rfl) (zi_at zh_dX8_isBetter_144_144 12 rfl) rfl
theorem dX8_isBetter_157 : decode cX8_isBetter 157 = .ok (.iload 5, 2) := zo_21 (zi_at zh_dX8_isBetter_144_144 13 rfl) (zi_at zh_dX8_isBetter_144_144 14 rfl)
theorem dX8_isBetter_159 : decode cX8_isBetter 159 = .ok (.iload 6, 2) := zo_21 (zi_at zh_dX8_isBetter_144_144 15 rfl) (zi_at zh_dX8_isBetter_159_160 0 rfl)
theorem dX8_isBetter_161 : decode cX8_isBetter 161 = .ok (.if_icmp .ge 7, 3) := zo_162 (zi_at zh_dX8_isBetter_159_160 1 rfl) (zi_at zh_dX8_isBetter_159_160 2 rfl) (zi_at zh_dX8_isBetter_159_160 3 rfl) rfl
theorem dX8_isBetter_164 : decode cX8_isBetter 164 = .ok (.iconst 1, 1) := zo_4 (zi_at zh_dX8_isBetter_159_160 4 rfl)
theorem dX8_isBetter_165 : decode cX8_isBetter 165 = .ok (.goto 4, 3) := zo_167 (zi_at zh_dX8_isBetter_159_160 5 rfl) (zi_at zh_dX8_isBetter_159_160 6 rfl) (zi_at zh_dX8_isBetter_159_160 7 rfl) rfl
theorem dX8_isBetter_168 : decode cX8_isBetter 168 = .ok (.iconst 0, 1) := zo_3 (zi_at zh_dX8_isBetter_159_160 8 rfl)
theorem dX8_isBetter_169 : decode cX8_isBetter 169 = .ok (.ireturn, 1) := zo_172 (zi_at zh_dX8_isBetter_159_160 9 rfl)
theorem dX8_isBetter_170 : decode cX8_isBetter 170 = .ok (.iinc 4 (-1), 3) := zo_132 (zi_at zh_dX8_isBetter_159_160 10 rfl) (zi_at zh_dX8_isBetter_159_160 11 rfl) (zi_at zh_dX8_isBetter_159_160 12 rfl) rfl
theorem dX8_isBetter_173 : decode cX8_isBetter 173 = .ok (.goto (-54), 3) := zo_167 (zi_at zh_dX8_isBetter_159_160 13 rfl) (zi_at zh_dX8_isBetter_159_160 14 rfl) (zi_at zh_dX8_isBetter_159_160 15 rfl) rfl
theorem dX8_isBetter_176 : decode cX8_isBetter 176 = .ok (.iload_n 1, 1) := zo_27 (zi_at zh_dX8_isBetter_176_176 0 rfl)
theorem dX8_isBetter_177 : decode cX8_isBetter 177 = .ok (.iload_n 2, 1) := zo_28 (zi_at zh_dX8_isBetter_176_176 1 rfl)
theorem dX8_isBetter_178 : decode cX8_isBetter 178 = .ok (.if_icmp .ge 7, 3) := zo_162 (zi_at zh_dX8_isBetter_176_176 2 rfl) (zi_at zh_dX8_isBetter_176_176 3 rfl) (zi_at zh_dX8_isBetter_176_176 4 rfl) rfl
theorem dX8_isBetter_181 : decode cX8_isBetter 181 = .ok (.iconst 1, 1) := zo_4 (zi_at zh_dX8_isBetter_176_176 5 rfl)
theorem dX8_isBetter_182 : decode cX8_isBetter 182 = .ok (.goto 4, 3) := zo_167 (zi_at zh_dX8_isBetter_176_176 6 rfl) (zi_at zh_dX8_isBetter_176_176 7 rfl) (zi_at zh_dX8_isBetter_176_176 8 rfl) rfl
theorem dX8_isBetter_185 : decode cX8_isBetter 185 = .ok (.iconst 0, 1) := zo_3 (zi_at zh_dX8_isBetter_176_176 9 rfl)
theorem dX8_isBetter_186 : decode cX8_isBetter 186 = .ok (.ireturn, 1) := zo_172 (zi_at zh_dX8_isBetter_176_176 10 rfl)
theorem dX8_sortKept_0 : decode cX8_sortKept 0 = .ok (.iconst 0, 1) := zo_3 (zi_at zh_dX8_sortKept_0_0 0 rfl)
theorem dX8_sortKept_1 : decode cX8_sortKept 1 = .ok (.istore_n 3, 1) := zo_62 (zi_at zh_dX8_sortKept_0_0 1 rfl)
theorem dX8_sortKept_2 : decode cX8_sortKept 2 = .ok (.iconst 0, 1) := zo_3 (zi_at zh_dX8_sortKept_0_0 2 rfl)
theorem dX8_sortKept_3 : decode cX8_sortKept 3 = .ok (.istore 4, 2) := zo_54 (zi_at zh_dX8_sortKept_0_0 3 rfl) (zi_at zh_dX8_sortKept_0_0 4 rfl)
theorem dX8_sortKept_5 : decode cX8_sortKept 5 = .ok (.iload 4, 2) := zo_21 (zi_at zh_dX8_sortKept_0_0 5 rfl) (zi_at zh_dX8_sortKept_0_0 6 rfl)
theorem dX8_sortKept_7 : decode cX8_sortKept 7 = .ok (.aload_n 0, 1) := zo_42 (zi_at zh_dX8_sortKept_0_0 7 rfl)
theorem dX8_sortKept_8 : decode cX8_sortKept 8 = .ok (.getfield 73, 3) := zo_180 (zi_at zh_dX8_sortKept_0_0 8 rfl) (zi_at zh_dX8_sortKept_0_0 9 rfl) (zi_at zh_dX8_sortKept_0_0 10 rfl) rfl
theorem dX8_sortKept_11 : decode cX8_sortKept 11 = .ok (.if_icmp .ge 43, 3) := zo_162 (zi_at zh_dX8_sortKept_0_0 11 rfl) (zi_at zh_dX8_sortKept_0_0 12 rfl) (zi_at zh_dX8_sortKept_0_0 13 rfl) rfl
theorem dX8_sortKept_14 : decode cX8_sortKept 14 = .ok (.aload_n 0, 1) := zo_42 (zi_at zh_dX8_sortKept_0_0 14 rfl)
theorem dX8_sortKept_15 : decode cX8_sortKept 15 = .ok (.getfield 18, 3) := zo_180 (zi_at zh_dX8_sortKept_0_0 15 rfl) (zi_at zh_dX8_sortKept_15_16 0 rfl) (zi_at zh_dX8_sortKept_15_16 1 rfl) rfl
theorem dX8_sortKept_18 : decode cX8_sortKept 18 = .ok (.iload 4, 2) := zo_21 (zi_at zh_dX8_sortKept_15_16 2 rfl) (zi_at zh_dX8_sortKept_15_16 3 rfl)
theorem dX8_sortKept_20 : decode cX8_sortKept 20 = .ok (.iload_n 1, 1) := zo_27 (zi_at zh_dX8_sortKept_15_16 4 rfl)
theorem dX8_sortKept_21 : decode cX8_sortKept 21 = .ok (.invokestatic 76, 3) := zo_184 (zi_at zh_dX8_sortKept_15_16 5 rfl) (zi_at zh_dX8_sortKept_15_16 6 rfl) (zi_at zh_dX8_sortKept_15_16 7 rfl) rfl
theorem dX8_sortKept_24 : decode cX8_sortKept 24 = .ok (.baload, 1) := zo_51 (zi_at zh_dX8_sortKept_15_16 8 rfl)
theorem dX8_sortKept_25 : decode cX8_sortKept 25 = .ok (.ifCond .eq 6, 3) := zo_153 (zi_at zh_dX8_sortKept_15_16 9 rfl) (zi_at zh_dX8_sortKept_15_16 10 rfl) (zi_at zh_dX8_sortKept_15_16 11 rfl) rfl
theorem dX8_sortKept_28 : decode cX8_sortKept 28 = .ok (.goto 20, 3) := zo_167 (zi_at zh_dX8_sortKept_15_16 12 rfl) (zi_at zh_dX8_sortKept_15_16 13 rfl) (zi_at zh_dX8_sortKept_15_16 14 rfl) rfl
theorem dX8_sortKept_31 : decode cX8_sortKept 31 = .ok (.aload_n 0, 1) := zo_42 (zi_at zh_dX8_sortKept_15_16 15 rfl)
theorem dX8_sortKept_32 : decode cX8_sortKept 32 = .ok (.getfield 15, 3) := zo_180 (zi_at zh_dX8_sortKept_32_32 0 rfl) (zi_at zh_dX8_sortKept_32_32 1 rfl) (zi_at zh_dX8_sortKept_32_32 2 rfl) rfl
theorem dX8_sortKept_35 : decode cX8_sortKept 35 = .ok (.iload 4, 2) := zo_21 (zi_at zh_dX8_sortKept_32_32 3 rfl) (zi_at zh_dX8_sortKept_32_32 4 rfl)
theorem dX8_sortKept_37 : decode cX8_sortKept 37 = .ok (.iload_n 1, 1) := zo_27 (zi_at zh_dX8_sortKept_32_32 5 rfl)
theorem dX8_sortKept_38 : decode cX8_sortKept 38 = .ok (.invokestatic 76, 3) := zo_184 (zi_at zh_dX8_sortKept_32_32 6 rfl) (zi_at zh_dX8_sortKept_32_32 7 rfl) (zi_at zh_dX8_sortKept_32_32 8 rfl) rfl
theorem dX8_sortKept_41 : decode cX8_sortKept 41 = .ok (.iaload, 1) := zo_46 (zi_at zh_dX8_sortKept_32_32 9 rfl)
theorem dX8_sortKept_42 : decode cX8_sortKept 42 = .ok (.aload_n 2, 1) := zo_44 (zi_at zh_dX8_sortKept_32_32 10 rfl)
theorem dX8_sortKept_43 : decode cX8_sortKept 43 = .ok (.iload_n 3, 1) := zo_29 (zi_at zh_dX8_sortKept_32_32 11 rfl)
theorem dX8_sortKept_44 : decode cX8_sortKept 44 = .ok (.invokestatic 127, 3) := zo_184 (zi_at zh_dX8_sortKept_32_32 12 rfl) (zi_at zh_dX8_sortKept_32_32 13 rfl) (zi_at zh_dX8_sortKept_32_32 14 rfl) rfl
theorem dX8_sortKept_47 : decode cX8_sortKept 47 = .ok (.istore_n 3, 1) := zo_62 (zi_at zh_dX8_sortKept_32_32 15 rfl)
theorem dX8_sortKept_48 : decode cX8_sortKept 48 = .ok (.iinc 4 1, 3) := zo_132 (zi_at zh_dX8_sortKept_48_48 0 rfl) (zi_at zh_dX8_sortKept_48_48 1 rfl) (zi_at zh_dX8_sortKept_48_48 2 rfl) rfl
theorem dX8_sortKept_51 : decode cX8_sortKept 51 = .ok (.goto (-46), 3) := zo_167 (zi_at zh_dX8_sortKept_48_48 3 rfl) (zi_at zh_dX8_sortKept_48_48 4 rfl) (zi_at zh_dX8_sortKept_48_48 5 rfl) rfl
theorem dX8_sortKept_54 : decode cX8_sortKept 54 = .ok (.iload_n 3, 1) := zo_29 (zi_at zh_dX8_sortKept_48_48 6 rfl)
theorem dX8_sortKept_55 : decode cX8_sortKept 55 = .ok (.ireturn, 1) := zo_172 (zi_at zh_dX8_sortKept_48_48 7 rfl)
theorem dX12_sortIn_0 : decode cX12_sortIn 0 = .ok (.iload_n 2, 1) := zo_28 (zi_at zh_dX12_sortIn_0_0 0 rfl)
theorem dX12_sortIn_1 : decode cX12_sortIn 1 = .ok (.aload_n 1, 1) := zo_43 (zi_at zh_dX12_sortIn_0_0 1 rfl)
theorem dX12_sortIn_2 : decode cX12_sortIn 2 = .ok (.arraylength, 1) := zo_190 (zi_at zh_dX12_sortIn_0_0 2 rfl)
theorem dX12_sortIn_3 : decode cX12_sortIn 3 = .ok (.if_icmp .lt 5, 3) := zo_161 (zi_at zh_dX12_sortIn_0_0 3 rfl) (zi_at zh_dX12_sortIn_0_0 4 rfl) (zi_at zh_dX12_sortIn_0_0 5 rfl) rfl
theorem dX12_sortIn_6 : decode cX12_sortIn 6 = .ok (.iload_n 2, 1) := zo_28 (zi_at zh_dX12_sortIn_0_0 6 rfl)
theorem dX12_sortIn_7 : decode cX12_sortIn 7 = .ok (.ireturn, 1) := zo_172 (zi_at zh_dX12_sortIn_0_0 7 rfl)
theorem dX12_sortIn_8 : decode cX12_sortIn 8 = .ok (.iload_n 2, 1) := zo_28 (zi_at zh_dX12_sortIn_0_0 8 rfl)
theorem dX12_sortIn_9 : decode cX12_sortIn 9 = .ok (.istore_n 3, 1) := zo_62 (zi_at zh_dX12_sortIn_0_0 9 rfl)
theorem dX12_sortIn_10 : decode cX12_sortIn 10 = .ok (.iload_n 3, 1) := zo_29 (zi_at zh_dX12_sortIn_0_0 10 rfl)
theorem dX12_sortIn_11 : decode cX12_sortIn 11 = .ok (.ifCond .le 26, 3) := zo_158 (zi_at zh_dX12_sortIn_0_0 11 rfl) (zi_at zh_dX12_sortIn_0_0 12 rfl) (zi_at zh_dX12_sortIn_0_0 13 rfl) rfl
theorem dX12_sortIn_14 : decode cX12_sortIn 14 = .ok (.aload_n 1, 1) := zo_43 (zi_at zh_dX12_sortIn_0_0 14 rfl)
theorem dX12_sortIn_15 : decode cX12_sortIn 15 = .ok (.iload_n 3, 1) := zo_29 (zi_at zh_dX12_sortIn_0_0 15 rfl)
theorem dX12_sortIn_16 : decode cX12_sortIn 16 = .ok (.iconst 1, 1) := zo_4 (zi_at zh_dX12_sortIn_16_16 0 rfl)
theorem dX12_sortIn_17 : decode cX12_sortIn 17 = .ok (.isub, 1) := zo_100 (zi_at zh_dX12_sortIn_16_16 1 rfl)
theorem dX12_sortIn_18 : decode cX12_sortIn 18 = .ok (.iaload, 1) := zo_46 (zi_at zh_dX12_sortIn_16_16 2 rfl)
theorem dX12_sortIn_19 : decode cX12_sortIn 19 = .ok (.iload_n 0, 1) := zo_26 (zi_at zh_dX12_sortIn_16_16 3 rfl)
theorem dX12_sortIn_20 : decode cX12_sortIn 20 = .ok (.if_icmp .le 17, 3) := zo_164 (zi_at zh_dX12_sortIn_16_16 4 rfl) (zi_at zh_dX12_sortIn_16_16 5 rfl) (zi_at zh_dX12_sortIn_16_16 6 rfl) rfl
theorem dX12_sortIn_23 : decode cX12_sortIn 23 = .ok (.aload_n 1, 1) := zo_43 (zi_at zh_dX12_sortIn_16_16 7 rfl)
theorem dX12_sortIn_24 : decode cX12_sortIn 24 = .ok (.iload_n 3, 1) := zo_29 (zi_at zh_dX12_sortIn_16_16 8 rfl)
theorem dX12_sortIn_25 : decode cX12_sortIn 25 = .ok (.aload_n 1, 1) := zo_43 (zi_at zh_dX12_sortIn_16_16 9 rfl)
theorem dX12_sortIn_26 : decode cX12_sortIn 26 = .ok (.iload_n 3, 1) := zo_29 (zi_at zh_dX12_sortIn_16_16 10 rfl)
theorem dX12_sortIn_27 : decode cX12_sortIn 27 = .ok (.iconst 1, 1) := zo_4 (zi_at zh_dX12_sortIn_16_16 11 rfl)
theorem dX12_sortIn_28 : decode cX12_sortIn 28 = .ok (.isub, 1) := zo_100 (zi_at zh_dX12_sortIn_16_16 12 rfl)
theorem dX12_sortIn_29 : decode cX12_sortIn 29 = .ok (.iaload, 1) := zo_46 (zi_at zh_dX12_sortIn_16_16 13 rfl)
theorem dX12_sortIn_30 : decode cX12_sortIn 30 = .ok (.iastore, 1) := zo_79 (zi_at zh_dX12_sortIn_16_16 14 rfl)
theorem dX12_sortIn_31 : decode cX12_sortIn 31 = .ok (.iinc 3 (-1), 3) := zo_132 (zi_at zh_dX12_sortIn_16_16 15 rfl) (zi_at zh_dX12_sortIn_31_32 0 rfl) (zi_at zh_dX12_sortIn_31_32 1 rfl) rfl
theorem dX12_sortIn_34 : decode cX12_sortIn 34 = .ok (.goto (-24), 3) := zo_167 (zi_at zh_dX12_sortIn_31_32 2 rfl) (zi_at zh_dX12_sortIn_31_32 3 rfl) (zi_at zh_dX12_sortIn_31_32 4 rfl) rfl
theorem dX12_sortIn_37 : decode cX12_sortIn 37 = .ok (.aload_n 1, 1) := zo_43 (zi_at zh_dX12_sortIn_31_32 5 rfl)
theorem dX12_sortIn_38 : decode cX12_sortIn 38 = .ok (.iload_n 3, 1) := zo_29 (zi_at zh_dX12_sortIn_31_32 6 rfl)
theorem dX12_sortIn_39 : decode cX12_sortIn 39 = .ok (.iload_n 0, 1) := zo_26 (zi_at zh_dX12_sortIn_31_32 7 rfl)
theorem dX12_sortIn_40 : decode cX12_sortIn 40 = .ok (.iastore, 1) := zo_79 (zi_at zh_dX12_sortIn_31_32 8 rfl)
theorem dX12_sortIn_41 : decode cX12_sortIn 41 = .ok (.iload_n 2, 1) := zo_28 (zi_at zh_dX12_sortIn_31_32 9 rfl)
theorem dX12_sortIn_42 : decode cX12_sortIn 42 = .ok (.iconst 1, 1) := zo_4 (zi_at zh_dX12_sortIn_31_32 10 rfl)
theorem dX12_sortIn_43 : decode cX12_sortIn 43 = .ok (.iadd, 1) := zo_96 (zi_at zh_dX12_sortIn_31_32 11 rfl)
theorem dX12_sortIn_44 : decode cX12_sortIn 44 = .ok (.ireturn, 1) := zo_172 (zi_at zh_dX12_sortIn_31_32 12 rfl)
theorem hz_yX2_starboard_1 : yX2_starboard.cls ≠ "java/lang/invoke/MethodHandle" ∧ yX2_starboard.cls ≠ "java/lang/invoke/VarHandle" ∧ (parseMethodDescriptor yX2_starboard.desc).map (fun d => d.parameters.length) = some 1 := by decide +kernel
theorem hz_yX2_far_4 : yX2_far.cls ≠ "java/lang/invoke/MethodHandle" ∧ yX2_far.cls ≠ "java/lang/invoke/VarHandle" ∧ (parseMethodDescriptor yX2_far.desc).map (fun d => d.parameters.length) = some 4 := by decide +kernel
theorem hz_yX2_faultsOnTacks_0 : yX2_faultsOnTacks.cls ≠ "java/lang/invoke/MethodHandle" ∧ yX2_faultsOnTacks.cls ≠ "java/lang/invoke/VarHandle" ∧ (parseMethodDescriptor yX2_faultsOnTacks.desc).map (fun d => d.parameters.length) = some 0 := by decide +kernel
theorem hz_yX2_statesOf_3 : yX2_statesOf.cls ≠ "java/lang/invoke/MethodHandle" ∧ yX2_statesOf.cls ≠ "java/lang/invoke/VarHandle" ∧ (parseMethodDescriptor yX2_statesOf.desc).map (fun d => d.parameters.length) = some 3 := by decide +kernel
theorem hz_yX2_gatherTacks_0 : yX2_gatherTacks.cls ≠ "java/lang/invoke/MethodHandle" ∧ yX2_gatherTacks.cls ≠ "java/lang/invoke/VarHandle" ∧ (parseMethodDescriptor yX2_gatherTacks.desc).map (fun d => d.parameters.length) = some 0 := by decide +kernel
theorem hz_yX2_faultsFrom_2 : yX2_faultsFrom.cls ≠ "java/lang/invoke/MethodHandle" ∧ yX2_faultsFrom.cls ≠ "java/lang/invoke/VarHandle" ∧ (parseMethodDescriptor yX2_faultsFrom.desc).map (fun d => d.parameters.length) = some 2 := by decide +kernel
theorem hz_yX12_cell_2 : yX12_cell.cls ≠ "java/lang/invoke/MethodHandle" ∧ yX12_cell.cls ≠ "java/lang/invoke/VarHandle" ∧ (parseMethodDescriptor yX12_cell.desc).map (fun d => d.parameters.length) = some 2 := by decide +kernel
theorem hz_yX12_sortIn_3 : yX12_sortIn.cls ≠ "java/lang/invoke/MethodHandle" ∧ yX12_sortIn.cls ≠ "java/lang/invoke/VarHandle" ∧ (parseMethodDescriptor yX12_sortIn.desc).map (fun d => d.parameters.length) = some 3 := by decide +kernel
theorem hz_yX8_sortKept_2 : yX8_sortKept.cls ≠ "java/lang/invoke/MethodHandle" ∧ yX8_sortKept.cls ≠ "java/lang/invoke/VarHandle" ∧ (parseMethodDescriptor yX8_sortKept.desc).map (fun d => d.parameters.length) = some 2 := by decide +kernel
theorem hz_yX8_isBetter_2 : yX8_isBetter.cls ≠ "java/lang/invoke/MethodHandle" ∧ yX8_isBetter.cls ≠ "java/lang/invoke/VarHandle" ∧ (parseMethodDescriptor yX8_isBetter.desc).map (fun d => d.parameters.length) = some 2 := by decide +kernel
theorem hz_yX8_worstOf_1 : yX8_worstOf.cls ≠ "java/lang/invoke/MethodHandle" ∧ yX8_worstOf.cls ≠ "java/lang/invoke/VarHandle" ∧ (parseMethodDescriptor yX8_worstOf.desc).map (fun d => d.parameters.length) = some 1 := by decide +kernel
theorem hz_yX5_isRedressedIn_2 : yX5_isRedressedIn.cls ≠ "java/lang/invoke/MethodHandle" ∧ yX5_isRedressedIn.cls ≠ "java/lang/invoke/VarHandle" ∧ (parseMethodDescriptor yX5_isRedressedIn.desc).map (fun d => d.parameters.length) = some 2 := by decide +kernel
theorem hz_yX0_racesIn_1 : yX0_racesIn.cls ≠ "java/lang/invoke/MethodHandle" ∧ yX0_racesIn.cls ≠ "java/lang/invoke/VarHandle" ∧ (parseMethodDescriptor yX0_racesIn.desc).map (fun d => d.parameters.length) = some 1 := by decide +kernel
theorem hz_yX8_throwOutsIn_1 : yX8_throwOutsIn.cls ≠ "java/lang/invoke/MethodHandle" ∧ yX8_throwOutsIn.cls ≠ "java/lang/invoke/VarHandle" ∧ (parseMethodDescriptor yX8_throwOutsIn.desc).map (fun d => d.parameters.length) = some 1 := by decide +kernel
theorem hz_yX8_throwOut_2 : yX8_throwOut.cls ≠ "java/lang/invoke/MethodHandle" ∧ yX8_throwOut.cls ≠ "java/lang/invoke/VarHandle" ∧ (parseMethodDescriptor yX8_throwOut.desc).map (fun d => d.parameters.length) = some 2 := by decide +kernel
theorem hz_yX8_meanBeside_3 : yX8_meanBeside.cls ≠ "java/lang/invoke/MethodHandle" ∧ yX8_meanBeside.cls ≠ "java/lang/invoke/VarHandle" ∧ (parseMethodDescriptor yX8_meanBeside.desc).map (fun d => d.parameters.length) = some 3 := by decide +kernel
theorem hz_yX9_read_2 : yX9_read.cls ≠ "java/lang/invoke/MethodHandle" ∧ yX9_read.cls ≠ "java/lang/invoke/VarHandle" ∧ (parseMethodDescriptor yX9_read.desc).map (fun d => d.parameters.length) = some 2 := by decide +kernel
theorem hz_yX9_plainPointsOf_1 : yX9_plainPointsOf.cls ≠ "java/lang/invoke/MethodHandle" ∧ yX9_plainPointsOf.cls ≠ "java/lang/invoke/VarHandle" ∧ (parseMethodDescriptor yX9_plainPointsOf.desc).map (fun d => d.parameters.length) = some 1 := by decide +kernel

theorem ti_irem {x y w : Int32} {a b c d e f : Int} (hx : a ≤ x.toInt ∧ x.toInt ≤ b) (hy : c ≤ y.toInt ∧ y.toInt ≤ d) (ew : w = x - x / y * y) (h : 0 ≤ a ∧ 0 < c ∧ e ≤ 0 ∧ (d - 1 ≤ f ∨ b ≤ f)) : w.toInt = x.toInt % y.toInt ∧ (e ≤ w.toInt ∧ w.toInt ≤ f) := by
  have h9 := iv_all x
  have q1 : (x / y).toInt = x.toInt / y.toInt := by
    rw [Int32.toInt_div, Int.tdiv_eq_ediv_of_nonneg (by omega)]
    have h2 := Int.ediv_le_self y.toInt (show 0 ≤ x.toInt by omega)
    have h3 : 0 ≤ x.toInt / y.toInt := Int.ediv_nonneg (by omega) (by omega)
    exact ti_bm (by omega) (by omega)
  have h5 := Int.emod_add_mul_ediv x.toInt y.toInt
  have h2 := Int.emod_nonneg x.toInt (show y.toInt ≠ 0 by omega)
  have h3 := Int.emod_lt_of_pos x.toInt (show 0 < y.toInt by omega)
  have h6 : 0 ≤ y.toInt * (x.toInt / y.toInt) := Int.mul_nonneg (by omega) (Int.ediv_nonneg (by omega) (by omega))
  have q2 : (x / y * y).toInt = y.toInt * (x.toInt / y.toInt) := by
    rw [Int32.toInt_mul, q1, Int.mul_comm]
    exact ti_bm (by omega) (by omega)
  have q3 : w.toInt = x.toInt % y.toInt := by
    rw [ew, Int32.toInt_sub, q2]
    rw [ti_bm (by omega) (by omega)]
    omega
  rw [q3]
  exact ⟨rfl, by omega, by omega⟩
def v_starboard : List Cond := .code yX2_starboard cX2_starboard 2 (some .int) :: vA
abbrev rm_starboard : Room := { frames := 0, cells := 0, slots := 0, locals := 0 }
set_option maxHeartbeats 4000000 in
set_option maxRecDepth 100000 in
theorem q_starboard (l : Launch) (dC : Nat → ClassId) (dI : Nat → Nat → Nat) (cT : Nat → ClassId) (cf : Nat → Nat) (hC : CF cf) (ad : Nat → Nat) (E : Nat → va_E) (sz : Nat) (a0 : Int32) (ri : Nat) (hI0 : IXL cT (shC cf) (spC cf) (LC cf) ad E) (hh0 : ri < cf 2) (hh1 : xv (E 5) 6 = .ref (ad (64 * (ri + 1) + 6))) (hh2 : 0 ≤ a0.toInt ∧ a0.toInt ≤ 7) : Met l yX2_starboard v_starboard rm_starboard (va_Pc [.ref (ad 5), .int a0] (HWL dC dI (TYC cT) cf ad E sz)) (va_Qi (S := Unit) (fun r _ => (0 ≤ r.toInt ∧ r.toInt ≤ 1)) (fun _ _ => True) (fun _ => False)) 0 0 (fun _ => False) := by
  obtain ⟨⟨hc0, hc1, hc2, hc3, hc4, hc5⟩, hcr⟩ := id hC
  refine Met.ofW (cc := cX2_starboard) (maxL := 2) (ret := (some .int)) (by decide) rfl ?_
  intro p e s m args below meth c s₁ B hml hv
  obtain ⟨hargs, hsz, hP, hK, hD0, hEV⟩ := hv
  subst hsz
  have hx := B.exec
  have hb := B.bytes
  have hr := B.returns
  have hts := atoms_spec (ws := v_starboard) B.pre
  have hown : s.vm.findClass RX2 = some m.cls := findClass_of_methodNamed B.named
  have hlocks := B.notSynchronized
  have hinX2 : ∀ w ∈ u_ws RX2 TX2 10, w ∈ v_starboard := fun w h => vA_in _ w (in_X2 w h)
  have hinX5 : ∀ w ∈ u_ws RX5 TX5 12, w ∈ v_starboard := fun w h => vA_in _ w (in_X5 w h)
  have hS : va_S (fun _ : Nat => False) s.heap s.heap [] := va_S.rf
  have hD := hD0
  have hI := hI0
  have hKp : Kp (wl [] []) E E := Kp.rf
  have hl := lv_entry ([.ref (ad 5), .int a0]) (n := 2) (Nat.le_of_ble_eq_true rfl)
  obtain ⟨Q, hQ⟩ : ∃ Q, Q = MQ below (va_Qi (S := Unit) (fun r _ => (0 ≤ r.toInt ∧ r.toInt ≤ 1)) (fun _ _ => True) (fun _ => False)) args s 0 0 (fun _ => False) := ⟨_, rfl⟩
  rw [← hQ, show entryFrame m args 2 = _ from (congrArg (fun z => entryFrame m z 2) hargs).trans (lg_entry_eq _ _ _)]
  generalize (lg_sl ([.ref (ad 5), .int a0]) ++ List.replicate (2 - (lg_sl ([.ref (ad 5), .int a0])).length) Slot.unset).toArray = ls at hl ⊢
  have hl : lv_has ls 2 [(0, .ref (ad 5)), (1, .int a0)] := hl
  refine lv_iload_n hx hb dX2_starboard_0 rfl (lv_at hl 1 rfl) ?_
  refine lv_aload_n hx hb dX2_starboard_1 rfl (lv_at hl 0 rfl) ?_
  refine th_getL (ci := 3) (C := RX2) (T := TX2) (N := 10) (v := .ref (ad (64 * (ri + 1) + 6))) hx hb hts hinX2 hown hK hP hI 5 (mF 5 rfl) rfl rfl 6 (Nat.le_of_ble_eq_true rfl) (hts _ (vA_in _ _ (in_14 _ (zs16 (zs16 (zs4 (zs1 (zs1 (zs0))))))))) (fun _ h9 => h9) ((hKp 5 6 rfl).trans hh1) dX2_starboard_2 ?_
  have i1 : 0 ≤ (xi (E (64 * (ri + 1) + 6)) 4).toInt ∧ (xi (E (64 * (ri + 1) + 6)) 4).toInt ≤ 7 := hI0.iv (64 * (ri + 1) + 6) (mP 6 ri (by decide) hh0 (kl_le hC 2 (by decide))) (shC_p 6 ri (by decide)) (Nat.le_of_ble_eq_true rfl) (spC_p 6 ri (by decide) 4)
  refine th_getL (ci := 6) (C := RX5) (T := TX5) (N := 12) (v := .int (xi (E (64 * (ri + 1) + 6)) 4)) hx hb hts hinX5 hown hK hP hI (64 * (ri + 1) + 6) (mP 6 ri (by decide) hh0 (kl_le hC 2 (by decide))) (shC_p 6 ri (by decide)) rfl 4 (Nat.le_of_ble_eq_true rfl) (hts _ (vA_in _ _ (in_16 _ (zs4 (zs4 (zs1 (zs0))))))) (fun _ h9 => h9) (th_v0L hKp hI0 (64 * (ri + 1) + 6) (mP 6 ri (by decide) hh0 (kl_le hC 2 (by decide))) (shC_p 6 ri (by decide)) (Nat.le_of_ble_eq_true rfl) (spC_p 6 ri (by decide) 4) (wl_p rfl rfl (by omega))) dX2_starboard_5 ?_
  refine lv_isub hx hb dX2_starboard_8 ?_
  refine lv_topi (fun y2 ey2 => ?_)
  obtain ⟨ty2, iy2⟩ := ti_sub (e := (-7)) (f := 7) hh2 i1 ey2 (by decide)
  have ty2 : y2.toInt = a0.toInt - (xi (E (64 * (ri + 1) + 6)) 4).toInt := ty2
  have iy2 : -7 ≤ y2.toInt ∧ y2.toInt ≤ 7 := iy2
  refine lv_bipush (v := 8) hx hb dX2_starboard_9 (by decide) ?_
  refine lv_iadd hx hb dX2_starboard_11 ?_
  refine lv_topi (fun y3 ey3 => ?_)
  obtain ⟨ty3, iy3⟩ := ti_add (e := 1) (f := 15) iy2 ln_8 ey3 (by decide)
  have ty3 : y3.toInt = y2.toInt + 8 := ty3
  have iy3 : 1 ≤ y3.toInt ∧ y3.toInt ≤ 15 := iy3
  refine lv_bipush (v := 8) hx hb dX2_starboard_12 (by decide) ?_
  refine lv_irem hx hb dX2_starboard_14 (by decide) ?_
  refine lv_topi (fun y4 ey4 => ?_)
  obtain ⟨ty4, iy4⟩ := ti_irem (e := 0) (f := 7) iy3 ln_8 ey4 (by decide)
  have iy4 : 0 ≤ y4.toInt ∧ y4.toInt ≤ 7 := iy4
  refine lv_iconst (v := 5) hx hb dX2_starboard_15 (by decide) ?_
  refine lv_icmp_lt (tgt := 23) hx hb dX2_starboard_16 (by decide) (fun c5 => ?_) (fun c5 => ?_)
  · --16 taken
    have t6 : y4.toInt < 5 := ti_lt c5
    have i7 : 0 ≤ y4.toInt ∧ y4.toInt ≤ 4 := iv_lt_l t6 iy4 (il_ 5) (by decide)
    refine lv_iconst (v := 0) hx hb dX2_starboard_23 (by decide) ?_
    rw [hQ]
    exact W.iret (v := 0) hx hb hr (fun t ht hW => ⟨⟨0, (), rfl, (iv_w ln_0 (by decide)), trivial⟩, hS.F ht⟩) hS.2.2 dX2_starboard_24
  · --16 not
    have t8 : (5 : Int) ≤ y4.toInt := ti_nlt c5
    have i9 : 5 ≤ y4.toInt ∧ y4.toInt ≤ 7 := iv_le_r t8 (il_ 5) iy4 (by decide)
    refine lv_iconst (v := 1) hx hb dX2_starboard_19 (by decide) ?_
    refine lv_goto (tgt := 24) hx hb dX2_starboard_20 (by decide) ?_
    rw [hQ]
    exact W.iret (v := 1) hx hb hr (fun t ht hW => ⟨⟨1, (), rfl, (iv_w ln_1 (by decide)), trivial⟩, hS.F ht⟩) hS.2.2 dX2_starboard_24
def v_gatherTacks : List Cond := .code yX2_gatherTacks cX2_gatherTacks 3 none :: vA
abbrev rm_gatherTacks : Room := { frames := 1, cells := 0, slots := 0, locals := 40 }
def w_gatherTacks : Nat → Nat → Bool := wl [] [(5, 9)]
set_option maxHeartbeats 4000000 in
set_option maxRecDepth 100000 in
theorem q_gatherTacks (l : Launch) (dC : Nat → ClassId) (dI : Nat → Nat → Nat) (cT : Nat → ClassId) (cf : Nat → Nat) (hC : CF cf) (ad : Nat → Nat) (E : Nat → va_E) (sz : Nat) (ri : Nat) (hI0 : IXL cT (shC cf) (spC cf) (LC cf) ad E) (hh0 : ri < cf 2) (hh1 : xv (E 5) 6 = .ref (ad (64 * (ri + 1) + 6))) : Met l yX2_gatherTacks v_gatherTacks rm_gatherTacks (va_Pc [.ref (ad 5)] (HWL dC dI (TYC cT) cf ad E sz)) (va_Qv (S := Nat → va_E) (fun u => IXL cT (shC cf) (spC cf) (LC cf) ad u ∧ Kp w_gatherTacks E u ∧ (True)) (HBL dC dI (LC cf) ad) (va_A (WL (LC cf) ad E) sz)) 0 0 (va_A (WL (LC cf) ad E) sz) := by
  obtain ⟨⟨hc0, hc1, hc2, hc3, hc4, hc5⟩, hcr⟩ := id hC
  refine Met.ofW (cc := cX2_gatherTacks) (maxL := 3) (ret := none) (by decide) rfl ?_
  intro p e s m args below meth c s₁ B hml hv
  obtain ⟨hargs, hsz, hP, hK, hD0, hEV⟩ := hv
  subst hsz
  have hx := B.exec
  have hb := B.bytes
  have hr := B.returns
  have hts := atoms_spec (ws := v_gatherTacks) B.pre
  have hown : s.vm.findClass RX2 = some m.cls := findClass_of_methodNamed B.named
  have hlocks := B.notSynchronized
  have hinX2 : ∀ w ∈ u_ws RX2 TX2 10, w ∈ v_gatherTacks := fun w h => vA_in _ w (in_X2 w h)
  generalize hAe : va_A (WL (LC cf) ad E) s.heap.size = A at hEV ⊢
  have hA : ∀ q : Nat, s.heap.size ≤ q → A q := fun q h => by rw [← hAe]; exact Or.inr h
  have hD : va_D A (WL (LC cf) ad E) := by rw [← hAe]; exact hD0.self
  have hS : va_S A s.heap s.heap [] := va_S.rf
  have hI := hI0
  have hKp : Kp w_gatherTacks E E := Kp.rf
  have hl := lv_entry ([.ref (ad 5)]) (n := 3) (Nat.le_of_ble_eq_true rfl)
  obtain ⟨Q, hQ⟩ : ∃ Q, Q = MQ below (va_Qv (S := Nat → va_E) (fun u => IXL cT (shC cf) (spC cf) (LC cf) ad u ∧ Kp w_gatherTacks E u ∧ (True)) (HBL dC dI (LC cf) ad) (A)) args s 0 0 (A) := ⟨_, rfl⟩
  rw [← hQ, show entryFrame m args 3 = _ from (congrArg (fun z => entryFrame m z 3) hargs).trans (lg_entry_eq _ _ _)]
  generalize (lg_sl ([.ref (ad 5)]) ++ List.replicate (3 - (lg_sl ([.ref (ad 5)])).length) Slot.unset).toArray = ls at hl ⊢
  have hl : lv_has ls 3 [(0, .ref (ad 5))] := hl
  refine lv_aload_n hx hb dX2_gatherTacks_0 rfl (lv_at hl 0 rfl) ?_
  refine lv_iconst (v := 0) hx hb dX2_gatherTacks_1 (by decide) ?_
  refine th_putL (ci := 3) (C := RX2) (T := TX2) (N := 10) (v := .int 0) (ty := .int) hx hb hts hinX2 tyX2 tyX2_ok nmX2 hown hK hP (WL_D hD) hS hI 5 (mF 5 rfl) rfl rfl 9 (Nat.le_of_ble_eq_true rfl) (hts _ (vA_in _ _ (in_16 _ (zs4 (zs0))))) (fun _ h9 => h9) rfl (by decide +kernel) rfl rfl (okI rfl (iv_w ln_0 (by decide))) dX2_gatherTacks_2 (fun H locs E1 pw2 hI hP hS => ?_)
  have hKp := hKp.pw pw2 rfl
  refine lv_iconst (v := 0) hx hb dX2_gatherTacks_5 (by decide) ?_
  refine lv_istore_n (lv' := [(1, .int 0), (0, .ref (ad 5))]) hx hb dX2_gatherTacks_6 rfl hl (by decide) rfl (fun ls hl => ?_)
  have hL7 : ∀ d : Nat, ∀ (v7_1 : Int32) (E7_ : Nat → va_E) (H : Heap) (locs : List Loc) (ls : Array Slot), 0 ≤ v7_1.toInt ∧ v7_1.toInt ≤ 8 → 8 - v7_1.toInt < (d : Int) → IXL cT (shC cf) (spC cf) (LC cf) ad E7_ → Kp w_gatherTacks E E7_ → va_P (dC, dI) vwCl (WL (LC cf) ad E7_) H → va_S A s.heap H locs → lv_has ls 3 [(1, .int v7_1), (0, .ref (ad 5))] → W p l e (headSpec v_gatherTacks rm_gatherTacks).room s m args below meth c H locs 0 0 Q (F0 m 7 ls []) := by
    intro d
    induction d with
    | zero =>
      intro v7_1 E7_ H locs ls hv7_1 hx7_0 hI hKp hP hS hl
      exact absurd hx7_0 (by first | exact ms_zu hv7_1.2 | omega)
    | succ d ih7 =>
      intro v7_1 E7_ H locs ls hv7_1 hx7_0 hI hKp hP hS hl
      refine lv_iload_n hx hb dX2_gatherTacks_7 rfl (lv_at hl 0 rfl) ?_
      refine lv_bipush (v := 8) hx hb dX2_gatherTacks_8 (by decide) ?_
      refine lv_icmp_ge (tgt := 99) hx hb dX2_gatherTacks_10 (by decide) (fun c3 => ?_) (fun c3 => ?_)
      · --10 taken
        have t4 : (8 : Int) ≤ v7_1.toInt := ti_le c3
        have i5 : 8 ≤ v7_1.toInt ∧ v7_1.toInt ≤ 8 := iv_le_r t4 (il_ 8) hv7_1 (by decide)
        rw [hQ]
        exact W.vret hx hb hr (fun t ht hW => ⟨⟨E7_, rfl, ⟨hI, hKp, trivial⟩, by show va_P (dC, dI) vwCl (WL (LC cf) ad E7_) t.heap; rw [ht]; exact hP⟩, hS.F ht⟩) hS.2.2 dX2_gatherTacks_99
      · --10 not
        have t6 : v7_1.toInt < 8 := ti_nle c3
        have i7 : 0 ≤ v7_1.toInt ∧ v7_1.toInt ≤ 7 := iv_lt_l t6 hv7_1 (il_ 8) (by decide)
        refine lv_iconst (v := 0) hx hb dX2_gatherTacks_13 (by decide) ?_
        refine lv_istore_n (lv' := [(2, .int 0), (1, .int v7_1), (0, .ref (ad 5))]) hx hb dX2_gatherTacks_14 rfl hl (by decide) rfl (fun ls hl => ?_)
        have hL15 : ∀ d : Nat, ∀ (v15_2 : Int32) (E15_ : Nat → va_E) (H : Heap) (locs : List Loc) (ls : Array Slot), 0 ≤ v15_2.toInt ∧ v15_2.toInt ≤ 8 → 8 - v15_2.toInt < (d : Int) → IXL cT (shC cf) (spC cf) (LC cf) ad E15_ → Kp w_gatherTacks E E15_ → va_P (dC, dI) vwCl (WL (LC cf) ad E15_) H → va_S A s.heap H locs → lv_has ls 3 [(2, .int v15_2), (1, .int v7_1), (0, .ref (ad 5))] → W p l e (headSpec v_gatherTacks rm_gatherTacks).room s m args below meth c H locs 0 0 Q (F0 m 15 ls []) := by
          intro d
          induction d with
          | zero =>
            intro v15_2 E15_ H locs ls hv15_2 hx15_0 hI hKp hP hS hl
            exact absurd hx15_0 (by first | exact ms_zu hv15_2.2 | omega)
          | succ d ih15 =>
            intro v15_2 E15_ H locs ls hv15_2 hx15_0 hI hKp hP hS hl
            refine lv_iload_n hx hb dX2_gatherTacks_15 rfl (lv_at hl 0 rfl) ?_
            refine lv_bipush (v := 8) hx hb dX2_gatherTacks_16 (by decide) ?_
            refine lv_icmp_ge (tgt := 93) hx hb dX2_gatherTacks_18 (by decide) (fun c8 => ?_) (fun c8 => ?_)
            · --18 taken
              have t9 : (8 : Int) ≤ v15_2.toInt := ti_le c8
              have i10 : 8 ≤ v15_2.toInt ∧ v15_2.toInt ≤ 8 := iv_le_r t9 (il_ 8) hv15_2 (by decide)
              obtain ⟨y11, ey11⟩ : ∃ y : Int32, y = v7_1 + (1 : Int32) := ⟨_, rfl⟩
              obtain ⟨ty11, iy11⟩ := ti_add (e := 1) (f := 8) i7 ln_1 ey11 (by decide)
              have ty11 : y11.toInt = v7_1.toInt + 1 := ty11
              have iy11 : 1 ≤ y11.toInt ∧ y11.toInt ≤ 8 := iy11
              refine lv_iinc (v := y11) (lv' := [(1, .int y11), (2, .int v15_2), (0, .ref (ad 5))]) hx hb dX2_gatherTacks_93 hl (k := 1) rfl (by rw [ey11]; rfl) (by decide) rfl (fun ls hl => ?_)
              refine lv_goto (tgt := 7) hx hb dX2_gatherTacks_96 (by decide) ?_
              exact ih7 y11 E15_ _ _ _ (iv_w iy11 (by decide)) (by first | exact ms_su hx7_0 ty11 (by decide) | omega) hI hKp hP hS (lv_sub hl [0, 2] rfl)
            · --18 not
              have t12 : v15_2.toInt < 8 := ti_nle c8
              have i13 : 0 ≤ v15_2.toInt ∧ v15_2.toInt ≤ 7 := iv_lt_l t12 hv15_2 (il_ 8) (by decide)
              refine lv_aload_n hx hb dX2_gatherTacks_21 rfl (lv_at hl 2 rfl) ?_
              refine th_getL (ci := 3) (C := RX2) (T := TX2) (N := 10) (v := .ref (ad 42)) hx hb hts hinX2 hown hK hP hI 5 (mF 5 rfl) rfl rfl 5 (Nat.le_of_ble_eq_true rfl) (hts _ (vA_in _ _ (in_15 _ (zs4 (zs4 (zs4 (zs0))))))) (fun _ h9 => h9) (hI.fr 5 (mF 5 rfl) rfl (Nat.le_of_ble_eq_true rfl) 42 rfl) dX2_gatherTacks_22 ?_
              refine lv_iconst (v := 0) hx hb dX2_gatherTacks_25 (by decide) ?_
              have n15 : vp_in (0 : Int32) 2 := (iv_in (n := 2) ln_0 (by decide))
              refine th_ialdL hx hb hK hP hI 42 (mF 42 rfl) rfl rfl n15 dX2_gatherTacks_26 (fun y14 ey14 => ?_)
              have iy14 : 0 ≤ y14.toInt ∧ y14.toInt ≤ 255 := hI.el 42 (mF 42 rfl) rfl n15 (fun _ => rfl) ey14
              have ey14 := ey14.trans (hKp.ei 42 _ rfl)
              refine lv_iload_n hx hb dX2_gatherTacks_27 rfl (lv_at hl 1 rfl) ?_
              refine lv_ishr hx hb dX2_gatherTacks_28 ?_
              refine lv_topi (fun y16 ey16 => ?_)
              refine lv_iconst (v := 1) hx hb dX2_gatherTacks_29 (by decide) ?_
              refine lv_iand hx hb dX2_gatherTacks_30 ?_
              refine lv_topi (fun y17 ey17 => ?_)
              have iy17 : 0 ≤ y17.toInt ∧ y17.toInt ≤ 1 := ti_and (by decide) ey17
              refine lv_if_eq (tgt := 87) hx hb dX2_gatherTacks_31 (by decide) (fun c18 => ?_) (fun c18 => ?_)
              · --31 taken
                have t19 : y17.toInt = 0 := ti_eq c18
                have i20 : 0 ≤ y17.toInt ∧ y17.toInt ≤ 0 := iv_eqi t19 iy17 (il_ 0) (by decide)
                obtain ⟨y21, ey21⟩ : ∃ y : Int32, y = v15_2 + (1 : Int32) := ⟨_, rfl⟩
                obtain ⟨ty21, iy21⟩ := ti_add (e := 1) (f := 8) i13 ln_1 ey21 (by decide)
                have ty21 : y21.toInt = v15_2.toInt + 1 := ty21
                have iy21 : 1 ≤ y21.toInt ∧ y21.toInt ≤ 8 := iy21
                refine lv_iinc (v := y21) (lv' := [(2, .int y21), (1, .int v7_1), (0, .ref (ad 5))]) hx hb dX2_gatherTacks_87 hl (k := 0) rfl (by rw [ey21]; rfl) (by decide) rfl (fun ls hl => ?_)
                refine lv_goto (tgt := 15) hx hb dX2_gatherTacks_90 (by decide) ?_
                exact ih15 y21 E15_ _ _ _ (iv_w iy21 (by decide)) (by first | exact ms_su hx15_0 ty21 (by decide) | omega) hI hKp hP hS (lv_sub hl [0, 1, 2] rfl)
              · --31 not
                have t22 : ¬ y17.toInt = 0 := ti_ne c18
                have i23 : 1 ≤ y17.toInt ∧ y17.toInt ≤ 1 := iv_ne_l t22 iy17 (il_ 0)
                refine lv_aload_n hx hb dX2_gatherTacks_34 rfl (lv_at hl 2 rfl) ?_
                refine th_getL (ci := 3) (C := RX2) (T := TX2) (N := 10) (v := .ref (ad 42)) hx hb hts hinX2 hown hK hP hI 5 (mF 5 rfl) rfl rfl 5 (Nat.le_of_ble_eq_true rfl) (hts _ (vA_in _ _ (in_15 _ (zs4 (zs4 (zs4 (zs0))))))) (fun _ h9 => h9) (hI.fr 5 (mF 5 rfl) rfl (Nat.le_of_ble_eq_true rfl) 42 rfl) dX2_gatherTacks_35 ?_
                refine lv_iconst (v := 1) hx hb dX2_gatherTacks_38 (by decide) ?_
                have n25 : vp_in (1 : Int32) 2 := (iv_in (n := 2) ln_1 (by decide))
                refine th_ialdL hx hb hK hP hI 42 (mF 42 rfl) rfl rfl n25 dX2_gatherTacks_39 (fun y24 ey24 => ?_)
                have iy24 : 0 ≤ y24.toInt ∧ y24.toInt ≤ 255 := hI.el 42 (mF 42 rfl) rfl n25 (fun _ => rfl) ey24
                have ey24 := ey24.trans (hKp.ei 42 _ rfl)
                refine lv_iload_n hx hb dX2_gatherTacks_40 rfl (lv_at hl 0 rfl) ?_
                refine lv_ishr hx hb dX2_gatherTacks_41 ?_
                refine lv_topi (fun y26 ey26 => ?_)
                refine lv_iconst (v := 1) hx hb dX2_gatherTacks_42 (by decide) ?_
                refine lv_iand hx hb dX2_gatherTacks_43 ?_
                refine lv_topi (fun y27 ey27 => ?_)
                have iy27 : 0 ≤ y27.toInt ∧ y27.toInt ≤ 1 := ti_and (by decide) ey27
                refine lv_if_ne (tgt := 50) hx hb dX2_gatherTacks_44 (by decide) (fun c28 => ?_) (fun c28 => ?_)
                · --44 taken
                  have t29 : ¬ y27.toInt = 0 := ti_ne c28
                  have i30 : 1 ≤ y27.toInt ∧ y27.toInt ≤ 1 := iv_ne_l t29 iy27 (il_ 0)
                  refine lv_aload_n hx hb dX2_gatherTacks_50 rfl (lv_at hl 2 rfl) ?_
                  refine lv_dup hx hb dX2_gatherTacks_51 rfl ?_
                  obtain ⟨y31, ey31⟩ : ∃ y, xi (E15_ 5) 9 = y := ⟨_, rfl⟩
                  have fy31 : xv (E15_ 5) 9 = .int y31 := (hI.fi 5 (mF 5 rfl) rfl (Nat.le_of_ble_eq_true rfl) rfl).trans (congrArg Value.int ey31)
                  have i32 : 0 ≤ y31.toInt ∧ y31.toInt ≤ 255 := by rw [← ey31]; exact hI.iv 5 (mF 5 rfl) rfl (Nat.le_of_ble_eq_true rfl) rfl
                  refine th_getL (ci := 3) (C := RX2) (T := TX2) (N := 10) (v := .int y31) hx hb hts hinX2 hown hK hP hI 5 (mF 5 rfl) rfl rfl 9 (Nat.le_of_ble_eq_true rfl) (hts _ (vA_in _ _ (in_16 _ (zs4 (zs0))))) (fun _ h9 => h9) fy31 dX2_gatherTacks_52 ?_
                  refine lv_iconst (v := 1) hx hb dX2_gatherTacks_55 (by decide) ?_
                  refine lv_iconst (v := 4) hx hb dX2_gatherTacks_56 (by decide) ?_
                  refine lv_aload_n hx hb dX2_gatherTacks_57 rfl (lv_at hl 2 rfl) ?_
                  refine lv_iload_n hx hb dX2_gatherTacks_58 rfl (lv_at hl 1 rfl) ?_
                  refine th_riL (va_runV (As := [.int v7_1]) (rest := [.int 4, .int 1, .int y31, .ref (ad 5)]) ⟨hx, hb, hml, hown, hts⟩ (q_starboard l dC dI cT cf hC ad E15_ H.size v7_1 ri hI (by omega) (by exact (hKp 5 6 rfl).trans hh1) i7) (cwV 1 hts (gi_V (in_16 _ (zs4 (zs1 (zs0)))) (in_16 _ (zs4 (zs1 (zs1 (zs0))))) (in_16 _ (zs4 (zs1 (zs1 (zs1 (zs0)))))) (in_14 _ (zs16 (zs16 (zs0)))) (in_16 _ (zs4 (zs4 (zs0))))) rfl rfl rfl ⟨rfl, hz_yX2_starboard_1⟩ ⟨Nat.le_of_ble_eq_true rfl, Nat.le_of_ble_eq_true rfl⟩) ⟨HWL_bl, va_recv hK hP (ci := 3) (q0 := posL 5 (LC cf)) rfl (hI.ob 5 (mF 5 rfl) rfl), (HWL_wi hP hK (WL_D hD) hS hA hEV)⟩ rfl rfl hl.1 rfl (lv_room (Nat.le_of_ble_eq_true rfl)) dX2_gatherTacks_59 ⟨Nat.le_of_ble_eq_true rfl, Nat.le_of_ble_eq_true rfl⟩) hS hP (fun r33 H locs hw hP hS => ?_)
                  have f34 := hw
                  refine lv_imul hx hb dX2_gatherTacks_62 ?_
                  refine lv_topi (fun y35 ey35 => ?_)
                  obtain ⟨ty35, iy35⟩ := ti_mul (e := 0) (f := 4) ln_4 f34 ey35 (by decide)
                  have ty35 : y35.toInt = 4 * r33.toInt := ty35
                  have iy35 : 0 ≤ y35.toInt ∧ y35.toInt ≤ 4 := iy35
                  refine lv_iconst (v := 2) hx hb dX2_gatherTacks_63 (by decide) ?_
                  refine lv_aload_n hx hb dX2_gatherTacks_64 rfl (lv_at hl 2 rfl) ?_
                  refine lv_iload_n hx hb dX2_gatherTacks_65 rfl (lv_at hl 0 rfl) ?_
                  refine th_riL (va_runV (As := [.int v15_2]) (rest := [.int 2, .int y35, .int 1, .int y31, .ref (ad 5)]) ⟨hx, hb, hml, hown, hts⟩ (q_starboard l dC dI cT cf hC ad E15_ H.size v15_2 ri hI (by omega) (by exact (hKp 5 6 rfl).trans hh1) i13) (cwV 1 hts (gi_V (in_16 _ (zs4 (zs1 (zs0)))) (in_16 _ (zs4 (zs1 (zs1 (zs0))))) (in_16 _ (zs4 (zs1 (zs1 (zs1 (zs0)))))) (in_14 _ (zs16 (zs16 (zs0)))) (in_16 _ (zs4 (zs4 (zs0))))) rfl rfl rfl ⟨rfl, hz_yX2_starboard_1⟩ ⟨Nat.le_of_ble_eq_true rfl, Nat.le_of_ble_eq_true rfl⟩) ⟨HWL_bl, va_recv hK hP (ci := 3) (q0 := posL 5 (LC cf)) rfl (hI.ob 5 (mF 5 rfl) rfl), (HWL_wi hP hK (WL_D hD) hS hA hEV)⟩ rfl rfl hl.1 rfl (lv_room (Nat.le_of_ble_eq_true rfl)) dX2_gatherTacks_66 ⟨Nat.le_of_ble_eq_true rfl, Nat.le_of_ble_eq_true rfl⟩) hS hP (fun r36 H locs hw hP hS => ?_)
                  have f37 := hw
                  refine lv_imul hx hb dX2_gatherTacks_69 ?_
                  refine lv_topi (fun y38 ey38 => ?_)
                  obtain ⟨ty38, iy38⟩ := ti_mul (e := 0) (f := 2) ln_2 f37 ey38 (by decide)
                  have ty38 : y38.toInt = 2 * r36.toInt := ty38
                  have iy38 : 0 ≤ y38.toInt ∧ y38.toInt ≤ 2 := iy38
                  refine lv_iadd hx hb dX2_gatherTacks_70 ?_
                  refine lv_topi (fun y39 ey39 => ?_)
                  obtain ⟨ty39, iy39⟩ := ti_add (e := 0) (f := 6) iy35 iy38 ey39 (by decide)
                  have ty39 : y39.toInt = y35.toInt + y38.toInt := ty39
                  have iy39 : 0 ≤ y39.toInt ∧ y39.toInt ≤ 6 := iy39
                  refine lv_iload_n hx hb dX2_gatherTacks_71 rfl (lv_at hl 1 rfl) ?_
                  refine lv_iload_n hx hb dX2_gatherTacks_72 rfl (lv_at hl 0 rfl) ?_
                  have hJ81 : ∀ (s81_0 : Int32) (H : Heap) (locs : List Loc) (ls : Array Slot), 0 ≤ s81_0.toInt ∧ s81_0.toInt ≤ 1 → va_P (dC, dI) vwCl (WL (LC cf) ad E15_) H → va_S A s.heap H locs → lv_has ls 3 [(2, .int v15_2), (1, .int v7_1), (0, .ref (ad 5))] → W p l e (headSpec v_gatherTacks rm_gatherTacks).room s m args below meth c H locs 0 0 Q (F0 m 81 ls [.int s81_0, .int y39, .int 1, .int y31, .ref (ad 5)]) := by
                    intro s81_0 H locs ls hs81_0 hP hS hl
                    refine lv_iadd hx hb dX2_gatherTacks_81 ?_
                    refine lv_topi (fun y40 ey40 => ?_)
                    obtain ⟨ty40, iy40⟩ := ti_add (e := 0) (f := 7) iy39 hs81_0 ey40 (by decide)
                    have ty40 : y40.toInt = y39.toInt + s81_0.toInt := ty40
                    have iy40 : 0 ≤ y40.toInt ∧ y40.toInt ≤ 7 := iy40
                    refine lv_ishl hx hb dX2_gatherTacks_82 ?_
                    refine lv_topi (fun y41 ey41 => ?_)
                    have iy41 : 1 ≤ y41.toInt ∧ y41.toInt ≤ 128 := ti_shl8 iy40 ey41 (by decide)
                    refine lv_ior hx hb dX2_gatherTacks_83 ?_
                    refine lv_topi (fun y42 ey42 => ?_)
                    have iy42 : 0 ≤ y42.toInt ∧ y42.toInt ≤ 255 := ti_or255 ey42 (by omega) (by omega)
                    refine th_putL (ci := 3) (C := RX2) (T := TX2) (N := 10) (v := .int y42) (ty := .int) hx hb hts hinX2 tyX2 tyX2_ok nmX2 hown hK hP (WL_D hD) hS hI 5 (mF 5 rfl) rfl rfl 9 (Nat.le_of_ble_eq_true rfl) (hts _ (vA_in _ _ (in_16 _ (zs4 (zs0))))) (fun _ h9 => h9) rfl (by decide +kernel) rfl rfl (okI rfl iy42) dX2_gatherTacks_84 (fun H locs E43 pw44 hI hP hS => ?_)
                    have hKp := hKp.pw pw44 rfl
                    obtain ⟨y45, ey45⟩ : ∃ y : Int32, y = v15_2 + (1 : Int32) := ⟨_, rfl⟩
                    obtain ⟨ty45, iy45⟩ := ti_add (e := 1) (f := 8) i13 ln_1 ey45 (by decide)
                    have ty45 : y45.toInt = v15_2.toInt + 1 := ty45
                    have iy45 : 1 ≤ y45.toInt ∧ y45.toInt ≤ 8 := iy45
                    refine lv_iinc (v := y45) (lv' := [(2, .int y45), (1, .int v7_1), (0, .ref (ad 5))]) hx hb dX2_gatherTacks_87 hl (k := 0) rfl (by rw [ey45]; rfl) (by decide) rfl (fun ls hl => ?_)
                    refine lv_goto (tgt := 15) hx hb dX2_gatherTacks_90 (by decide) ?_
                    exact ih15 y45 E43 _ _ _ (iv_w iy45 (by decide)) (by first | exact ms_su hx15_0 ty45 (by decide) | omega) hI hKp hP hS (lv_sub hl [0, 1, 2] rfl)
                  refine lv_icmp_ne (tgt := 80) hx hb dX2_gatherTacks_73 (by decide) (fun c46 => ?_) (fun c46 => ?_)
                  · --73 taken
                    have t47 : ¬ v7_1.toInt = v15_2.toInt := ti_ne c46
                    refine lv_iconst (v := 0) hx hb dX2_gatherTacks_80 (by decide) ?_
                    exact hJ81 (0 : Int32) _ _ _ (iv_w ln_0 (by decide)) hP hS (lv_sub hl [0, 1, 2] rfl)
                  · --73 not
                    have t48 : v7_1.toInt = v15_2.toInt := ti_eq c46
                    refine lv_iconst (v := 1) hx hb dX2_gatherTacks_76 (by decide) ?_
                    refine lv_goto (tgt := 81) hx hb dX2_gatherTacks_77 (by decide) ?_
                    exact hJ81 (1 : Int32) _ _ _ (iv_w ln_1 (by decide)) hP hS (lv_sub hl [0, 1, 2] rfl)
                · --44 not
                  have t49 : y27.toInt = 0 := ti_eq c28
                  have i50 : 0 ≤ y27.toInt ∧ y27.toInt ≤ 0 := iv_eqi t49 iy27 (il_ 0) (by decide)
                  refine lv_goto (tgt := 87) hx hb dX2_gatherTacks_47 (by decide) ?_
                  obtain ⟨y51, ey51⟩ : ∃ y : Int32, y = v15_2 + (1 : Int32) := ⟨_, rfl⟩
                  obtain ⟨ty51, iy51⟩ := ti_add (e := 1) (f := 8) i13 ln_1 ey51 (by decide)
                  have ty51 : y51.toInt = v15_2.toInt + 1 := ty51
                  have iy51 : 1 ≤ y51.toInt ∧ y51.toInt ≤ 8 := iy51
                  refine lv_iinc (v := y51) (lv' := [(2, .int y51), (1, .int v7_1), (0, .ref (ad 5))]) hx hb dX2_gatherTacks_87 hl (k := 0) rfl (by rw [ey51]; rfl) (by decide) rfl (fun ls hl => ?_)
                  refine lv_goto (tgt := 15) hx hb dX2_gatherTacks_90 (by decide) ?_
                  exact ih15 y51 E15_ _ _ _ (iv_w iy51 (by decide)) (by first | exact ms_su hx15_0 ty51 (by decide) | omega) hI hKp hP hS (lv_sub hl [0, 1, 2] rfl)
        exact hL15 (9) (0 : Int32) E7_ _ _ _ (iv_w ln_0 (by decide)) (by have h9 := ln_0; first | exact ms_bu h9.1 (by decide) | omega) hI hKp hP hS (lv_sub hl [0, 1, 2] rfl)
  exact hL7 (9) (0 : Int32) E1 _ _ _ (iv_w ln_0 (by decide)) (by have h9 := ln_0; first | exact ms_bu h9.1 (by decide) | omega) hI hKp hP hS (lv_sub hl [0, 1] rfl)
def v_faultsOnTacks : List Cond := .code yX2_faultsOnTacks cX2_faultsOnTacks 3 (some .int) :: vA
abbrev rm_faultsOnTacks : Room := { frames := 4, cells := 0, slots := 0, locals := 160 }
def w_faultsOnTacks : Nat → Nat → Bool := wl [19, 20] []
set_option maxHeartbeats 4000000 in
set_option maxRecDepth 100000 in
theorem q_faultsOnTacks (l : Launch) (dC : Nat → ClassId) (dI : Nat → Nat → Nat) (cT : Nat → ClassId) (cf : Nat → Nat) (hC : CF cf) (ad : Nat → Nat) (E : Nat → va_E) (sz : Nat) (ri : Nat) (hI0 : IXL cT (shC cf) (spC cf) (LC cf) ad E) (hh0 : ri < cf 2) (hh1 : xv (E 5) 6 = .ref (ad (64 * (ri + 1) + 6))) (hh2 : (xi (E 5) 7).toInt < ((cf 1 : Nat) : Int)) : Met l yX2_faultsOnTacks v_faultsOnTacks rm_faultsOnTacks (va_Pc [.ref (ad 5)] (HWL dC dI (TYC cT) cf ad E sz)) (va_Qi (S := Nat → va_E) (fun r u => IXL cT (shC cf) (spC cf) (LC cf) ad u ∧ Kp w_faultsOnTacks E u ∧ (True)) (HBL dC dI (LC cf) ad) (va_A (WL (LC cf) ad E) sz)) 0 0 (va_A (WL (LC cf) ad E) sz) := by
  obtain ⟨⟨hc0, hc1, hc2, hc3, hc4, hc5⟩, hcr⟩ := id hC
  refine Met.ofW (cc := cX2_faultsOnTacks) (maxL := 3) (ret := (some .int)) (by decide) rfl ?_
  intro p e s m args below meth c s₁ B hml hv
  obtain ⟨hargs, hsz, hP, hK, hD0, hEV⟩ := hv
  subst hsz
  have hx := B.exec
  have hb := B.bytes
  have hr := B.returns
  have hts := atoms_spec (ws := v_faultsOnTacks) B.pre
  have hown : s.vm.findClass RX2 = some m.cls := findClass_of_methodNamed B.named
  have hlocks := B.notSynchronized
  have hinX0 : ∀ w ∈ u_ws RX0 TX0 11, w ∈ v_faultsOnTacks := fun w h => vA_in _ w (in_X0 w h)
  have hinX2 : ∀ w ∈ u_ws RX2 TX2 10, w ∈ v_faultsOnTacks := fun w h => vA_in _ w (in_X2 w h)
  generalize hAe : va_A (WL (LC cf) ad E) s.heap.size = A at hEV ⊢
  have hA : ∀ q : Nat, s.heap.size ≤ q → A q := fun q h => by rw [← hAe]; exact Or.inr h
  have hD : va_D A (WL (LC cf) ad E) := by rw [← hAe]; exact hD0.self
  have hS : va_S A s.heap s.heap [] := va_S.rf
  have hI := hI0
  have hKp : Kp w_faultsOnTacks E E := Kp.rf
  have hl := lv_entry ([.ref (ad 5)]) (n := 3) (Nat.le_of_ble_eq_true rfl)
  obtain ⟨Q, hQ⟩ : ∃ Q, Q = MQ below (va_Qi (S := Nat → va_E) (fun r u => IXL cT (shC cf) (spC cf) (LC cf) ad u ∧ Kp w_faultsOnTacks E u ∧ (True)) (HBL dC dI (LC cf) ad) (A)) args s 0 0 (A) := ⟨_, rfl⟩
  rw [← hQ, show entryFrame m args 3 = _ from (congrArg (fun z => entryFrame m z 3) hargs).trans (lg_entry_eq _ _ _)]
  generalize (lg_sl ([.ref (ad 5)]) ++ List.replicate (3 - (lg_sl ([.ref (ad 5)])).length) Slot.unset).toArray = ls at hl ⊢
  have hl : lv_has ls 3 [(0, .ref (ad 5))] := hl
  refine lv_iconst (v := 0) hx hb dX2_faultsOnTacks_0 (by decide) ?_
  refine lv_istore_n (lv' := [(1, .int 0), (0, .ref (ad 5))]) hx hb dX2_faultsOnTacks_1 rfl hl (by decide) rfl (fun ls hl => ?_)
  refine lv_iconst (v := 0) hx hb dX2_faultsOnTacks_2 (by decide) ?_
  refine lv_istore_n (lv' := [(2, .int 0), (1, .int 0), (0, .ref (ad 5))]) hx hb dX2_faultsOnTacks_3 rfl hl (by decide) rfl (fun ls hl => ?_)
  have hL4 : ∀ d : Nat, ∀ (v4_2 : Int32) (v4_1 : Int32) (E4_ : Nat → va_E) (H : Heap) (locs : List Loc) (ls : Array Slot), 0 ≤ v4_2.toInt ∧ v4_2.toInt ≤ 8 → 0 ≤ v4_1.toInt ∧ v4_1.toInt ≤ 3 → 8 - v4_2.toInt < (d : Int) → IXL cT (shC cf) (spC cf) (LC cf) ad E4_ → Kp w_faultsOnTacks E E4_ → va_P (dC, dI) vwCl (WL (LC cf) ad E4_) H → va_S A s.heap H locs → lv_has ls 3 [(2, .int v4_2), (1, .int v4_1), (0, .ref (ad 5))] → W p l e (headSpec v_faultsOnTacks rm_faultsOnTacks).room s m args below meth c H locs 0 0 Q (F0 m 4 ls []) := by
    intro d
    induction d with
    | zero =>
      intro v4_2 v4_1 E4_ H locs ls hv4_2 hv4_1 hx4_0 hI hKp hP hS hl
      exact absurd hx4_0 (by first | exact ms_zu hv4_2.2 | omega)
    | succ d ih4 =>
      intro v4_2 v4_1 E4_ H locs ls hv4_2 hv4_1 hx4_0 hI hKp hP hS hl
      refine lv_iload_n hx hb dX2_faultsOnTacks_4 rfl (lv_at hl 0 rfl) ?_
      refine lv_bipush (v := 8) hx hb dX2_faultsOnTacks_5 (by decide) ?_
      refine lv_icmp_ge (tgt := 102) hx hb dX2_faultsOnTacks_7 (by decide) (fun c1 => ?_) (fun c1 => ?_)
      · --7 taken
        have t2 : (8 : Int) ≤ v4_2.toInt := ti_le c1
        have i3 : 8 ≤ v4_2.toInt ∧ v4_2.toInt ≤ 8 := iv_le_r t2 (il_ 8) hv4_2 (by decide)
        refine lv_iload_n hx hb dX2_faultsOnTacks_102 rfl (lv_at hl 1 rfl) ?_
        rw [hQ]
        exact W.iret (v := v4_1) hx hb hr (fun t ht hW => ⟨⟨v4_1, E4_, rfl, ⟨hI, hKp, trivial⟩, by show va_P (dC, dI) vwCl (WL (LC cf) ad E4_) t.heap; rw [ht]; exact hP⟩, hS.F ht⟩) hS.2.2 dX2_faultsOnTacks_103
      · --7 not
        have t4 : v4_2.toInt < 8 := ti_nle c1
        have i5 : 0 ≤ v4_2.toInt ∧ v4_2.toInt ≤ 7 := iv_lt_l t4 hv4_2 (il_ 8) (by decide)
        refine lv_iload_n hx hb dX2_faultsOnTacks_10 rfl (lv_at hl 1 rfl) ?_
        refine lv_iconst (v := 3) hx hb dX2_faultsOnTacks_11 (by decide) ?_
        refine lv_icmp_eq (tgt := 102) hx hb dX2_faultsOnTacks_12 (by decide) (fun c6 => ?_) (fun c6 => ?_)
        · --12 taken
          have t7 : v4_1.toInt = 3 := ti_eq c6
          have i8 : 3 ≤ v4_1.toInt ∧ v4_1.toInt ≤ 3 := iv_eqi t7 hv4_1 (il_ 3) (by decide)
          refine lv_iload_n hx hb dX2_faultsOnTacks_102 rfl (lv_at hl 1 rfl) ?_
          rw [hQ]
          exact W.iret (v := v4_1) hx hb hr (fun t ht hW => ⟨⟨v4_1, E4_, rfl, ⟨hI, hKp, trivial⟩, by show va_P (dC, dI) vwCl (WL (LC cf) ad E4_) t.heap; rw [ht]; exact hP⟩, hS.F ht⟩) hS.2.2 dX2_faultsOnTacks_103
        · --12 not
          have t9 : ¬ v4_1.toInt = 3 := ti_ne c6
          have i10 : 0 ≤ v4_1.toInt ∧ v4_1.toInt ≤ 2 := iv_ne_r t9 hv4_1 (il_ 3)
          refine lv_aload_n hx hb dX2_faultsOnTacks_15 rfl (lv_at hl 2 rfl) ?_
          have i11 : 0 ≤ (xi (E 5) 9).toInt ∧ (xi (E 5) 9).toInt ≤ 255 := hI0.iv 5 (mF 5 rfl) rfl (Nat.le_of_ble_eq_true rfl) rfl
          refine th_getL (ci := 3) (C := RX2) (T := TX2) (N := 10) (v := .int (xi (E 5) 9)) hx hb hts hinX2 hown hK hP hI 5 (mF 5 rfl) rfl rfl 9 (Nat.le_of_ble_eq_true rfl) (hts _ (vA_in _ _ (in_16 _ (zs4 (zs0))))) (fun _ h9 => h9) (th_v0L hKp hI0 5 (mF 5 rfl) rfl (Nat.le_of_ble_eq_true rfl) rfl rfl) dX2_faultsOnTacks_16 ?_
          refine lv_iload_n hx hb dX2_faultsOnTacks_19 rfl (lv_at hl 0 rfl) ?_
          refine lv_ishr hx hb dX2_faultsOnTacks_20 ?_
          refine lv_topi (fun y12 ey12 => ?_)
          refine lv_iconst (v := 1) hx hb dX2_faultsOnTacks_21 (by decide) ?_
          refine lv_iand hx hb dX2_faultsOnTacks_22 ?_
          refine lv_topi (fun y13 ey13 => ?_)
          have iy13 : 0 ≤ y13.toInt ∧ y13.toInt ≤ 1 := ti_and (by decide) ey13
          refine lv_if_ne (tgt := 29) hx hb dX2_faultsOnTacks_23 (by decide) (fun c14 => ?_) (fun c14 => ?_)
          · --23 taken
            have t15 : ¬ y13.toInt = 0 := ti_ne c14
            have i16 : 1 ≤ y13.toInt ∧ y13.toInt ≤ 1 := iv_ne_l t15 iy13 (il_ 0)
            refine lv_aload_n hx hb dX2_faultsOnTacks_29 rfl (lv_at hl 2 rfl) ?_
            refine th_getL (ci := 3) (C := RX2) (T := TX2) (N := 10) (v := .ref (ad 1)) hx hb hts hinX2 hown hK hP hI 5 (mF 5 rfl) rfl rfl 0 (Nat.le_of_ble_eq_true rfl) (hts _ (vA_in _ _ (in_14 _ (zs16 (zs16 (zs1 (zs1 (zs0)))))))) (fun _ h9 => h9) (hI.fr 5 (mF 5 rfl) rfl (Nat.le_of_ble_eq_true rfl) 1 rfl) dX2_faultsOnTacks_30 ?_
            refine th_getL (ci := 1) (C := RX0) (T := TX0) (N := 11) (v := .ref (ad 19)) hx hb hts hinX0 hown hK hP hI 1 (mF 1 rfl) rfl rfl 9 (Nat.le_of_ble_eq_true rfl) (hts _ (vA_in _ _ (in_16 _ (zs4 (zs4 (zs4 (zs1 (zs1 (zs0))))))))) (fun _ h9 => h9) (hI.fr 1 (mF 1 rfl) rfl (Nat.le_of_ble_eq_true rfl) 19 rfl) dX2_faultsOnTacks_33 ?_
            refine lv_bipush (v := 9) hx hb dX2_faultsOnTacks_36 (by decide) ?_
            refine lv_iload_n hx hb dX2_faultsOnTacks_38 rfl (lv_at hl 0 rfl) ?_
            refine lv_iconst (v := 2) hx hb dX2_faultsOnTacks_39 (by decide) ?_
            refine lv_ishr hx hb dX2_faultsOnTacks_40 ?_
            refine lv_topi (fun y17 ey17 => ?_)
            have n18 : vp_in (9 : Int32) 14 := (iv_in (n := 14) ln_9 (by decide))
            refine th_iastL hx hb hK hP (WL_D hD) hS hI 19 (mF 19 rfl) rfl rfl n18 (okI rfl (iv_all _)) dX2_faultsOnTacks_41 (fun H locs E19 pw20 hI hP hS => ?_)
            have hKp := hKp.pw pw20 rfl
            refine lv_aload_n hx hb dX2_faultsOnTacks_42 rfl (lv_at hl 2 rfl) ?_
            refine th_getL (ci := 3) (C := RX2) (T := TX2) (N := 10) (v := .ref (ad 1)) hx hb hts hinX2 hown hK hP hI 5 (mF 5 rfl) rfl rfl 0 (Nat.le_of_ble_eq_true rfl) (hts _ (vA_in _ _ (in_14 _ (zs16 (zs16 (zs1 (zs1 (zs0)))))))) (fun _ h9 => h9) (hI.fr 5 (mF 5 rfl) rfl (Nat.le_of_ble_eq_true rfl) 1 rfl) dX2_faultsOnTacks_43 ?_
            refine th_getL (ci := 1) (C := RX0) (T := TX0) (N := 11) (v := .ref (ad 19)) hx hb hts hinX0 hown hK hP hI 1 (mF 1 rfl) rfl rfl 9 (Nat.le_of_ble_eq_true rfl) (hts _ (vA_in _ _ (in_16 _ (zs4 (zs4 (zs4 (zs1 (zs1 (zs0))))))))) (fun _ h9 => h9) (hI.fr 1 (mF 1 rfl) rfl (Nat.le_of_ble_eq_true rfl) 19 rfl) dX2_faultsOnTacks_46 ?_
            refine lv_bipush (v := 10) hx hb dX2_faultsOnTacks_49 (by decide) ?_
            refine lv_iload_n hx hb dX2_faultsOnTacks_51 rfl (lv_at hl 0 rfl) ?_
            refine lv_iconst (v := 1) hx hb dX2_faultsOnTacks_52 (by decide) ?_
            refine lv_ishr hx hb dX2_faultsOnTacks_53 ?_
            refine lv_topi (fun y21 ey21 => ?_)
            refine lv_iconst (v := 1) hx hb dX2_faultsOnTacks_54 (by decide) ?_
            refine lv_iand hx hb dX2_faultsOnTacks_55 ?_
            refine lv_topi (fun y22 ey22 => ?_)
            have iy22 : 0 ≤ y22.toInt ∧ y22.toInt ≤ 1 := ti_and (by decide) ey22
            have n23 : vp_in (10 : Int32) 14 := (iv_in (n := 14) ln_10 (by decide))
            refine th_iastL hx hb hK hP (WL_D hD) hS hI 19 (mF 19 rfl) rfl rfl n23 (okI rfl (iv_w iy22 (by decide))) dX2_faultsOnTacks_56 (fun H locs E24 pw25 hI hP hS => ?_)
            have hKp := hKp.pw pw25 rfl
            refine lv_aload_n hx hb dX2_faultsOnTacks_57 rfl (lv_at hl 2 rfl) ?_
            refine th_getL (ci := 3) (C := RX2) (T := TX2) (N := 10) (v := .ref (ad 1)) hx hb hts hinX2 hown hK hP hI 5 (mF 5 rfl) rfl rfl 0 (Nat.le_of_ble_eq_true rfl) (hts _ (vA_in _ _ (in_14 _ (zs16 (zs16 (zs1 (zs1 (zs0)))))))) (fun _ h9 => h9) (hI.fr 5 (mF 5 rfl) rfl (Nat.le_of_ble_eq_true rfl) 1 rfl) dX2_faultsOnTacks_58 ?_
            refine th_getL (ci := 1) (C := RX0) (T := TX0) (N := 11) (v := .ref (ad 19)) hx hb hts hinX0 hown hK hP hI 1 (mF 1 rfl) rfl rfl 9 (Nat.le_of_ble_eq_true rfl) (hts _ (vA_in _ _ (in_16 _ (zs4 (zs4 (zs4 (zs1 (zs1 (zs0))))))))) (fun _ h9 => h9) (hI.fr 1 (mF 1 rfl) rfl (Nat.le_of_ble_eq_true rfl) 19 rfl) dX2_faultsOnTacks_61 ?_
            refine lv_bipush (v := 13) hx hb dX2_faultsOnTacks_64 (by decide) ?_
            refine lv_iload_n hx hb dX2_faultsOnTacks_66 rfl (lv_at hl 0 rfl) ?_
            refine lv_iconst (v := 1) hx hb dX2_faultsOnTacks_67 (by decide) ?_
            refine lv_iand hx hb dX2_faultsOnTacks_68 ?_
            refine lv_topi (fun y26 ey26 => ?_)
            have iy26 : 0 ≤ y26.toInt ∧ y26.toInt ≤ 1 := ti_and (by decide) ey26
            have n27 : vp_in (13 : Int32) 14 := (iv_in (n := 14) ln_13 (by decide))
            refine th_iastL hx hb hK hP (WL_D hD) hS hI 19 (mF 19 rfl) rfl rfl n27 (okI rfl (iv_w iy26 (by decide))) dX2_faultsOnTacks_69 (fun H locs E28 pw29 hI hP hS => ?_)
            have hKp := hKp.pw pw29 rfl
            refine lv_iload_n hx hb dX2_faultsOnTacks_70 rfl (lv_at hl 1 rfl) ?_
            refine lv_aload_n hx hb dX2_faultsOnTacks_71 rfl (lv_at hl 2 rfl) ?_
            refine th_getL (ci := 3) (C := RX2) (T := TX2) (N := 10) (v := .ref (ad 1)) hx hb hts hinX2 hown hK hP hI 5 (mF 5 rfl) rfl rfl 0 (Nat.le_of_ble_eq_true rfl) (hts _ (vA_in _ _ (in_14 _ (zs16 (zs16 (zs1 (zs1 (zs0)))))))) (fun _ h9 => h9) (hI.fr 5 (mF 5 rfl) rfl (Nat.le_of_ble_eq_true rfl) 1 rfl) dX2_faultsOnTacks_72 ?_
            refine lv_aload_n hx hb dX2_faultsOnTacks_75 rfl (lv_at hl 2 rfl) ?_
            have i30 : -1 ≤ (xi (E 5) 7).toInt ∧ (xi (E 5) 7).toInt ≤ 15 := hI0.iv 5 (mF 5 rfl) rfl (Nat.le_of_ble_eq_true rfl) rfl
            refine th_getL (ci := 3) (C := RX2) (T := TX2) (N := 10) (v := .int (xi (E 5) 7)) hx hb hts hinX2 hown hK hP hI 5 (mF 5 rfl) rfl rfl 7 (Nat.le_of_ble_eq_true rfl) (hts _ (vA_in _ _ (in_15 _ zs0))) (fun _ h9 => h9) (th_v0L hKp hI0 5 (mF 5 rfl) rfl (Nat.le_of_ble_eq_true rfl) rfl rfl) dX2_faultsOnTacks_76 ?_
            refine lv_aload_n hx hb dX2_faultsOnTacks_79 rfl (lv_at hl 2 rfl) ?_
            have i31 : 0 ≤ (xi (E 5) 8).toInt ∧ (xi (E 5) 8).toInt ≤ 255 := hI0.iv 5 (mF 5 rfl) rfl (Nat.le_of_ble_eq_true rfl) rfl
            refine th_getL (ci := 3) (C := RX2) (T := TX2) (N := 10) (v := .int (xi (E 5) 8)) hx hb hts hinX2 hown hK hP hI 5 (mF 5 rfl) rfl rfl 8 (Nat.le_of_ble_eq_true rfl) (hts _ (vA_in _ _ (in_15 _ (zs1 (zs0))))) (fun _ h9 => h9) (th_v0L hKp hI0 5 (mF 5 rfl) rfl (Nat.le_of_ble_eq_true rfl) rfl rfl) dX2_faultsOnTacks_80 ?_
            refine th_iL (va_runV (As := [.int (xi (E 5) 7), .int (xi (E 5) 8)]) (rest := [.int v4_1]) ⟨hx, hb, hml, hown, hts⟩ (q_worthIn l dC dI cT cf hC ad E28 H.size (xi (E 5) 7) (xi (E 5) 8) hI i30 (by omega)) (cwV 2 hts (gi_V (in_16 _ (zs16 (zs4 (zs4 (zs1 (zs0)))))) (in_16 _ (zs16 (zs4 (zs4 (zs1 (zs1 (zs0))))))) (in_16 _ (zs16 (zs4 (zs4 (zs1 (zs1 (zs1 (zs0)))))))) (in_5 _ (zs4 (zs1 (zs1 (zs0))))) (in_7 _ (zs16 (zs4 (zs4 (zs4 (zs0))))))) rfl rfl rfl ⟨rfl, hz_yX0_worthIn_2⟩ ⟨Nat.le_of_ble_eq_true rfl, Nat.le_of_ble_eq_true rfl⟩) ⟨HWL_bl, va_recv hK hP (ci := 1) (q0 := posL 1 (LC cf)) rfl (hI.ob 1 (mF 1 rfl) rfl), (HWL_wi hP hK (WL_D hD) hS hA hEV)⟩ rfl rfl hl.1 rfl (lv_room (Nat.le_of_ble_eq_true rfl)) dX2_faultsOnTacks_83 ⟨Nat.le_of_ble_eq_true rfl, Nat.le_of_ble_eq_true rfl⟩) (WL_D hD) hS hA (fun r32 E33 H locs hw hP hS => ?_)
            obtain ⟨hI, kq34, hw⟩ := hw
            have hKb := hKp
            have hKp := hKp.tr kq34 (wl_sub rfl rfl)
            refine lv_if_ne (tgt := 93) hx hb dX2_faultsOnTacks_86 (by decide) (fun c35 => ?_) (fun c35 => ?_)
            · --86 taken
              have t36 : ¬ r32.toInt = 0 := ti_ne c35
              refine lv_iconst (v := 2) hx hb dX2_faultsOnTacks_93 (by decide) ?_
              have z2 := ln_2
              refine lv_ior hx hb dX2_faultsOnTacks_94 ?_
              refine lv_topi (fun y37 ey37 => ?_)
              have iy37 : 0 ≤ y37.toInt ∧ y37.toInt ≤ 3 := ti_or3 ey37 (by omega) (by omega)
              refine lv_istore_n (lv' := [(1, .int y37), (2, .int v4_2), (0, .ref (ad 5))]) hx hb dX2_faultsOnTacks_95 rfl hl (by decide) rfl (fun ls hl => ?_)
              obtain ⟨y38, ey38⟩ : ∃ y : Int32, y = v4_2 + (1 : Int32) := ⟨_, rfl⟩
              obtain ⟨ty38, iy38⟩ := ti_add (e := 1) (f := 8) i5 ln_1 ey38 (by decide)
              have ty38 : y38.toInt = v4_2.toInt + 1 := ty38
              have iy38 : 1 ≤ y38.toInt ∧ y38.toInt ≤ 8 := iy38
              refine lv_iinc (v := y38) (lv' := [(2, .int y38), (1, .int y37), (0, .ref (ad 5))]) hx hb dX2_faultsOnTacks_96 hl (k := 1) rfl (by rw [ey38]; rfl) (by decide) rfl (fun ls hl => ?_)
              refine lv_goto (tgt := 4) hx hb dX2_faultsOnTacks_99 (by decide) ?_
              exact ih4 y38 y37 E33 _ _ _ (iv_w iy38 (by decide)) iy37 (by first | exact ms_su hx4_0 ty38 (by decide) | omega) hI hKp hP hS (lv_sub hl [0, 1, 2] rfl)
            · --86 not
              have t39 : r32.toInt = 0 := ti_eq c35
              have i40 : 0 ≤ r32.toInt ∧ r32.toInt ≤ 0 := iv_eqi t39 (iv_all _) (il_ 0) (by decide)
              refine lv_iconst (v := 1) hx hb dX2_faultsOnTacks_89 (by decide) ?_
              refine lv_goto (tgt := 94) hx hb dX2_faultsOnTacks_90 (by decide) ?_
              have z1 := ln_1
              refine lv_ior hx hb dX2_faultsOnTacks_94 ?_
              refine lv_topi (fun y41 ey41 => ?_)
              have iy41 : 0 ≤ y41.toInt ∧ y41.toInt ≤ 3 := ti_or3 ey41 (by omega) (by omega)
              refine lv_istore_n (lv' := [(1, .int y41), (2, .int v4_2), (0, .ref (ad 5))]) hx hb dX2_faultsOnTacks_95 rfl hl (by decide) rfl (fun ls hl => ?_)
              obtain ⟨y42, ey42⟩ : ∃ y : Int32, y = v4_2 + (1 : Int32) := ⟨_, rfl⟩
              obtain ⟨ty42, iy42⟩ := ti_add (e := 1) (f := 8) i5 ln_1 ey42 (by decide)
              have ty42 : y42.toInt = v4_2.toInt + 1 := ty42
              have iy42 : 1 ≤ y42.toInt ∧ y42.toInt ≤ 8 := iy42
              refine lv_iinc (v := y42) (lv' := [(2, .int y42), (1, .int y41), (0, .ref (ad 5))]) hx hb dX2_faultsOnTacks_96 hl (k := 1) rfl (by rw [ey42]; rfl) (by decide) rfl (fun ls hl => ?_)
              refine lv_goto (tgt := 4) hx hb dX2_faultsOnTacks_99 (by decide) ?_
              exact ih4 y42 y41 E33 _ _ _ (iv_w iy42 (by decide)) iy41 (by first | exact ms_su hx4_0 ty42 (by decide) | omega) hI hKp hP hS (lv_sub hl [0, 1, 2] rfl)
          · --23 not
            have t43 : y13.toInt = 0 := ti_eq c14
            have i44 : 0 ≤ y13.toInt ∧ y13.toInt ≤ 0 := iv_eqi t43 iy13 (il_ 0) (by decide)
            refine lv_goto (tgt := 96) hx hb dX2_faultsOnTacks_26 (by decide) ?_
            obtain ⟨y45, ey45⟩ : ∃ y : Int32, y = v4_2 + (1 : Int32) := ⟨_, rfl⟩
            obtain ⟨ty45, iy45⟩ := ti_add (e := 1) (f := 8) i5 ln_1 ey45 (by decide)
            have ty45 : y45.toInt = v4_2.toInt + 1 := ty45
            have iy45 : 1 ≤ y45.toInt ∧ y45.toInt ≤ 8 := iy45
            refine lv_iinc (v := y45) (lv' := [(2, .int y45), (1, .int v4_1), (0, .ref (ad 5))]) hx hb dX2_faultsOnTacks_96 hl (k := 0) rfl (by rw [ey45]; rfl) (by decide) rfl (fun ls hl => ?_)
            refine lv_goto (tgt := 4) hx hb dX2_faultsOnTacks_99 (by decide) ?_
            exact ih4 y45 v4_1 E4_ _ _ _ (iv_w iy45 (by decide)) (iv_w i10 (by decide)) (by first | exact ms_su hx4_0 ty45 (by decide) | omega) hI hKp hP hS (lv_sub hl [0, 1, 2] rfl)
  exact hL4 (9) (0 : Int32) (0 : Int32) E _ _ _ (iv_w ln_0 (by decide)) (iv_w ln_0 (by decide)) (by have h9 := ln_0; first | exact ms_bu h9.1 (by decide) | omega) hI hKp hP hS (lv_sub hl [0, 1, 2] rfl)
def v_faultsFrom : List Cond := .code yX2_faultsFrom cX2_faultsFrom 7 (some .int) :: vA
abbrev rm_faultsFrom : Room := { frames := 5, cells := 0, slots := 0, locals := 200 }
def w_faultsFrom : Nat → Nat → Bool := wl [19, 20] []
set_option maxHeartbeats 4000000 in
set_option maxRecDepth 100000 in
theorem q_faultsFrom (l : Launch) (dC : Nat → ClassId) (dI : Nat → Nat → Nat) (cT : Nat → ClassId) (cf : Nat → Nat) (hC : CF cf) (ad : Nat → Nat) (E : Nat → va_E) (sz : Nat) (a0 : Int32) (a1 : Int32) (ri : Nat) (hI0 : IXL cT (shC cf) (spC cf) (LC cf) ad E) (hh0 : ri < cf 2) (hh1 : xv (E 5) 6 = .ref (ad (64 * (ri + 1) + 6))) (hh2 : (xi (E 5) 7).toInt < ((cf 1 : Nat) : Int)) (hh3 : 0 ≤ a0.toInt ∧ a0.toInt ≤ 99) (hh4 : 0 ≤ a1.toInt ∧ a1.toInt ≤ 99) : Met l yX2_faultsFrom v_faultsFrom rm_faultsFrom (va_Pc [.ref (ad 5), .int a0, .int a1] (HWL dC dI (TYC cT) cf ad E sz)) (va_Qi (S := Nat → va_E) (fun r u => IXL cT (shC cf) (spC cf) (LC cf) ad u ∧ Kp w_faultsFrom E u ∧ (True)) (HBL dC dI (LC cf) ad) (va_A (WL (LC cf) ad E) sz)) 0 0 (va_A (WL (LC cf) ad E) sz) := by
  obtain ⟨⟨hc0, hc1, hc2, hc3, hc4, hc5⟩, hcr⟩ := id hC
  refine Met.ofW (cc := cX2_faultsFrom) (maxL := 7) (ret := (some .int)) (by decide) rfl ?_
  intro p e s m args below meth c s₁ B hml hv
  obtain ⟨hargs, hsz, hP, hK, hD0, hEV⟩ := hv
  subst hsz
  have hx := B.exec
  have hb := B.bytes
  have hr := B.returns
  have hts := atoms_spec (ws := v_faultsFrom) B.pre
  have hown : s.vm.findClass RX2 = some m.cls := findClass_of_methodNamed B.named
  have hlocks := B.notSynchronized
  have hinX0 : ∀ w ∈ u_ws RX0 TX0 11, w ∈ v_faultsFrom := fun w h => vA_in _ w (in_X0 w h)
  have hinX2 : ∀ w ∈ u_ws RX2 TX2 10, w ∈ v_faultsFrom := fun w h => vA_in _ w (in_X2 w h)
  have hinX5 : ∀ w ∈ u_ws RX5 TX5 12, w ∈ v_faultsFrom := fun w h => vA_in _ w (in_X5 w h)
  generalize hAe : va_A (WL (LC cf) ad E) s.heap.size = A at hEV ⊢
  have hA : ∀ q : Nat, s.heap.size ≤ q → A q := fun q h => by rw [← hAe]; exact Or.inr h
  have hD : va_D A (WL (LC cf) ad E) := by rw [← hAe]; exact hD0.self
  have hS : va_S A s.heap s.heap [] := va_S.rf
  have hI := hI0
  have hKp : Kp w_faultsFrom E E := Kp.rf
  have hl := lv_entry ([.ref (ad 5), .int a0, .int a1]) (n := 7) (Nat.le_of_ble_eq_true rfl)
  obtain ⟨Q, hQ⟩ : ∃ Q, Q = MQ below (va_Qi (S := Nat → va_E) (fun r u => IXL cT (shC cf) (spC cf) (LC cf) ad u ∧ Kp w_faultsFrom E u ∧ (True)) (HBL dC dI (LC cf) ad) (A)) args s 0 0 (A) := ⟨_, rfl⟩
  rw [← hQ, show entryFrame m args 7 = _ from (congrArg (fun z => entryFrame m z 7) hargs).trans (lg_entry_eq _ _ _)]
  generalize (lg_sl ([.ref (ad 5), .int a0, .int a1]) ++ List.replicate (7 - (lg_sl ([.ref (ad 5), .int a0, .int a1])).length) Slot.unset).toArray = ls at hl ⊢
  have hl : lv_has ls 7 [(0, .ref (ad 5)), (1, .int a0), (2, .int a1)] := hl
  refine lv_iconst (v := 0) hx hb dX2_faultsFrom_0 (by decide) ?_
  refine lv_istore_n (lv' := [(3, .int 0), (0, .ref (ad 5)), (1, .int a0), (2, .int a1)]) hx hb dX2_faultsFrom_1 rfl hl (by decide) rfl (fun ls hl => ?_)
  refine lv_aload_n hx hb dX2_faultsFrom_2 rfl (lv_at hl 1 rfl) ?_
  refine th_getL (ci := 3) (C := RX2) (T := TX2) (N := 10) (v := .ref (ad 38)) hx hb hts hinX2 hown hK hP hI 5 (mF 5 rfl) rfl rfl 1 (Nat.le_of_ble_eq_true rfl) (hts _ (vA_in _ _ (in_15 _ (zs1 (zs1 (zs0)))))) (fun _ h9 => h9) (hI.fr 5 (mF 5 rfl) rfl (Nat.le_of_ble_eq_true rfl) 38 rfl) dX2_faultsFrom_3 ?_
  refine lv_iconst (v := 1) hx hb dX2_faultsFrom_6 (by decide) ?_
  have n2 : vp_in (1 : Int32) 2 := (iv_in (n := 2) ln_1 (by decide))
  refine th_ialdL hx hb hK hP hI 38 (mF 38 rfl) rfl rfl n2 dX2_faultsFrom_7 (fun y1 ey1 => ?_)
  have iy1 : 0 ≤ y1.toInt ∧ y1.toInt ≤ 99 := hI.el 38 (mF 38 rfl) rfl n2 (fun _ => rfl) ey1
  have ey1 := ey1.trans (hKp.ei 38 _ rfl)
  refine lv_istore (lv' := [(4, .int y1), (3, .int 0), (0, .ref (ad 5)), (1, .int a0), (2, .int a1)]) hx hb dX2_faultsFrom_8 hl (by decide) rfl (fun ls hl => ?_)
  have hL10 : ∀ d : Nat, ∀ (v10_4 : Int32) (v10_3 : Int32) (E10_ : Nat → va_E) (H : Heap) (locs : List Loc) (ls : Array Slot), 0 ≤ v10_4.toInt ∧ v10_4.toInt ≤ 100 → 100 - v10_4.toInt < (d : Int) → IXL cT (shC cf) (spC cf) (LC cf) ad E10_ → Kp w_faultsFrom E E10_ → va_P (dC, dI) vwCl (WL (LC cf) ad E10_) H → va_S A s.heap H locs → lv_has ls 7 [(4, .int v10_4), (3, .int v10_3), (0, .ref (ad 5)), (1, .int a0), (2, .int a1)] → W p l e (headSpec v_faultsFrom rm_faultsFrom).room s m args below meth c H locs 0 0 Q (F0 m 10 ls []) := by
    intro d
    induction d with
    | zero =>
      intro v10_4 v10_3 E10_ H locs ls hv10_4 hx10_0 hI hKp hP hS hl
      exact absurd hx10_0 (by first | exact ms_zu hv10_4.2 | omega)
    | succ d ih10 =>
      intro v10_4 v10_3 E10_ H locs ls hv10_4 hx10_0 hI hKp hP hS hl
      refine lv_iload hx hb dX2_faultsFrom_10 (lv_at hl 0 rfl) ?_
      refine lv_aload_n hx hb dX2_faultsFrom_12 rfl (lv_at hl 2 rfl) ?_
      refine th_getL (ci := 3) (C := RX2) (T := TX2) (N := 10) (v := .ref (ad 39)) hx hb hts hinX2 hown hK hP hI 5 (mF 5 rfl) rfl rfl 2 (Nat.le_of_ble_eq_true rfl) (hts _ (vA_in _ _ (in_15 _ (zs1 (zs1 (zs1 (zs0))))))) (fun _ h9 => h9) (hI.fr 5 (mF 5 rfl) rfl (Nat.le_of_ble_eq_true rfl) 39 rfl) dX2_faultsFrom_13 ?_
      refine lv_iconst (v := 1) hx hb dX2_faultsFrom_16 (by decide) ?_
      have n4 : vp_in (1 : Int32) 2 := (iv_in (n := 2) ln_1 (by decide))
      refine th_ialdL hx hb hK hP hI 39 (mF 39 rfl) rfl rfl n4 dX2_faultsFrom_17 (fun y3 ey3 => ?_)
      have iy3 : 0 ≤ y3.toInt ∧ y3.toInt ≤ 99 := hI.el 39 (mF 39 rfl) rfl n4 (fun _ => rfl) ey3
      have ey3 := ey3.trans (hKp.ei 39 _ rfl)
      refine lv_icmp_gt (tgt := 209) hx hb dX2_faultsFrom_18 (by decide) (fun c5 => ?_) (fun c5 => ?_)
      · --18 taken
        have t6 : y3.toInt < v10_4.toInt := ti_lt c5
        have i7 : 1 ≤ v10_4.toInt ∧ v10_4.toInt ≤ 100 := iv_lt_r t6 iy3 hv10_4 (by decide)
        refine lv_iload_n hx hb dX2_faultsFrom_209 rfl (lv_at hl 1 rfl) ?_
        rw [hQ]
        exact W.iret (v := v10_3) hx hb hr (fun t ht hW => ⟨⟨v10_3, E10_, rfl, ⟨hI, hKp, trivial⟩, by show va_P (dC, dI) vwCl (WL (LC cf) ad E10_) t.heap; rw [ht]; exact hP⟩, hS.F ht⟩) hS.2.2 dX2_faultsFrom_210
      · --18 not
        have t8 : v10_4.toInt ≤ y3.toInt := ti_nlt c5
        have i9 : 0 ≤ v10_4.toInt ∧ v10_4.toInt ≤ 99 := iv_le_l t8 hv10_4 iy3 (by decide)
        refine lv_iload_n hx hb dX2_faultsFrom_21 rfl (lv_at hl 1 rfl) ?_
        refine lv_iconst (v := 3) hx hb dX2_faultsFrom_22 (by decide) ?_
        refine lv_icmp_eq (tgt := 209) hx hb dX2_faultsFrom_23 (by decide) (fun c10 => ?_) (fun c10 => ?_)
        · --23 taken
          have t11 : v10_3.toInt = 3 := ti_eq c10
          have i12 : 3 ≤ v10_3.toInt ∧ v10_3.toInt ≤ 3 := iv_eqi t11 (iv_all _) (il_ 3) (by decide)
          refine lv_iload_n hx hb dX2_faultsFrom_209 rfl (lv_at hl 1 rfl) ?_
          rw [hQ]
          exact W.iret (v := v10_3) hx hb hr (fun t ht hW => ⟨⟨v10_3, E10_, rfl, ⟨hI, hKp, trivial⟩, by show va_P (dC, dI) vwCl (WL (LC cf) ad E10_) t.heap; rw [ht]; exact hP⟩, hS.F ht⟩) hS.2.2 dX2_faultsFrom_210
        · --23 not
          have t13 : ¬ v10_3.toInt = 3 := ti_ne c10
          refine lv_aload_n hx hb dX2_faultsFrom_26 rfl (lv_at hl 2 rfl) ?_
          refine th_getL (ci := 3) (C := RX2) (T := TX2) (N := 10) (v := .ref (ad 40)) hx hb hts hinX2 hown hK hP hI 5 (mF 5 rfl) rfl rfl 3 (Nat.le_of_ble_eq_true rfl) (hts _ (vA_in _ _ (in_15 _ (zs4 (zs0))))) (fun _ h9 => h9) (hI.fr 5 (mF 5 rfl) rfl (Nat.le_of_ble_eq_true rfl) 40 rfl) dX2_faultsFrom_27 ?_
          refine lv_iconst (v := 1) hx hb dX2_faultsFrom_30 (by decide) ?_
          have n15 : vp_in (1 : Int32) 2 := (iv_in (n := 2) ln_1 (by decide))
          refine th_ialdL hx hb hK hP hI 40 (mF 40 rfl) rfl rfl n15 dX2_faultsFrom_31 (fun y14 ey14 => ?_)
          have iy14 : 0 ≤ y14.toInt ∧ y14.toInt ≤ 99 := hI.el 40 (mF 40 rfl) rfl n15 (fun _ => rfl) ey14
          have ey14 := ey14.trans (hKp.ei 40 _ rfl)
          refine lv_istore (lv' := [(5, .int y14), (4, .int v10_4), (3, .int v10_3), (0, .ref (ad 5)), (1, .int a0), (2, .int a1)]) hx hb dX2_faultsFrom_32 hl (by decide) rfl (fun ls hl => ?_)
          have hL34 : ∀ d : Nat, ∀ (v34_5 : Int32) (v34_3 : Int32) (E34_ : Nat → va_E) (H : Heap) (locs : List Loc) (ls : Array Slot), 0 ≤ v34_5.toInt ∧ v34_5.toInt ≤ 100 → 100 - v34_5.toInt < (d : Int) → IXL cT (shC cf) (spC cf) (LC cf) ad E34_ → Kp w_faultsFrom E E34_ → va_P (dC, dI) vwCl (WL (LC cf) ad E34_) H → va_S A s.heap H locs → lv_has ls 7 [(5, .int v34_5), (4, .int v10_4), (3, .int v34_3), (0, .ref (ad 5)), (1, .int a0), (2, .int a1)] → W p l e (headSpec v_faultsFrom rm_faultsFrom).room s m args below meth c H locs 0 0 Q (F0 m 34 ls []) := by
            intro d
            induction d with
            | zero =>
              intro v34_5 v34_3 E34_ H locs ls hv34_5 hx34_0 hI hKp hP hS hl
              exact absurd hx34_0 (by first | exact ms_zu hv34_5.2 | omega)
            | succ d ih34 =>
              intro v34_5 v34_3 E34_ H locs ls hv34_5 hx34_0 hI hKp hP hS hl
              refine lv_iload hx hb dX2_faultsFrom_34 (lv_at hl 0 rfl) ?_
              refine lv_aload_n hx hb dX2_faultsFrom_36 rfl (lv_at hl 3 rfl) ?_
              refine th_getL (ci := 3) (C := RX2) (T := TX2) (N := 10) (v := .ref (ad 41)) hx hb hts hinX2 hown hK hP hI 5 (mF 5 rfl) rfl rfl 4 (Nat.le_of_ble_eq_true rfl) (hts _ (vA_in _ _ (in_15 _ (zs4 (zs1 (zs0)))))) (fun _ h9 => h9) (hI.fr 5 (mF 5 rfl) rfl (Nat.le_of_ble_eq_true rfl) 41 rfl) dX2_faultsFrom_37 ?_
              refine lv_iconst (v := 1) hx hb dX2_faultsFrom_40 (by decide) ?_
              have n17 : vp_in (1 : Int32) 2 := (iv_in (n := 2) ln_1 (by decide))
              refine th_ialdL hx hb hK hP hI 41 (mF 41 rfl) rfl rfl n17 dX2_faultsFrom_41 (fun y16 ey16 => ?_)
              have iy16 : 0 ≤ y16.toInt ∧ y16.toInt ≤ 99 := hI.el 41 (mF 41 rfl) rfl n17 (fun _ => rfl) ey16
              have ey16 := ey16.trans (hKp.ei 41 _ rfl)
              refine lv_icmp_gt (tgt := 203) hx hb dX2_faultsFrom_42 (by decide) (fun c18 => ?_) (fun c18 => ?_)
              · --42 taken
                have t19 : y16.toInt < v34_5.toInt := ti_lt c18
                have i20 : 1 ≤ v34_5.toInt ∧ v34_5.toInt ≤ 100 := iv_lt_r t19 iy16 hv34_5 (by decide)
                obtain ⟨y21, ey21⟩ : ∃ y : Int32, y = v10_4 + (1 : Int32) := ⟨_, rfl⟩
                obtain ⟨ty21, iy21⟩ := ti_add (e := 1) (f := 100) i9 ln_1 ey21 (by decide)
                have ty21 : y21.toInt = v10_4.toInt + 1 := ty21
                have iy21 : 1 ≤ y21.toInt ∧ y21.toInt ≤ 100 := iy21
                refine lv_iinc (v := y21) (lv' := [(4, .int y21), (5, .int v34_5), (3, .int v34_3), (0, .ref (ad 5)), (1, .int a0), (2, .int a1)]) hx hb dX2_faultsFrom_203 hl (k := 1) rfl (by rw [ey21]; rfl) (by decide) rfl (fun ls hl => ?_)
                refine lv_goto (tgt := 10) hx hb dX2_faultsFrom_206 (by decide) ?_
                exact ih10 y21 v34_3 E34_ _ _ _ (iv_w iy21 (by decide)) (by first | exact ms_su hx10_0 ty21 (by decide) | omega) hI hKp hP hS (lv_sub hl [0, 2, 3, 4, 5] rfl)
              · --42 not
                have t22 : v34_5.toInt ≤ y16.toInt := ti_nlt c18
                have i23 : 0 ≤ v34_5.toInt ∧ v34_5.toInt ≤ 99 := iv_le_l t22 hv34_5 iy16 (by decide)
                refine lv_iload_n hx hb dX2_faultsFrom_45 rfl (lv_at hl 2 rfl) ?_
                refine lv_iconst (v := 3) hx hb dX2_faultsFrom_46 (by decide) ?_
                refine lv_icmp_eq (tgt := 203) hx hb dX2_faultsFrom_47 (by decide) (fun c24 => ?_) (fun c24 => ?_)
                · --47 taken
                  have t25 : v34_3.toInt = 3 := ti_eq c24
                  have i26 : 3 ≤ v34_3.toInt ∧ v34_3.toInt ≤ 3 := iv_eqi t25 (iv_all _) (il_ 3) (by decide)
                  obtain ⟨y27, ey27⟩ : ∃ y : Int32, y = v10_4 + (1 : Int32) := ⟨_, rfl⟩
                  obtain ⟨ty27, iy27⟩ := ti_add (e := 1) (f := 100) i9 ln_1 ey27 (by decide)
                  have ty27 : y27.toInt = v10_4.toInt + 1 := ty27
                  have iy27 : 1 ≤ y27.toInt ∧ y27.toInt ≤ 100 := iy27
                  refine lv_iinc (v := y27) (lv' := [(4, .int y27), (5, .int v34_5), (3, .int v34_3), (0, .ref (ad 5)), (1, .int a0), (2, .int a1)]) hx hb dX2_faultsFrom_203 hl (k := 1) rfl (by rw [ey27]; rfl) (by decide) rfl (fun ls hl => ?_)
                  refine lv_goto (tgt := 10) hx hb dX2_faultsFrom_206 (by decide) ?_
                  exact ih10 y27 v34_3 E34_ _ _ _ (iv_w iy27 (by decide)) (by first | exact ms_su hx10_0 ty27 (by decide) | omega) hI hKp hP hS (lv_sub hl [0, 2, 3, 4, 5] rfl)
                · --47 not
                  have t28 : ¬ v34_3.toInt = 3 := ti_ne c24
                  refine lv_aload_n hx hb dX2_faultsFrom_50 rfl (lv_at hl 3 rfl) ?_
                  refine th_getL (ci := 3) (C := RX2) (T := TX2) (N := 10) (v := .ref (ad 1)) hx hb hts hinX2 hown hK hP hI 5 (mF 5 rfl) rfl rfl 0 (Nat.le_of_ble_eq_true rfl) (hts _ (vA_in _ _ (in_14 _ (zs16 (zs16 (zs1 (zs1 (zs0)))))))) (fun _ h9 => h9) (hI.fr 5 (mF 5 rfl) rfl (Nat.le_of_ble_eq_true rfl) 1 rfl) dX2_faultsFrom_51 ?_
                  refine th_vL (va_runV (As := []) (rest := []) ⟨hx, hb, hml, hown, hts⟩ (q_forget l dC dI cT cf hC ad E34_ H.size hI) (cwV 0 hts (gi_V (in_16 _ (zs16 (zs1 (zs0)))) (in_6 _ (zs16 (zs16 (zs4 (zs1 (zs0)))))) (in_6 _ (zs16 (zs16 (zs4 (zs1 (zs1 (zs0))))))) (in_5 _ (zs4 (zs1 (zs1 (zs0))))) (in_5 _ (zs16 (zs4 (zs1 (zs1 (zs1 (zs0)))))))) rfl rfl rfl ⟨rfl, hz_yX0_forgetLetters_0⟩ ⟨Nat.le_of_ble_eq_true rfl, Nat.le_of_ble_eq_true rfl⟩) ⟨HWL_bl, va_recv hK hP (ci := 1) (q0 := posL 1 (LC cf)) rfl (hI.ob 1 (mF 1 rfl) rfl), (HWL_wi hP hK (WL_D hD) hS hA hEV)⟩ rfl rfl hl.1 rfl (lv_room (Nat.le_of_ble_eq_true rfl)) dX2_faultsFrom_54 ⟨Nat.le_of_ble_eq_true rfl, Nat.le_of_ble_eq_true rfl⟩) (WL_D hD) hS hA (fun E30 H locs hw hP hS => ?_)
                  obtain ⟨hI, kq31, hw⟩ := hw
                  have hKb := hKp
                  have hKp := hKp.tr kq31 (wl_sub rfl rfl)
                  refine lv_iload_n hx hb dX2_faultsFrom_57 rfl (lv_at hl 4 rfl) ?_
                  refine lv_iload hx hb dX2_faultsFrom_58 (lv_at hl 1 rfl) ?_
                  refine lv_isub hx hb dX2_faultsFrom_60 ?_
                  refine lv_topi (fun y32 ey32 => ?_)
                  obtain ⟨ty32, iy32⟩ := ti_sub (e := (-99)) (f := 99) hh3 i9 ey32 (by decide)
                  have ty32 : y32.toInt = a0.toInt - v10_4.toInt := ty32
                  have iy32 : -99 ≤ y32.toInt ∧ y32.toInt ≤ 99 := iy32
                  obtain ⟨q33, hZq33, hTq33⟩ := hEV.2.2.1.1
                  have hSx := hS
                  refine va_getsN hx hb hZq33 hSx hown (va_Nw.use rfl hEV.1.2.1.1) (fun _ h9 => h9) dX2_faultsFrom_61 ?_
                  refine lv_aload_n hx hb dX2_faultsFrom_64 rfl (lv_at hl 3 rfl) ?_
                  refine th_getL (ci := 3) (C := RX2) (T := TX2) (N := 10) (v := .ref (ad (64 * (ri + 1) + 6))) hx hb hts hinX2 hown hK hP hI 5 (mF 5 rfl) rfl rfl 6 (Nat.le_of_ble_eq_true rfl) (hts _ (vA_in _ _ (in_14 _ (zs16 (zs16 (zs4 (zs1 (zs1 (zs0))))))))) (fun _ h9 => h9) ((hKp 5 6 rfl).trans hh1) dX2_faultsFrom_65 ?_
                  have i34 : 0 ≤ (xi (E (64 * (ri + 1) + 6)) 4).toInt ∧ (xi (E (64 * (ri + 1) + 6)) 4).toInt ≤ 7 := hI0.iv (64 * (ri + 1) + 6) (mP 6 ri (by decide) hh0 (kl_le hC 2 (by decide))) (shC_p 6 ri (by decide)) (Nat.le_of_ble_eq_true rfl) (spC_p 6 ri (by decide) 4)
                  refine th_getL (ci := 6) (C := RX5) (T := TX5) (N := 12) (v := .int (xi (E (64 * (ri + 1) + 6)) 4)) hx hb hts hinX5 hown hK hP hI (64 * (ri + 1) + 6) (mP 6 ri (by decide) hh0 (kl_le hC 2 (by decide))) (shC_p 6 ri (by decide)) rfl 4 (Nat.le_of_ble_eq_true rfl) (hts _ (vA_in _ _ (in_16 _ (zs4 (zs4 (zs1 (zs0))))))) (fun _ h9 => h9) (th_v0L hKp hI0 (64 * (ri + 1) + 6) (mP 6 ri (by decide) hh0 (kl_le hC 2 (by decide))) (shC_p 6 ri (by decide)) (Nat.le_of_ble_eq_true rfl) (spC_p 6 ri (by decide) 4) (wl_p rfl rfl (by omega))) dX2_faultsFrom_68 ?_
                  refine va_ti hx hb hTq33 hSx (i := (xi (E (64 * (ri + 1) + 6)) 4)) (iv_in (n := 8) i34 (by decide)) rfl dX2_faultsFrom_71 ?_
                  refine lv_topi (fun y35 ey35 => ?_)
                  have iy35 : -1 ≤ y35.toInt ∧ y35.toInt ≤ 1 := by rw [ey35]; exact tSX_iv _
                  refine lv_imul hx hb dX2_faultsFrom_72 ?_
                  refine lv_topi (fun y36 ey36 => ?_)
                  obtain ⟨ty36, iy36⟩ := ti_mul (e := (-99)) (f := 99) iy32 iy35 ey36 (by decide)
                  have ty36 : y36.toInt = y32.toInt * y35.toInt := ty36
                  have iy36 : -99 ≤ y36.toInt ∧ y36.toInt ≤ 99 := iy36
                  refine lv_iload_n hx hb dX2_faultsFrom_73 rfl (lv_at hl 5 rfl) ?_
                  refine lv_iload hx hb dX2_faultsFrom_74 (lv_at hl 0 rfl) ?_
                  refine lv_isub hx hb dX2_faultsFrom_76 ?_
                  refine lv_topi (fun y37 ey37 => ?_)
                  obtain ⟨ty37, iy37⟩ := ti_sub (e := (-99)) (f := 99) hh4 i23 ey37 (by decide)
                  have ty37 : y37.toInt = a1.toInt - v34_5.toInt := ty37
                  have iy37 : -99 ≤ y37.toInt ∧ y37.toInt ≤ 99 := iy37
                  obtain ⟨q38, hZq38, hTq38⟩ := hEV.2.2.1.2
                  have hSx := hS
                  refine va_getsN hx hb hZq38 hSx hown (va_Nw.use rfl hEV.1.2.1.2) (fun _ h9 => h9) dX2_faultsFrom_77 ?_
                  refine lv_aload_n hx hb dX2_faultsFrom_80 rfl (lv_at hl 3 rfl) ?_
                  refine th_getL (ci := 3) (C := RX2) (T := TX2) (N := 10) (v := .ref (ad (64 * (ri + 1) + 6))) hx hb hts hinX2 hown hK hP hI 5 (mF 5 rfl) rfl rfl 6 (Nat.le_of_ble_eq_true rfl) (hts _ (vA_in _ _ (in_14 _ (zs16 (zs16 (zs4 (zs1 (zs1 (zs0))))))))) (fun _ h9 => h9) ((hKp 5 6 rfl).trans hh1) dX2_faultsFrom_81 ?_
                  refine th_getL (ci := 6) (C := RX5) (T := TX5) (N := 12) (v := .int (xi (E (64 * (ri + 1) + 6)) 4)) hx hb hts hinX5 hown hK hP hI (64 * (ri + 1) + 6) (mP 6 ri (by decide) hh0 (kl_le hC 2 (by decide))) (shC_p 6 ri (by decide)) rfl 4 (Nat.le_of_ble_eq_true rfl) (hts _ (vA_in _ _ (in_16 _ (zs4 (zs4 (zs1 (zs0))))))) (fun _ h9 => h9) (th_v0L hKp hI0 (64 * (ri + 1) + 6) (mP 6 ri (by decide) hh0 (kl_le hC 2 (by decide))) (shC_p 6 ri (by decide)) (Nat.le_of_ble_eq_true rfl) (spC_p 6 ri (by decide) 4) (wl_p rfl rfl (by omega))) dX2_faultsFrom_84 ?_
                  refine va_ti hx hb hTq38 hSx (i := (xi (E (64 * (ri + 1) + 6)) 4)) (iv_in (n := 8) i34 (by decide)) rfl dX2_faultsFrom_87 ?_
                  refine lv_topi (fun y39 ey39 => ?_)
                  have iy39 : -1 ≤ y39.toInt ∧ y39.toInt ≤ 1 := by rw [ey39]; exact tSY_iv _
                  refine lv_imul hx hb dX2_faultsFrom_88 ?_
                  refine lv_topi (fun y40 ey40 => ?_)
                  obtain ⟨ty40, iy40⟩ := ti_mul (e := (-99)) (f := 99) iy37 iy39 ey40 (by decide)
                  have ty40 : y40.toInt = y37.toInt * y39.toInt := ty40
                  have iy40 : -99 ≤ y40.toInt ∧ y40.toInt ≤ 99 := iy40
                  refine lv_iadd hx hb dX2_faultsFrom_89 ?_
                  refine lv_topi (fun y41 ey41 => ?_)
                  obtain ⟨ty41, iy41⟩ := ti_add (e := (-198)) (f := 198) iy36 iy40 ey41 (by decide)
                  have ty41 : y41.toInt = y36.toInt + y40.toInt := ty41
                  have iy41 : -198 ≤ y41.toInt ∧ y41.toInt ≤ 198 := iy41
                  refine lv_istore (lv' := [(6, .int y41), (5, .int v34_5), (4, .int v10_4), (3, .int v34_3), (0, .ref (ad 5)), (1, .int a0), (2, .int a1)]) hx hb dX2_faultsFrom_90 hl (by decide) rfl (fun ls hl => ?_)
                  refine lv_aload_n hx hb dX2_faultsFrom_92 rfl (lv_at hl 4 rfl) ?_
                  refine th_getL (ci := 3) (C := RX2) (T := TX2) (N := 10) (v := .ref (ad 1)) hx hb hts hinX2 hown hK hP hI 5 (mF 5 rfl) rfl rfl 0 (Nat.le_of_ble_eq_true rfl) (hts _ (vA_in _ _ (in_14 _ (zs16 (zs16 (zs1 (zs1 (zs0)))))))) (fun _ h9 => h9) (hI.fr 5 (mF 5 rfl) rfl (Nat.le_of_ble_eq_true rfl) 1 rfl) dX2_faultsFrom_93 ?_
                  refine th_getL (ci := 1) (C := RX0) (T := TX0) (N := 11) (v := .ref (ad 19)) hx hb hts hinX0 hown hK hP hI 1 (mF 1 rfl) rfl rfl 9 (Nat.le_of_ble_eq_true rfl) (hts _ (vA_in _ _ (in_16 _ (zs4 (zs4 (zs4 (zs1 (zs1 (zs0))))))))) (fun _ h9 => h9) (hI.fr 1 (mF 1 rfl) rfl (Nat.le_of_ble_eq_true rfl) 19 rfl) dX2_faultsFrom_96 ?_
                  refine lv_bipush (v := 8) hx hb dX2_faultsFrom_99 (by decide) ?_
                  refine lv_iload_n hx hb dX2_faultsFrom_101 rfl (lv_at hl 5 rfl) ?_
                  refine lv_iload_n hx hb dX2_faultsFrom_102 rfl (lv_at hl 6 rfl) ?_
                  refine lv_iload hx hb dX2_faultsFrom_103 (lv_at hl 2 rfl) ?_
                  refine lv_iload hx hb dX2_faultsFrom_105 (lv_at hl 1 rfl) ?_
                  refine th_pi (va_runS (As := [.int a0, .int a1, .int v10_4, .int v34_5]) (rest := [.int 8, .ref (ad 19)]) ⟨hx, hb, hml, hown, hts⟩ (q_cfar l a0 a1 v10_4 v34_5) (va_cwS 4 hts (gi_S (in_16 _ (zs16 (zs1 (zs1 (zs0))))) (in_16 _ (zs16 (zs1 (zs1 (zs1 (zs0)))))) (in_14 _ (zs16 (zs16 (zs0)))) (in_16 _ (zs16 (zs4 (zs0))))) rfl rfl rfl hz_yX2_far_4 ⟨Nat.le_of_ble_eq_true rfl, Nat.le_of_ble_eq_true rfl⟩) ⟨fun a U g mk q => ⟨q.1, NXc_c q.2⟩, fun U hU hW => ⟨rfl, NXc_w hW hEV.1⟩⟩ rfl rfl hl.1 rfl (lv_room (Nat.le_of_ble_eq_true rfl)) dX2_faultsFrom_107 ⟨Nat.le_of_ble_eq_true rfl, Nat.le_of_ble_eq_true rfl⟩) hS (fun r42 H1 locs1 hw hk1 hS => ?_)
                  have hP := ub_keep hP hk1
                  generalize H1 = H at hP hS ⊢
                  generalize locs1 = locs at hS ⊢
                  have n43 : vp_in (8 : Int32) 14 := (iv_in (n := 14) ln_8 (by decide))
                  refine th_iastL hx hb hK hP (WL_D hD) hS hI 19 (mF 19 rfl) rfl rfl n43 (okI rfl (iv_all _)) dX2_faultsFrom_110 (fun H locs E44 pw45 hI hP hS => ?_)
                  have hKp := hKp.pw pw45 rfl
                  refine lv_aload_n hx hb dX2_faultsFrom_111 rfl (lv_at hl 4 rfl) ?_
                  refine th_getL (ci := 3) (C := RX2) (T := TX2) (N := 10) (v := .ref (ad 1)) hx hb hts hinX2 hown hK hP hI 5 (mF 5 rfl) rfl rfl 0 (Nat.le_of_ble_eq_true rfl) (hts _ (vA_in _ _ (in_14 _ (zs16 (zs16 (zs1 (zs1 (zs0)))))))) (fun _ h9 => h9) (hI.fr 5 (mF 5 rfl) rfl (Nat.le_of_ble_eq_true rfl) 1 rfl) dX2_faultsFrom_112 ?_
                  refine th_getL (ci := 1) (C := RX0) (T := TX0) (N := 11) (v := .ref (ad 19)) hx hb hts hinX0 hown hK hP hI 1 (mF 1 rfl) rfl rfl 9 (Nat.le_of_ble_eq_true rfl) (hts _ (vA_in _ _ (in_16 _ (zs4 (zs4 (zs4 (zs1 (zs1 (zs0))))))))) (fun _ h9 => h9) (hI.fr 1 (mF 1 rfl) rfl (Nat.le_of_ble_eq_true rfl) 19 rfl) dX2_faultsFrom_115 ?_
                  refine lv_bipush (v := 11) hx hb dX2_faultsFrom_118 (by decide) ?_
                  refine lv_iload hx hb dX2_faultsFrom_120 (lv_at hl 0 rfl) ?_
                  have hJ130 : ∀ (s130_0 : Int32) (H : Heap) (locs : List Loc) (ls : Array Slot), 0 ≤ s130_0.toInt ∧ s130_0.toInt ≤ 1 → va_P (dC, dI) vwCl (WL (LC cf) ad E44) H → va_S A s.heap H locs → lv_has ls 7 [(6, .int y41), (5, .int v34_5), (4, .int v10_4), (3, .int v34_3), (0, .ref (ad 5)), (1, .int a0), (2, .int a1)] → W p l e (headSpec v_faultsFrom rm_faultsFrom).room s m args below meth c H locs 0 0 Q (F0 m 130 ls [.int s130_0, .int 11, .ref (ad 19)]) := by
                    intro s130_0 H locs ls hs130_0 hP hS hl
                    have n46 : vp_in (11 : Int32) 14 := (iv_in (n := 14) ln_11 (by decide))
                    refine th_iastL hx hb hK hP (WL_D hD) hS hI 19 (mF 19 rfl) rfl rfl n46 (okI rfl (iv_w hs130_0 (by decide))) dX2_faultsFrom_130 (fun H locs E47 pw48 hI hP hS => ?_)
                    have hKp := hKp.pw pw48 rfl
                    refine lv_aload_n hx hb dX2_faultsFrom_131 rfl (lv_at hl 4 rfl) ?_
                    refine th_getL (ci := 3) (C := RX2) (T := TX2) (N := 10) (v := .ref (ad 1)) hx hb hts hinX2 hown hK hP hI 5 (mF 5 rfl) rfl rfl 0 (Nat.le_of_ble_eq_true rfl) (hts _ (vA_in _ _ (in_14 _ (zs16 (zs16 (zs1 (zs1 (zs0)))))))) (fun _ h9 => h9) (hI.fr 5 (mF 5 rfl) rfl (Nat.le_of_ble_eq_true rfl) 1 rfl) dX2_faultsFrom_132 ?_
                    refine th_getL (ci := 1) (C := RX0) (T := TX0) (N := 11) (v := .ref (ad 19)) hx hb hts hinX0 hown hK hP hI 1 (mF 1 rfl) rfl rfl 9 (Nat.le_of_ble_eq_true rfl) (hts _ (vA_in _ _ (in_16 _ (zs4 (zs4 (zs4 (zs1 (zs1 (zs0))))))))) (fun _ h9 => h9) (hI.fr 1 (mF 1 rfl) rfl (Nat.le_of_ble_eq_true rfl) 19 rfl) dX2_faultsFrom_135 ?_
                    refine lv_bipush (v := 12) hx hb dX2_faultsFrom_138 (by decide) ?_
                    refine lv_iload_n hx hb dX2_faultsFrom_140 rfl (lv_at hl 5 rfl) ?_
                    refine lv_iload_n hx hb dX2_faultsFrom_141 rfl (lv_at hl 6 rfl) ?_
                    refine lv_aload_n hx hb dX2_faultsFrom_142 rfl (lv_at hl 4 rfl) ?_
                    refine th_getL (ci := 3) (C := RX2) (T := TX2) (N := 10) (v := .ref (ad (64 * (ri + 1) + 6))) hx hb hts hinX2 hown hK hP hI 5 (mF 5 rfl) rfl rfl 6 (Nat.le_of_ble_eq_true rfl) (hts _ (vA_in _ _ (in_14 _ (zs16 (zs16 (zs4 (zs1 (zs1 (zs0))))))))) (fun _ h9 => h9) ((hKp 5 6 rfl).trans hh1) dX2_faultsFrom_143 ?_
                    have i49 : 0 ≤ (xi (E (64 * (ri + 1) + 6)) 5).toInt ∧ (xi (E (64 * (ri + 1) + 6)) 5).toInt ≤ 99 := hI0.iv (64 * (ri + 1) + 6) (mP 6 ri (by decide) hh0 (kl_le hC 2 (by decide))) (shC_p 6 ri (by decide)) (Nat.le_of_ble_eq_true rfl) (spC_p 6 ri (by decide) 5)
                    refine th_getL (ci := 6) (C := RX5) (T := TX5) (N := 12) (v := .int (xi (E (64 * (ri + 1) + 6)) 5)) hx hb hts hinX5 hown hK hP hI (64 * (ri + 1) + 6) (mP 6 ri (by decide) hh0 (kl_le hC 2 (by decide))) (shC_p 6 ri (by decide)) rfl 5 (Nat.le_of_ble_eq_true rfl) (hts _ (vA_in _ _ (in_16 _ (zs4 (zs4 (zs4 (zs1 (zs1 (zs1 (zs0)))))))))) (fun _ h9 => h9) (th_v0L hKp hI0 (64 * (ri + 1) + 6) (mP 6 ri (by decide) hh0 (kl_le hC 2 (by decide))) (shC_p 6 ri (by decide)) (Nat.le_of_ble_eq_true rfl) (spC_p 6 ri (by decide) 5) (wl_p rfl rfl (by omega))) dX2_faultsFrom_146 ?_
                    refine lv_aload_n hx hb dX2_faultsFrom_149 rfl (lv_at hl 4 rfl) ?_
                    refine th_getL (ci := 3) (C := RX2) (T := TX2) (N := 10) (v := .ref (ad (64 * (ri + 1) + 6))) hx hb hts hinX2 hown hK hP hI 5 (mF 5 rfl) rfl rfl 6 (Nat.le_of_ble_eq_true rfl) (hts _ (vA_in _ _ (in_14 _ (zs16 (zs16 (zs4 (zs1 (zs1 (zs0))))))))) (fun _ h9 => h9) ((hKp 5 6 rfl).trans hh1) dX2_faultsFrom_150 ?_
                    have i50 : 0 ≤ (xi (E (64 * (ri + 1) + 6)) 6).toInt ∧ (xi (E (64 * (ri + 1) + 6)) 6).toInt ≤ 99 := hI0.iv (64 * (ri + 1) + 6) (mP 6 ri (by decide) hh0 (kl_le hC 2 (by decide))) (shC_p 6 ri (by decide)) (Nat.le_of_ble_eq_true rfl) (spC_p 6 ri (by decide) 6)
                    refine th_getL (ci := 6) (C := RX5) (T := TX5) (N := 12) (v := .int (xi (E (64 * (ri + 1) + 6)) 6)) hx hb hts hinX5 hown hK hP hI (64 * (ri + 1) + 6) (mP 6 ri (by decide) hh0 (kl_le hC 2 (by decide))) (shC_p 6 ri (by decide)) rfl 6 (Nat.le_of_ble_eq_true rfl) (hts _ (vA_in _ _ (in_16 _ (zs16 (zs0))))) (fun _ h9 => h9) (th_v0L hKp hI0 (64 * (ri + 1) + 6) (mP 6 ri (by decide) hh0 (kl_le hC 2 (by decide))) (shC_p 6 ri (by decide)) (Nat.le_of_ble_eq_true rfl) (spC_p 6 ri (by decide) 6) (wl_p rfl rfl (by omega))) dX2_faultsFrom_153 ?_
                    refine th_pi (va_runS (As := [.int a0, .int a1, .int (xi (E (64 * (ri + 1) + 6)) 5), .int (xi (E (64 * (ri + 1) + 6)) 6)]) (rest := [.int 12, .ref (ad 19)]) ⟨hx, hb, hml, hown, hts⟩ (q_cfar l a0 a1 (xi (E (64 * (ri + 1) + 6)) 5) (xi (E (64 * (ri + 1) + 6)) 6)) (va_cwS 4 hts (gi_S (in_16 _ (zs16 (zs1 (zs1 (zs0))))) (in_16 _ (zs16 (zs1 (zs1 (zs1 (zs0)))))) (in_14 _ (zs16 (zs16 (zs0)))) (in_16 _ (zs16 (zs4 (zs0))))) rfl rfl rfl hz_yX2_far_4 ⟨Nat.le_of_ble_eq_true rfl, Nat.le_of_ble_eq_true rfl⟩) ⟨fun a U g mk q => ⟨q.1, NXc_c q.2⟩, fun U hU hW => ⟨rfl, NXc_w hW hEV.1⟩⟩ rfl rfl hl.1 rfl (lv_room (Nat.le_of_ble_eq_true rfl)) dX2_faultsFrom_156 ⟨Nat.le_of_ble_eq_true rfl, Nat.le_of_ble_eq_true rfl⟩) hS (fun r51 H1 locs1 hw hk1 hS => ?_)
                    have hP := ub_keep hP hk1
                    generalize H1 = H at hP hS ⊢
                    generalize locs1 = locs at hS ⊢
                    have n52 : vp_in (12 : Int32) 14 := (iv_in (n := 14) ln_12 (by decide))
                    refine th_iastL hx hb hK hP (WL_D hD) hS hI 19 (mF 19 rfl) rfl rfl n52 (okI rfl (iv_all _)) dX2_faultsFrom_159 (fun H locs E53 pw54 hI hP hS => ?_)
                    have hKp := hKp.pw pw54 rfl
                    refine lv_aload_n hx hb dX2_faultsFrom_160 rfl (lv_at hl 4 rfl) ?_
                    refine th_getL (ci := 3) (C := RX2) (T := TX2) (N := 10) (v := .ref (ad 1)) hx hb hts hinX2 hown hK hP hI 5 (mF 5 rfl) rfl rfl 0 (Nat.le_of_ble_eq_true rfl) (hts _ (vA_in _ _ (in_14 _ (zs16 (zs16 (zs1 (zs1 (zs0)))))))) (fun _ h9 => h9) (hI.fr 5 (mF 5 rfl) rfl (Nat.le_of_ble_eq_true rfl) 1 rfl) dX2_faultsFrom_161 ?_
                    refine th_getL (ci := 1) (C := RX0) (T := TX0) (N := 11) (v := .ref (ad 19)) hx hb hts hinX0 hown hK hP hI 1 (mF 1 rfl) rfl rfl 9 (Nat.le_of_ble_eq_true rfl) (hts _ (vA_in _ _ (in_16 _ (zs4 (zs4 (zs4 (zs1 (zs1 (zs0))))))))) (fun _ h9 => h9) (hI.fr 1 (mF 1 rfl) rfl (Nat.le_of_ble_eq_true rfl) 19 rfl) dX2_faultsFrom_164 ?_
                    refine lv_iconst (v := 3) hx hb dX2_faultsFrom_167 (by decide) ?_
                    refine lv_iload hx hb dX2_faultsFrom_168 (lv_at hl 2 rfl) ?_
                    refine lv_iload hx hb dX2_faultsFrom_170 (lv_at hl 1 rfl) ?_
                    refine lv_aload_n hx hb dX2_faultsFrom_172 rfl (lv_at hl 4 rfl) ?_
                    refine th_getL (ci := 3) (C := RX2) (T := TX2) (N := 10) (v := .ref (ad (64 * (ri + 1) + 6))) hx hb hts hinX2 hown hK hP hI 5 (mF 5 rfl) rfl rfl 6 (Nat.le_of_ble_eq_true rfl) (hts _ (vA_in _ _ (in_14 _ (zs16 (zs16 (zs4 (zs1 (zs1 (zs0))))))))) (fun _ h9 => h9) ((hKp 5 6 rfl).trans hh1) dX2_faultsFrom_173 ?_
                    refine th_getL (ci := 6) (C := RX5) (T := TX5) (N := 12) (v := .int (xi (E (64 * (ri + 1) + 6)) 5)) hx hb hts hinX5 hown hK hP hI (64 * (ri + 1) + 6) (mP 6 ri (by decide) hh0 (kl_le hC 2 (by decide))) (shC_p 6 ri (by decide)) rfl 5 (Nat.le_of_ble_eq_true rfl) (hts _ (vA_in _ _ (in_16 _ (zs4 (zs4 (zs4 (zs1 (zs1 (zs1 (zs0)))))))))) (fun _ h9 => h9) (th_v0L hKp hI0 (64 * (ri + 1) + 6) (mP 6 ri (by decide) hh0 (kl_le hC 2 (by decide))) (shC_p 6 ri (by decide)) (Nat.le_of_ble_eq_true rfl) (spC_p 6 ri (by decide) 5) (wl_p rfl rfl (by omega))) dX2_faultsFrom_176 ?_
                    refine lv_aload_n hx hb dX2_faultsFrom_179 rfl (lv_at hl 4 rfl) ?_
                    refine th_getL (ci := 3) (C := RX2) (T := TX2) (N := 10) (v := .ref (ad (64 * (ri + 1) + 6))) hx hb hts hinX2 hown hK hP hI 5 (mF 5 rfl) rfl rfl 6 (Nat.le_of_ble_eq_true rfl) (hts _ (vA_in _ _ (in_14 _ (zs16 (zs16 (zs4 (zs1 (zs1 (zs0))))))))) (fun _ h9 => h9) ((hKp 5 6 rfl).trans hh1) dX2_faultsFrom_180 ?_
                    refine th_getL (ci := 6) (C := RX5) (T := TX5) (N := 12) (v := .int (xi (E (64 * (ri + 1) + 6)) 6)) hx hb hts hinX5 hown hK hP hI (64 * (ri + 1) + 6) (mP 6 ri (by decide) hh0 (kl_le hC 2 (by decide))) (shC_p 6 ri (by decide)) rfl 6 (Nat.le_of_ble_eq_true rfl) (hts _ (vA_in _ _ (in_16 _ (zs16 (zs0))))) (fun _ h9 => h9) (th_v0L hKp hI0 (64 * (ri + 1) + 6) (mP 6 ri (by decide) hh0 (kl_le hC 2 (by decide))) (shC_p 6 ri (by decide)) (Nat.le_of_ble_eq_true rfl) (spC_p 6 ri (by decide) 6) (wl_p rfl rfl (by omega))) dX2_faultsFrom_183 ?_
                    refine th_pi (va_runS (As := [.int v10_4, .int v34_5, .int (xi (E (64 * (ri + 1) + 6)) 5), .int (xi (E (64 * (ri + 1) + 6)) 6)]) (rest := [.int 3, .ref (ad 19)]) ⟨hx, hb, hml, hown, hts⟩ (q_cfar l v10_4 v34_5 (xi (E (64 * (ri + 1) + 6)) 5) (xi (E (64 * (ri + 1) + 6)) 6)) (va_cwS 4 hts (gi_S (in_16 _ (zs16 (zs1 (zs1 (zs0))))) (in_16 _ (zs16 (zs1 (zs1 (zs1 (zs0)))))) (in_14 _ (zs16 (zs16 (zs0)))) (in_16 _ (zs16 (zs4 (zs0))))) rfl rfl rfl hz_yX2_far_4 ⟨Nat.le_of_ble_eq_true rfl, Nat.le_of_ble_eq_true rfl⟩) ⟨fun a U g mk q => ⟨q.1, NXc_c q.2⟩, fun U hU hW => ⟨rfl, NXc_w hW hEV.1⟩⟩ rfl rfl hl.1 rfl (lv_room (Nat.le_of_ble_eq_true rfl)) dX2_faultsFrom_186 ⟨Nat.le_of_ble_eq_true rfl, Nat.le_of_ble_eq_true rfl⟩) hS (fun r55 H1 locs1 hw hk1 hS => ?_)
                    have hP := ub_keep hP hk1
                    generalize H1 = H at hP hS ⊢
                    generalize locs1 = locs at hS ⊢
                    have n56 : vp_in (3 : Int32) 14 := (iv_in (n := 14) ln_3 (by decide))
                    refine th_iastL hx hb hK hP (WL_D hD) hS hI 19 (mF 19 rfl) rfl rfl n56 (okI rfl (iv_all _)) dX2_faultsFrom_189 (fun H locs E57 pw58 hI hP hS => ?_)
                    have hKp := hKp.pw pw58 rfl
                    refine lv_iload_n hx hb dX2_faultsFrom_190 rfl (lv_at hl 3 rfl) ?_
                    refine lv_aload_n hx hb dX2_faultsFrom_191 rfl (lv_at hl 4 rfl) ?_
                    refine th_iL (va_runV (As := []) (rest := [.int v34_3]) ⟨hx, hb, hml, hown, hts⟩ (q_faultsOnTacks l dC dI cT cf hC ad E57 H.size ri hI (by omega) (by exact (hKp 5 6 rfl).trans hh1) (by (try rw [hKp.ei 5 7 rfl]); omega)) (cwV 0 hts (gi_V (in_16 _ (zs16 (zs4 (zs1 (zs0))))) (in_16 _ (zs16 (zs4 (zs1 (zs1 (zs0)))))) (in_16 _ (zs16 (zs4 (zs1 (zs1 (zs1 (zs0))))))) (in_14 _ (zs16 (zs16 (zs0)))) (in_16 _ (zs16 (zs4 (zs4 (zs0)))))) rfl rfl rfl ⟨rfl, hz_yX2_faultsOnTacks_0⟩ ⟨Nat.le_of_ble_eq_true rfl, Nat.le_of_ble_eq_true rfl⟩) ⟨HWL_bl, va_recv hK hP (ci := 3) (q0 := posL 5 (LC cf)) rfl (hI.ob 5 (mF 5 rfl) rfl), (HWL_wi hP hK (WL_D hD) hS hA hEV)⟩ rfl rfl hl.1 rfl (lv_room (Nat.le_of_ble_eq_true rfl)) dX2_faultsFrom_192 ⟨Nat.le_of_ble_eq_true rfl, Nat.le_of_ble_eq_true rfl⟩) (WL_D hD) hS hA (fun r59 E60 H locs hw hP hS => ?_)
                    obtain ⟨hI, kq61, hw⟩ := hw
                    have hKb := hKp
                    have hKp := hKp.tr kq61 (wl_sub rfl rfl)
                    refine lv_ior hx hb dX2_faultsFrom_195 ?_
                    refine lv_topi (fun y62 ey62 => ?_)
                    refine lv_istore_n (lv' := [(3, .int y62), (6, .int y41), (5, .int v34_5), (4, .int v10_4), (0, .ref (ad 5)), (1, .int a0), (2, .int a1)]) hx hb dX2_faultsFrom_196 rfl hl (by decide) rfl (fun ls hl => ?_)
                    obtain ⟨y63, ey63⟩ : ∃ y : Int32, y = v34_5 + (1 : Int32) := ⟨_, rfl⟩
                    obtain ⟨ty63, iy63⟩ := ti_add (e := 1) (f := 100) i23 ln_1 ey63 (by decide)
                    have ty63 : y63.toInt = v34_5.toInt + 1 := ty63
                    have iy63 : 1 ≤ y63.toInt ∧ y63.toInt ≤ 100 := iy63
                    refine lv_iinc (v := y63) (lv' := [(5, .int y63), (3, .int y62), (6, .int y41), (4, .int v10_4), (0, .ref (ad 5)), (1, .int a0), (2, .int a1)]) hx hb dX2_faultsFrom_197 hl (k := 2) rfl (by rw [ey63]; rfl) (by decide) rfl (fun ls hl => ?_)
                    refine lv_goto (tgt := 34) hx hb dX2_faultsFrom_200 (by decide) ?_
                    exact ih34 y63 y62 E60 _ _ _ (iv_w iy63 (by decide)) (by first | exact ms_su hx34_0 ty63 (by decide) | omega) hI hKp hP hS (lv_sub hl [0, 3, 1, 4, 5, 6] rfl)
                  refine lv_if_le (tgt := 129) hx hb dX2_faultsFrom_122 (by decide) (fun c64 => ?_) (fun c64 => ?_)
                  · --122 taken
                    have t65 : y41.toInt ≤ 0 := ti_le c64
                    have i66 : -198 ≤ y41.toInt ∧ y41.toInt ≤ 0 := iv_le_l t65 iy41 (il_ 0) (by decide)
                    refine lv_iconst (v := 0) hx hb dX2_faultsFrom_129 (by decide) ?_
                    exact hJ130 (0 : Int32) _ _ _ (iv_w ln_0 (by decide)) hP hS (lv_sub hl [0, 1, 2, 3, 4, 5, 6] rfl)
                  · --122 not
                    have t67 : (0 : Int) < y41.toInt := ti_nle c64
                    have i68 : 1 ≤ y41.toInt ∧ y41.toInt ≤ 198 := iv_lt_r t67 (il_ 0) iy41 (by decide)
                    refine lv_iconst (v := 1) hx hb dX2_faultsFrom_125 (by decide) ?_
                    refine lv_goto (tgt := 130) hx hb dX2_faultsFrom_126 (by decide) ?_
                    exact hJ130 (1 : Int32) _ _ _ (iv_w ln_1 (by decide)) hP hS (lv_sub hl [0, 1, 2, 3, 4, 5, 6] rfl)
          exact hL34 (101) y14 v10_3 E10_ _ _ _ (iv_w iy14 (by decide)) (by have h9 := iy14; first | exact ms_bu h9.1 (by decide) | omega) hI hKp hP hS (lv_sub hl [0, 1, 2, 3, 4, 5] rfl)
  exact hL10 (101) y1 (0 : Int32) E _ _ _ (iv_w iy1 (by decide)) (by have h9 := iy1; first | exact ms_bu h9.1 (by decide) | omega) hI hKp hP hS (lv_sub hl [0, 1, 2, 3, 4] rfl)
def v_find : List Cond := .code yX2_find cX2_find 7 (some .int) :: vA
abbrev rm_find : Room := { frames := 6, cells := 0, slots := 0, locals := 240 }
def w_find : Nat → Nat → Bool := wl [19, 20, 38, 39, 40, 41, 42] [(5, 6), (5, 7), (5, 8), (5, 9)]
set_option maxHeartbeats 4000000 in
set_option maxRecDepth 100000 in
theorem q_find (l : Launch) (dC : Nat → ClassId) (dI : Nat → Nat → Nat) (cT : Nat → ClassId) (cf : Nat → Nat) (hC : CF cf) (ad : Nat → Nat) (E : Nat → va_E) (sz : Nat) (a0 : Int32) (a1 : Int32) (i : Nat) (hI0 : IXL cT (shC cf) (spC cf) (LC cf) ad E) (hh0 : i < cf 5) (hh1 : 0 ≤ a1.toInt ∧ a1.toInt ≤ 400) : Met l yX2_find v_find rm_find (va_Pc [.ref (ad 5), .ref (ad (64 * (i + 1) + 14)), .int a0, .int a1] (HWL dC dI (TYC cT) cf ad E sz)) (va_Qi (S := Nat → va_E) (fun r u => IXL cT (shC cf) (spC cf) (LC cf) ad u ∧ Kp w_find E u ∧ ((-1 ≤ r.toInt ∧ r.toInt ≤ 2))) (HBL dC dI (LC cf) ad) (va_A (WL (LC cf) ad E) sz)) 0 0 (va_A (WL (LC cf) ad E) sz) := by
  obtain ⟨⟨hc0, hc1, hc2, hc3, hc4, hc5⟩, hcr⟩ := id hC
  refine Met.ofW (cc := cX2_find) (maxL := 7) (ret := (some .int)) (by decide) rfl ?_
  intro p e s m args below meth c s₁ B hml hv
  obtain ⟨hargs, hsz, hP, hK, hD0, hEV⟩ := hv
  subst hsz
  have hx := B.exec
  have hb := B.bytes
  have hr := B.returns
  have hts := atoms_spec (ws := v_find) B.pre
  have hown : s.vm.findClass RX2 = some m.cls := findClass_of_methodNamed B.named
  have hlocks := B.notSynchronized
  have hinX0 : ∀ w ∈ u_ws RX0 TX0 11, w ∈ v_find := fun w h => vA_in _ w (in_X0 w h)
  have hinX2 : ∀ w ∈ u_ws RX2 TX2 10, w ∈ v_find := fun w h => vA_in _ w (in_X2 w h)
  have hinX4 : ∀ w ∈ u_ws RX4 TX4 10, w ∈ v_find := fun w h => vA_in _ w (in_X4 w h)
  have hinX5 : ∀ w ∈ u_ws RX5 TX5 12, w ∈ v_find := fun w h => vA_in _ w (in_X5 w h)
  generalize hAe : va_A (WL (LC cf) ad E) s.heap.size = A at hEV ⊢
  have hA : ∀ q : Nat, s.heap.size ≤ q → A q := fun q h => by rw [← hAe]; exact Or.inr h
  have hD : va_D A (WL (LC cf) ad E) := by rw [← hAe]; exact hD0.self
  have hS : va_S A s.heap s.heap [] := va_S.rf
  have hI := hI0
  have hKp : Kp w_find E E := Kp.rf
  have hl := lv_entry ([.ref (ad 5), .ref (ad (64 * (i + 1) + 14)), .int a0, .int a1]) (n := 7) (Nat.le_of_ble_eq_true rfl)
  obtain ⟨Q, hQ⟩ : ∃ Q, Q = MQ below (va_Qi (S := Nat → va_E) (fun r u => IXL cT (shC cf) (spC cf) (LC cf) ad u ∧ Kp w_find E u ∧ ((-1 ≤ r.toInt ∧ r.toInt ≤ 2))) (HBL dC dI (LC cf) ad) (A)) args s 0 0 (A) := ⟨_, rfl⟩
  rw [← hQ, show entryFrame m args 7 = _ from (congrArg (fun z => entryFrame m z 7) hargs).trans (lg_entry_eq _ _ _)]
  generalize (lg_sl ([.ref (ad 5), .ref (ad (64 * (i + 1) + 14)), .int a0, .int a1]) ++ List.replicate (7 - (lg_sl ([.ref (ad 5), .ref (ad (64 * (i + 1) + 14)), .int a0, .int a1])).length) Slot.unset).toArray = ls at hl ⊢
  have hl : lv_has ls 7 [(0, .ref (ad 5)), (1, .ref (ad (64 * (i + 1) + 14))), (2, .int a0), (3, .int a1)] := hl
  refine lv_aload_n hx hb dX2_find_0 rfl (lv_at hl 0 rfl) ?_
  refine lv_aload_n hx hb dX2_find_1 rfl (lv_at hl 1 rfl) ?_
  refine lv_iconst (v := 0) hx hb dX2_find_2 (by decide) ?_
  refine lv_iload_n hx hb dX2_find_3 rfl (lv_at hl 3 rfl) ?_
  have z0 := ln_0
  refine th_iL (va_runV (As := [.ref (ad (64 * (i + 1) + 14)), .int 0, .int a1]) (rest := []) ⟨hx, hb, hml, hown, hts⟩ (q_statesOf l dC dI cT cf hC ad E s.heap.size (0 : Int32) a1 i hI (by omega) (iv_w ln_0 (by decide)) hh1) (cwV 3 hts (gi_V (in_15 _ (zs4 (zs1 (zs1 (zs0))))) (in_15 _ (zs4 (zs1 (zs1 (zs1 (zs0)))))) (in_15 _ (zs4 (zs4 (zs0)))) (in_14 _ (zs16 (zs16 (zs0)))) (in_15 _ (zs4 (zs4 (zs1 (zs0)))))) rfl rfl rfl ⟨rfl, hz_yX2_statesOf_3⟩ ⟨Nat.le_of_ble_eq_true rfl, Nat.le_of_ble_eq_true rfl⟩) ⟨HWL_bl, va_recv hK hP (ci := 3) (q0 := posL 5 (LC cf)) rfl (hI.ob 5 (mF 5 rfl) rfl), (HWL_wi hP hK (WL_D hD) hS hA hEV)⟩ rfl rfl hl.1 rfl (lv_room (Nat.le_of_ble_eq_true rfl)) dX2_find_4 ⟨Nat.le_of_ble_eq_true rfl, Nat.le_of_ble_eq_true rfl⟩) (WL_D hD) hS hA (fun r1 E2 H locs hw hP hS => ?_)
  obtain ⟨hI, kq3, hw⟩ := hw
  have hKb := hKp
  have hKp := hKp.tr kq3 (wl_sub rfl rfl)
  refine lv_if_eq (tgt := 20) hx hb dX2_find_7 (by decide) (fun c4 => ?_) (fun c4 => ?_)
  · --7 taken
    have t5 : r1.toInt = 0 := ti_eq c4
    have i6 : 0 ≤ r1.toInt ∧ r1.toInt ≤ 0 := iv_eqi t5 (iv_all _) (il_ 0) (by decide)
    refine lv_iconst (v := -1) hx hb dX2_find_20 (by decide) ?_
    rw [hQ]
    exact W.iret (v := (-1)) hx hb hr (fun t ht hW => ⟨⟨(-1), E2, rfl, ⟨hI, hKp, (iv_w ln_m1 (by decide))⟩, by show va_P (dC, dI) vwCl (WL (LC cf) ad E2) t.heap; rw [ht]; exact hP⟩, hS.F ht⟩) hS.2.2 dX2_find_21
  · --7 not
    have t7 : ¬ r1.toInt = 0 := ti_ne c4
    refine lv_aload_n hx hb dX2_find_10 rfl (lv_at hl 0 rfl) ?_
    refine lv_aload_n hx hb dX2_find_11 rfl (lv_at hl 1 rfl) ?_
    refine lv_iconst (v := 1) hx hb dX2_find_12 (by decide) ?_
    refine lv_iload_n hx hb dX2_find_13 rfl (lv_at hl 3 rfl) ?_
    have z1 := ln_1
    refine th_iL (va_runV (As := [.ref (ad (64 * (i + 1) + 14)), .int 1, .int a1]) (rest := []) ⟨hx, hb, hml, hown, hts⟩ (q_statesOf l dC dI cT cf hC ad E2 H.size (1 : Int32) a1 i hI (by omega) (iv_w ln_1 (by decide)) hh1) (cwV 3 hts (gi_V (in_15 _ (zs4 (zs1 (zs1 (zs0))))) (in_15 _ (zs4 (zs1 (zs1 (zs1 (zs0)))))) (in_15 _ (zs4 (zs4 (zs0)))) (in_14 _ (zs16 (zs16 (zs0)))) (in_15 _ (zs4 (zs4 (zs1 (zs0)))))) rfl rfl rfl ⟨rfl, hz_yX2_statesOf_3⟩ ⟨Nat.le_of_ble_eq_true rfl, Nat.le_of_ble_eq_true rfl⟩) ⟨HWL_bl, va_recv hK hP (ci := 3) (q0 := posL 5 (LC cf)) rfl (hI.ob 5 (mF 5 rfl) rfl), (HWL_wi hP hK (WL_D hD) hS hA hEV)⟩ rfl rfl hl.1 rfl (lv_room (Nat.le_of_ble_eq_true rfl)) dX2_find_14 ⟨Nat.le_of_ble_eq_true rfl, Nat.le_of_ble_eq_true rfl⟩) (WL_D hD) hS hA (fun r8 E9 H locs hw hP hS => ?_)
    obtain ⟨hI, kq10, hw⟩ := hw
    have hKb := hKp
    have hKp := hKp.tr kq10 (wl_sub rfl rfl)
    refine lv_if_ne (tgt := 22) hx hb dX2_find_17 (by decide) (fun c11 => ?_) (fun c11 => ?_)
    · --17 taken
      have t12 : ¬ r8.toInt = 0 := ti_ne c11
      refine lv_aload_n hx hb dX2_find_22 rfl (lv_at hl 0 rfl) ?_
      refine lv_aload_n hx hb dX2_find_23 rfl (lv_at hl 0 rfl) ?_
      refine th_getL (ci := 3) (C := RX2) (T := TX2) (N := 10) (v := .ref (ad 1)) hx hb hts hinX2 hown hK hP hI 5 (mF 5 rfl) rfl rfl 0 (Nat.le_of_ble_eq_true rfl) (hts _ (vA_in _ _ (in_14 _ (zs16 (zs16 (zs1 (zs1 (zs0)))))))) (fun _ h9 => h9) (hI.fr 5 (mF 5 rfl) rfl (Nat.le_of_ble_eq_true rfl) 1 rfl) dX2_find_24 ?_
      refine th_getL (ci := 1) (C := RX0) (T := TX0) (N := 11) (v := .ref (ad 9)) hx hb hts hinX0 hown hK hP hI 1 (mF 1 rfl) rfl rfl 5 (Nat.le_of_ble_eq_true rfl) (hts _ (vA_in _ _ (in_14 _ (zs16 (zs16 (zs1 (zs1 (zs1 (zs0))))))))) (fun _ h9 => h9) (hI.fr 1 (mF 1 rfl) rfl (Nat.le_of_ble_eq_true rfl) 9 rfl) dX2_find_27 ?_
      refine lv_aload_n hx hb dX2_find_30 rfl (lv_at hl 1 rfl) ?_
      have j14 : 0 ≤ (xi (E (64 * (i + 1) + 14)) 0).toInt ∧ (xi (E (64 * (i + 1) + 14)) 0).toInt ≤ ((cf 2 : Nat) : Int) - 1 := hI0.iv (64 * (i + 1) + 14) (mP 14 i (by decide) hh0 (kl_le hC 5 (by decide))) (shC_p 14 i (by decide)) (Nat.le_of_ble_eq_true rfl) (spC_p 14 i (by decide) 0)
      have i13 : 0 ≤ (xi (E (64 * (i + 1) + 14)) 0).toInt ∧ (xi (E (64 * (i + 1) + 14)) 0).toInt ≤ 19 := by omega
      refine th_getL (ci := 5) (C := RX4) (T := TX4) (N := 10) (v := .int (xi (E (64 * (i + 1) + 14)) 0)) hx hb hts hinX4 hown hK hP hI (64 * (i + 1) + 14) (mP 14 i (by decide) hh0 (kl_le hC 5 (by decide))) (shC_p 14 i (by decide)) rfl 0 (Nat.le_of_ble_eq_true rfl) (hts _ (vA_in _ _ (in_14 _ (zs16 (zs16 (zs4 (zs0))))))) (fun _ h9 => h9) (th_v0L hKp hI0 (64 * (i + 1) + 14) (mP 14 i (by decide) hh0 (kl_le hC 5 (by decide))) (shC_p 14 i (by decide)) (Nat.le_of_ble_eq_true rfl) (spC_p 14 i (by decide) 0) (wl_p rfl rfl (by omega))) dX2_find_31 ?_
      refine th_rrL (va_runV (As := [.int (xi (E (64 * (i + 1) + 14)) 0)]) (rest := [.ref (ad 5)]) ⟨hx, hb, hml, hown, hts⟩ (q_get2 l dC dI cT cf hC ad E9 H.size (xi (E (64 * (i + 1) + 14)) 0) hI (by omega)) (cwV 1 hts (gi_V (in_15 _ (zs16 (zs4 (zs1 (zs0))))) (in_4 _ (zs16 (zs16 (zs4 (zs1 (zs1 (zs0))))))) (in_4 _ (zs16 (zs16 (zs4 (zs1 (zs1 (zs1 (zs0)))))))) (in_3 _ (zs16 (zs1 (zs1 (zs0))))) (in_3 _ (zs16 (zs16 (zs4 (zs1 (zs1 (zs1 (zs0))))))))) rfl rfl rfl ⟨rfl, hz_yJx4a65c_get_915e3_1⟩ ⟨Nat.le_of_ble_eq_true rfl, Nat.le_of_ble_eq_true rfl⟩) ⟨HWL_bl, va_recv hK hP (ci := 0) (q0 := posL 9 (LC cf)) rfl (hI.ob 9 (mF 9 rfl) rfl), (HWL_wi hP hK (WL_D hD) hS hA hEV)⟩ rfl rfl hl.1 rfl (lv_room (Nat.le_of_ble_eq_true rfl)) dX2_find_34 ⟨Nat.le_of_ble_eq_true rfl, Nat.le_of_ble_eq_true rfl⟩) hS hP (fun r15 H locs hw hP hS => ?_)
      obtain rfl := hw
      have lv16 : (xi (E (64 * (i + 1) + 14)) 0).toNatClampNeg < cf 2 := by rw [tn_]; omega
      refine va_castS (cC := dC 6) hx hb hown (hts _ (vA_in _ _ (in_14 _ (zs16 (zs16 (zs4 (zs1 (zs0)))))))) (hK.1 6 _ rfl).2 (va_recv hK hP (ci := 6) (q0 := posL (64 * ((xi (E (64 * (i + 1) + 14)) 0).toNatClampNeg + 1) + 6) (LC cf)) rfl (hI.ob (64 * ((xi (E (64 * (i + 1) + 14)) 0).toNatClampNeg + 1) + 6) (mP 6 ((xi (E (64 * (i + 1) + 14)) 0).toNatClampNeg) (by decide) lv16 (kl_le hC 2 (by decide))) (shC_p 6 ((xi (E (64 * (i + 1) + 14)) 0).toNatClampNeg) (by decide)))) dX2_find_37 ?_
      refine th_putL (ci := 3) (C := RX2) (T := TX2) (N := 10) (v := .ref (ad (64 * ((xi (E (64 * (i + 1) + 14)) 0).toNatClampNeg + 1) + 6))) (ty := (.object "UnlikeBoats$Race")) hx hb hts hinX2 tyX2 tyX2_ok nmX2 hown hK hP (WL_D hD) hS hI 5 (mF 5 rfl) rfl rfl 6 (Nat.le_of_ble_eq_true rfl) (hts _ (vA_in _ _ (in_14 _ (zs16 (zs16 (zs4 (zs1 (zs1 (zs0))))))))) (fun _ h9 => h9) rfl (by decide +kernel) rfl rfl trivial dX2_find_40 (fun H locs E17 pw18 hI hP hS => ?_)
      have hKp := hKp.pw pw18 rfl
      refine lv_aload_n hx hb dX2_find_43 rfl (lv_at hl 0 rfl) ?_
      refine lv_aload_n hx hb dX2_find_44 rfl (lv_at hl 0 rfl) ?_
      refine th_getL (ci := 3) (C := RX2) (T := TX2) (N := 10) (v := .ref (ad 1)) hx hb hts hinX2 hown hK hP hI 5 (mF 5 rfl) rfl rfl 0 (Nat.le_of_ble_eq_true rfl) (hts _ (vA_in _ _ (in_14 _ (zs16 (zs16 (zs1 (zs1 (zs0)))))))) (fun _ h9 => h9) (hI.fr 5 (mF 5 rfl) rfl (Nat.le_of_ble_eq_true rfl) 1 rfl) dX2_find_45 ?_
      refine lv_aload_n hx hb dX2_find_48 rfl (lv_at hl 0 rfl) ?_
      refine th_getL (ci := 3) (C := RX2) (T := TX2) (N := 10) (v := .ref (ad (64 * ((xi (E (64 * (i + 1) + 14)) 0).toNatClampNeg + 1) + 6))) hx hb hts hinX2 hown hK hP hI 5 (mF 5 rfl) rfl rfl 6 (Nat.le_of_ble_eq_true rfl) (hts _ (vA_in _ _ (in_14 _ (zs16 (zs16 (zs4 (zs1 (zs1 (zs0))))))))) (fun _ h9 => h9) pw18.1 dX2_find_49 ?_
      have i19 : 0 ≤ (xi (E (64 * ((xi (E (64 * (i + 1) + 14)) 0).toNatClampNeg + 1) + 6)) 1).toInt ∧ (xi (E (64 * ((xi (E (64 * (i + 1) + 14)) 0).toNatClampNeg + 1) + 6)) 1).toInt ≤ 400 := hI0.iv (64 * ((xi (E (64 * (i + 1) + 14)) 0).toNatClampNeg + 1) + 6) (mP 6 ((xi (E (64 * (i + 1) + 14)) 0).toNatClampNeg) (by decide) lv16 (kl_le hC 2 (by decide))) (shC_p 6 ((xi (E (64 * (i + 1) + 14)) 0).toNatClampNeg) (by decide)) (Nat.le_of_ble_eq_true rfl) (spC_p 6 ((xi (E (64 * (i + 1) + 14)) 0).toNatClampNeg) (by decide) 1)
      refine th_getL (ci := 6) (C := RX5) (T := TX5) (N := 12) (v := .int (xi (E (64 * ((xi (E (64 * (i + 1) + 14)) 0).toNatClampNeg + 1) + 6)) 1)) hx hb hts hinX5 hown hK hP hI (64 * ((xi (E (64 * (i + 1) + 14)) 0).toNatClampNeg + 1) + 6) (mP 6 ((xi (E (64 * (i + 1) + 14)) 0).toNatClampNeg) (by decide) lv16 (kl_le hC 2 (by decide))) (shC_p 6 ((xi (E (64 * (i + 1) + 14)) 0).toNatClampNeg) (by decide)) rfl 1 (Nat.le_of_ble_eq_true rfl) (hts _ (vA_in _ _ (in_14 _ (zs16 (zs16 (zs4 (zs1 (zs1 (zs1 (zs0)))))))))) (fun _ h9 => h9) (th_v0L hKp hI0 (64 * ((xi (E (64 * (i + 1) + 14)) 0).toNatClampNeg + 1) + 6) (mP 6 ((xi (E (64 * (i + 1) + 14)) 0).toNatClampNeg) (by decide) lv16 (kl_le hC 2 (by decide))) (shC_p 6 ((xi (E (64 * (i + 1) + 14)) 0).toNatClampNeg) (by decide)) (Nat.le_of_ble_eq_true rfl) (spC_p 6 ((xi (E (64 * (i + 1) + 14)) 0).toNatClampNeg) (by decide) 1) (wl_p rfl rfl (by omega))) dX2_find_52 ?_
      refine lv_iload_n hx hb dX2_find_55 rfl (lv_at hl 3 rfl) ?_
      refine th_riL (va_runV (As := [.int (xi (E (64 * ((xi (E (64 * (i + 1) + 14)) 0).toNatClampNeg + 1) + 6)) 1), .int a1]) (rest := [.ref (ad 5)]) ⟨hx, hb, hml, hown, hts⟩ (q_rulesOnC l dC dI cT cf hC ad E17 H.size (xi (E (64 * ((xi (E (64 * (i + 1) + 14)) 0).toNatClampNeg + 1) + 6)) 1) a1 hI) (cwV 2 hts (gi_V (in_15 _ (zs16 (zs16 (zs4 (zs1 (zs1 (zs1 (zs0)))))))) (in_6 _ (zs16 (zs4 (zs4 (zs4 (zs0)))))) (in_6 _ (zs16 (zs4 (zs4 (zs4 (zs1 (zs0))))))) (in_5 _ (zs4 (zs1 (zs1 (zs0))))) (in_6 _ (zs16 (zs4 (zs4 (zs4 (zs1 (zs1 (zs0))))))))) rfl rfl rfl ⟨rfl, hz_yX0_rulesOn_2⟩ ⟨Nat.le_of_ble_eq_true rfl, Nat.le_of_ble_eq_true rfl⟩) ⟨HWL_bl, va_recv hK hP (ci := 1) (q0 := posL 1 (LC cf)) rfl (hI.ob 1 (mF 1 rfl) rfl), (HWL_wi hP hK (WL_D hD) hS hA hEV)⟩ rfl rfl hl.1 rfl (lv_room (Nat.le_of_ble_eq_true rfl)) dX2_find_56 ⟨Nat.le_of_ble_eq_true rfl, Nat.le_of_ble_eq_true rfl⟩) hS hP (fun r20 H locs hw hP hS => ?_)
      obtain ⟨f21, f22⟩ := hw
      refine th_putL (ci := 3) (C := RX2) (T := TX2) (N := 10) (v := .int r20) (ty := .int) hx hb hts hinX2 tyX2 tyX2_ok nmX2 hown hK hP (WL_D hD) hS hI 5 (mF 5 rfl) rfl rfl 7 (Nat.le_of_ble_eq_true rfl) (hts _ (vA_in _ _ (in_15 _ zs0))) (fun _ h9 => h9) rfl (by decide +kernel) rfl rfl (okI rfl f21) dX2_find_59 (fun H locs E23 pw24 hI hP hS => ?_)
      have hKp := hKp.pw pw24 rfl
      refine lv_aload_n hx hb dX2_find_62 rfl (lv_at hl 0 rfl) ?_
      refine lv_iload_n hx hb dX2_find_63 rfl (lv_at hl 2 rfl) ?_
      have hJ74 : ∀ (s74_0 : Int32) (H : Heap) (locs : List Loc) (ls : Array Slot), 97 ≤ s74_0.toInt ∧ s74_0.toInt ≤ 98 → va_P (dC, dI) vwCl (WL (LC cf) ad E23) H → va_S A s.heap H locs → lv_has ls 7 [(0, .ref (ad 5)), (1, .ref (ad (64 * (i + 1) + 14))), (2, .int a0), (3, .int a1)] → W p l e (headSpec v_find rm_find).room s m args below meth c H locs 0 0 Q (F0 m 74 ls [.int s74_0, .ref (ad 5)]) := by
        intro s74_0 H locs ls hs74_0 hP hS hl
        refine th_putL (ci := 3) (C := RX2) (T := TX2) (N := 10) (v := .int s74_0) (ty := .char) hx hb hts hinX2 tyX2 tyX2_ok nmX2 hown hK hP (WL_D hD) hS hI 5 (mF 5 rfl) rfl rfl 8 (Nat.le_of_ble_eq_true rfl) (hts _ (vA_in _ _ (in_15 _ (zs1 (zs0))))) (fun _ h9 => h9) rfl (by decide +kernel) (nar_c1 hs74_0) (nar_c2 hs74_0) (okI rfl (iv_w hs74_0 (by decide))) dX2_find_74 (fun H locs E25 pw26 hI hP hS => ?_)
        have hKp := hKp.pw pw26 rfl
        refine lv_aload_n hx hb dX2_find_77 rfl (lv_at hl 0 rfl) ?_
        refine th_vL (va_runV (As := []) (rest := []) ⟨hx, hb, hml, hown, hts⟩ (q_gatherTacks l dC dI cT cf hC ad E25 H.size ((xi (E (64 * (i + 1) + 14)) 0).toNatClampNeg) hI (by omega) (by exact ((pw26.2 5 6 (fun q9 => absurd q9.2 (Nat.ne_of_beq_eq_false rfl))).trans ((pw24.2 5 6 (fun q9 => absurd q9.2 (Nat.ne_of_beq_eq_false rfl))).trans pw18.1)))) (cwV 0 hts (gi_V (in_16 _ zs0) (in_16 _ (zs1 (zs0))) (in_16 _ (zs1 (zs1 (zs0)))) (in_14 _ (zs16 (zs16 (zs0)))) (in_16 _ (zs1 (zs1 (zs1 (zs0)))))) rfl rfl rfl ⟨rfl, hz_yX2_gatherTacks_0⟩ ⟨Nat.le_of_ble_eq_true rfl, Nat.le_of_ble_eq_true rfl⟩) ⟨HWL_bl, va_recv hK hP (ci := 3) (q0 := posL 5 (LC cf)) rfl (hI.ob 5 (mF 5 rfl) rfl), (HWL_wi hP hK (WL_D hD) hS hA hEV)⟩ rfl rfl hl.1 rfl (lv_room (Nat.le_of_ble_eq_true rfl)) dX2_find_78 ⟨Nat.le_of_ble_eq_true rfl, Nat.le_of_ble_eq_true rfl⟩) (WL_D hD) hS hA (fun E28 H locs hw hP hS => ?_)
        obtain ⟨hI, kq29, hw⟩ := hw
        have hKb := hKp
        have hKp := hKp.tr kq29 (wl_sub rfl rfl)
        refine lv_iconst (v := 0) hx hb dX2_find_81 (by decide) ?_
        refine lv_istore (lv' := [(4, .int 0), (0, .ref (ad 5)), (1, .ref (ad (64 * (i + 1) + 14))), (2, .int a0), (3, .int a1)]) hx hb dX2_find_82 hl (by decide) rfl (fun ls hl => ?_)
        refine lv_aload_n hx hb dX2_find_84 rfl (lv_at hl 1 rfl) ?_
        refine th_getL (ci := 3) (C := RX2) (T := TX2) (N := 10) (v := .ref (ad 38)) hx hb hts hinX2 hown hK hP hI 5 (mF 5 rfl) rfl rfl 1 (Nat.le_of_ble_eq_true rfl) (hts _ (vA_in _ _ (in_15 _ (zs1 (zs1 (zs0)))))) (fun _ h9 => h9) (hI.fr 5 (mF 5 rfl) rfl (Nat.le_of_ble_eq_true rfl) 38 rfl) dX2_find_85 ?_
        refine lv_iconst (v := 0) hx hb dX2_find_88 (by decide) ?_
        have n31 : vp_in (0 : Int32) 2 := (iv_in (n := 2) ln_0 (by decide))
        refine th_ialdL hx hb hK hP hI 38 (mF 38 rfl) rfl rfl n31 dX2_find_89 (fun y30 ey30 => ?_)
        have iy30 : 0 ≤ y30.toInt ∧ y30.toInt ≤ 99 := hI.el 38 (mF 38 rfl) rfl n31 (fun _ => rfl) ey30
        refine lv_istore (lv' := [(5, .int y30), (4, .int 0), (0, .ref (ad 5)), (1, .ref (ad (64 * (i + 1) + 14))), (2, .int a0), (3, .int a1)]) hx hb dX2_find_90 hl (by decide) rfl (fun ls hl => ?_)
        have hL92 : ∀ d : Nat, ∀ (v92_5 : Int32) (v92_4 : Int32) (E92_ : Nat → va_E) (H : Heap) (locs : List Loc) (ls : Array Slot), 0 ≤ v92_5.toInt ∧ v92_5.toInt ≤ 100 → 100 - v92_5.toInt < (d : Int) → IXL cT (shC cf) (spC cf) (LC cf) ad E92_ → Kp w_find E E92_ → xv (E92_ 5) 6 = .ref (ad (64 * ((xi (E (64 * (i + 1) + 14)) 0).toNatClampNeg + 1) + 6)) → xv (E92_ 5) 7 = .int r20 → xv (E92_ 5) 8 = .int s74_0 → va_P (dC, dI) vwCl (WL (LC cf) ad E92_) H → va_S A s.heap H locs → lv_has ls 7 [(5, .int v92_5), (4, .int v92_4), (0, .ref (ad 5)), (1, .ref (ad (64 * (i + 1) + 14))), (2, .int a0), (3, .int a1)] → W p l e (headSpec v_find rm_find).room s m args below meth c H locs 0 0 Q (F0 m 92 ls []) := by
          intro d
          induction d with
          | zero =>
            intro v92_5 v92_4 E92_ H locs ls hv92_5 hx92_0 hI hKp hs92_5_6 hs92_5_7 hs92_5_8 hP hS hl
            exact absurd hx92_0 (by first | exact ms_zu hv92_5.2 | omega)
          | succ d ih92 =>
            intro v92_5 v92_4 E92_ H locs ls hv92_5 hx92_0 hI hKp hs92_5_6 hs92_5_7 hs92_5_8 hP hS hl
            refine lv_iload hx hb dX2_find_92 (lv_at hl 0 rfl) ?_
            refine lv_aload_n hx hb dX2_find_94 rfl (lv_at hl 2 rfl) ?_
            refine th_getL (ci := 3) (C := RX2) (T := TX2) (N := 10) (v := .ref (ad 39)) hx hb hts hinX2 hown hK hP hI 5 (mF 5 rfl) rfl rfl 2 (Nat.le_of_ble_eq_true rfl) (hts _ (vA_in _ _ (in_15 _ (zs1 (zs1 (zs1 (zs0))))))) (fun _ h9 => h9) (hI.fr 5 (mF 5 rfl) rfl (Nat.le_of_ble_eq_true rfl) 39 rfl) dX2_find_95 ?_
            refine lv_iconst (v := 0) hx hb dX2_find_98 (by decide) ?_
            have n33 : vp_in (0 : Int32) 2 := (iv_in (n := 2) ln_0 (by decide))
            refine th_ialdL hx hb hK hP hI 39 (mF 39 rfl) rfl rfl n33 dX2_find_99 (fun y32 ey32 => ?_)
            have iy32 : 0 ≤ y32.toInt ∧ y32.toInt ≤ 99 := hI.el 39 (mF 39 rfl) rfl n33 (fun _ => rfl) ey32
            have hJ159 : ∀ (H : Heap) (locs : List Loc) (ls : Array Slot), va_P (dC, dI) vwCl (WL (LC cf) ad E92_) H → va_S A s.heap H locs → lv_has ls 7 [(5, .int v92_5), (4, .int v92_4), (0, .ref (ad 5)), (1, .ref (ad (64 * (i + 1) + 14))), (2, .int a0), (3, .int a1)] → W p l e (headSpec v_find rm_find).room s m args below meth c H locs 0 0 Q (F0 m 159 ls []) := by
              intro H locs ls hP hS hl
              refine lv_iload hx hb dX2_find_159 (lv_at hl 1 rfl) ?_
              refine lv_iconst (v := 3) hx hb dX2_find_161 (by decide) ?_
              refine lv_icmp_ne (tgt := 169) hx hb dX2_find_162 (by decide) (fun c34 => ?_) (fun c34 => ?_)
              · --162 taken
                have t35 : ¬ v92_4.toInt = 3 := ti_ne c34
                refine lv_iload hx hb dX2_find_169 (lv_at hl 1 rfl) ?_
                refine lv_iconst (v := 2) hx hb dX2_find_171 (by decide) ?_
                refine lv_icmp_ne (tgt := 179) hx hb dX2_find_172 (by decide) (fun c36 => ?_) (fun c36 => ?_)
                · --172 taken
                  have t37 : ¬ v92_4.toInt = 2 := ti_ne c36
                  refine lv_iconst (v := 0) hx hb dX2_find_179 (by decide) ?_
                  rw [hQ]
                  exact W.iret (v := 0) hx hb hr (fun t ht hW => ⟨⟨0, E92_, rfl, ⟨hI, hKp, (iv_w ln_0 (by decide))⟩, by show va_P (dC, dI) vwCl (WL (LC cf) ad E92_) t.heap; rw [ht]; exact hP⟩, hS.F ht⟩) hS.2.2 dX2_find_180
                · --172 not
                  have t38 : v92_4.toInt = 2 := ti_eq c36
                  have i39 : 2 ≤ v92_4.toInt ∧ v92_4.toInt ≤ 2 := iv_eqi t38 (iv_all _) (il_ 2) (by decide)
                  refine lv_iconst (v := 1) hx hb dX2_find_175 (by decide) ?_
                  refine lv_goto (tgt := 180) hx hb dX2_find_176 (by decide) ?_
                  rw [hQ]
                  exact W.iret (v := 1) hx hb hr (fun t ht hW => ⟨⟨1, E92_, rfl, ⟨hI, hKp, (iv_w ln_1 (by decide))⟩, by show va_P (dC, dI) vwCl (WL (LC cf) ad E92_) t.heap; rw [ht]; exact hP⟩, hS.F ht⟩) hS.2.2 dX2_find_180
              · --162 not
                have t40 : v92_4.toInt = 3 := ti_eq c34
                have i41 : 3 ≤ v92_4.toInt ∧ v92_4.toInt ≤ 3 := iv_eqi t40 (iv_all _) (il_ 3) (by decide)
                refine lv_iconst (v := 2) hx hb dX2_find_165 (by decide) ?_
                refine lv_goto (tgt := 180) hx hb dX2_find_166 (by decide) ?_
                rw [hQ]
                exact W.iret (v := 2) hx hb hr (fun t ht hW => ⟨⟨2, E92_, rfl, ⟨hI, hKp, (iv_w ln_2 (by decide))⟩, by show va_P (dC, dI) vwCl (WL (LC cf) ad E92_) t.heap; rw [ht]; exact hP⟩, hS.F ht⟩) hS.2.2 dX2_find_180
            refine lv_icmp_gt (tgt := 159) hx hb dX2_find_100 (by decide) (fun c42 => ?_) (fun c42 => ?_)
            · --100 taken
              have t43 : y32.toInt < v92_5.toInt := ti_lt c42
              have i44 : 1 ≤ v92_5.toInt ∧ v92_5.toInt ≤ 100 := iv_lt_r t43 iy32 hv92_5 (by decide)
              exact hJ159 _ _ _ hP hS (lv_sub hl [0, 1, 2, 3, 4, 5] rfl)
            · --100 not
              have t45 : v92_5.toInt ≤ y32.toInt := ti_nlt c42
              have i46 : 0 ≤ v92_5.toInt ∧ v92_5.toInt ≤ 99 := iv_le_l t45 hv92_5 iy32 (by decide)
              refine lv_iload hx hb dX2_find_103 (lv_at hl 1 rfl) ?_
              refine lv_iconst (v := 3) hx hb dX2_find_105 (by decide) ?_
              refine lv_icmp_eq (tgt := 159) hx hb dX2_find_106 (by decide) (fun c47 => ?_) (fun c47 => ?_)
              · --106 taken
                have t48 : v92_4.toInt = 3 := ti_eq c47
                have i49 : 3 ≤ v92_4.toInt ∧ v92_4.toInt ≤ 3 := iv_eqi t48 (iv_all _) (il_ 3) (by decide)
                exact hJ159 _ _ _ hP hS (lv_sub hl [0, 1, 2, 3, 4, 5] rfl)
              · --106 not
                have t50 : ¬ v92_4.toInt = 3 := ti_ne c47
                refine lv_aload_n hx hb dX2_find_109 rfl (lv_at hl 2 rfl) ?_
                refine th_getL (ci := 3) (C := RX2) (T := TX2) (N := 10) (v := .ref (ad 40)) hx hb hts hinX2 hown hK hP hI 5 (mF 5 rfl) rfl rfl 3 (Nat.le_of_ble_eq_true rfl) (hts _ (vA_in _ _ (in_15 _ (zs4 (zs0))))) (fun _ h9 => h9) (hI.fr 5 (mF 5 rfl) rfl (Nat.le_of_ble_eq_true rfl) 40 rfl) dX2_find_110 ?_
                refine lv_iconst (v := 0) hx hb dX2_find_113 (by decide) ?_
                have n52 : vp_in (0 : Int32) 2 := (iv_in (n := 2) ln_0 (by decide))
                refine th_ialdL hx hb hK hP hI 40 (mF 40 rfl) rfl rfl n52 dX2_find_114 (fun y51 ey51 => ?_)
                have iy51 : 0 ≤ y51.toInt ∧ y51.toInt ≤ 99 := hI.el 40 (mF 40 rfl) rfl n52 (fun _ => rfl) ey51
                refine lv_istore (lv' := [(6, .int y51), (5, .int v92_5), (4, .int v92_4), (0, .ref (ad 5)), (1, .ref (ad (64 * (i + 1) + 14))), (2, .int a0), (3, .int a1)]) hx hb dX2_find_115 hl (by decide) rfl (fun ls hl => ?_)
                have hL117 : ∀ d : Nat, ∀ (v117_6 : Int32) (v117_4 : Int32) (E117_ : Nat → va_E) (H : Heap) (locs : List Loc) (ls : Array Slot), 0 ≤ v117_6.toInt ∧ v117_6.toInt ≤ 100 → 100 - v117_6.toInt < (d : Int) → IXL cT (shC cf) (spC cf) (LC cf) ad E117_ → Kp w_find E E117_ → xv (E117_ 5) 6 = .ref (ad (64 * ((xi (E (64 * (i + 1) + 14)) 0).toNatClampNeg + 1) + 6)) → xv (E117_ 5) 7 = .int r20 → xv (E117_ 5) 8 = .int s74_0 → va_P (dC, dI) vwCl (WL (LC cf) ad E117_) H → va_S A s.heap H locs → lv_has ls 7 [(6, .int v117_6), (5, .int v92_5), (4, .int v117_4), (0, .ref (ad 5)), (1, .ref (ad (64 * (i + 1) + 14))), (2, .int a0), (3, .int a1)] → W p l e (headSpec v_find rm_find).room s m args below meth c H locs 0 0 Q (F0 m 117 ls []) := by
                  intro d
                  induction d with
                  | zero =>
                    intro v117_6 v117_4 E117_ H locs ls hv117_6 hx117_0 hI hKp hs117_5_6 hs117_5_7 hs117_5_8 hP hS hl
                    exact absurd hx117_0 (by first | exact ms_zu hv117_6.2 | omega)
                  | succ d ih117 =>
                    intro v117_6 v117_4 E117_ H locs ls hv117_6 hx117_0 hI hKp hs117_5_6 hs117_5_7 hs117_5_8 hP hS hl
                    refine lv_iload hx hb dX2_find_117 (lv_at hl 0 rfl) ?_
                    refine lv_aload_n hx hb dX2_find_119 rfl (lv_at hl 3 rfl) ?_
                    refine th_getL (ci := 3) (C := RX2) (T := TX2) (N := 10) (v := .ref (ad 41)) hx hb hts hinX2 hown hK hP hI 5 (mF 5 rfl) rfl rfl 4 (Nat.le_of_ble_eq_true rfl) (hts _ (vA_in _ _ (in_15 _ (zs4 (zs1 (zs0)))))) (fun _ h9 => h9) (hI.fr 5 (mF 5 rfl) rfl (Nat.le_of_ble_eq_true rfl) 41 rfl) dX2_find_120 ?_
                    refine lv_iconst (v := 0) hx hb dX2_find_123 (by decide) ?_
                    have n54 : vp_in (0 : Int32) 2 := (iv_in (n := 2) ln_0 (by decide))
                    refine th_ialdL hx hb hK hP hI 41 (mF 41 rfl) rfl rfl n54 dX2_find_124 (fun y53 ey53 => ?_)
                    have iy53 : 0 ≤ y53.toInt ∧ y53.toInt ≤ 99 := hI.el 41 (mF 41 rfl) rfl n54 (fun _ => rfl) ey53
                    refine lv_icmp_gt (tgt := 153) hx hb dX2_find_125 (by decide) (fun c55 => ?_) (fun c55 => ?_)
                    · --125 taken
                      have t56 : y53.toInt < v117_6.toInt := ti_lt c55
                      have i57 : 1 ≤ v117_6.toInt ∧ v117_6.toInt ≤ 100 := iv_lt_r t56 iy53 hv117_6 (by decide)
                      obtain ⟨y58, ey58⟩ : ∃ y : Int32, y = v92_5 + (1 : Int32) := ⟨_, rfl⟩
                      obtain ⟨ty58, iy58⟩ := ti_add (e := 1) (f := 100) i46 ln_1 ey58 (by decide)
                      have ty58 : y58.toInt = v92_5.toInt + 1 := ty58
                      have iy58 : 1 ≤ y58.toInt ∧ y58.toInt ≤ 100 := iy58
                      refine lv_iinc (v := y58) (lv' := [(5, .int y58), (6, .int v117_6), (4, .int v117_4), (0, .ref (ad 5)), (1, .ref (ad (64 * (i + 1) + 14))), (2, .int a0), (3, .int a1)]) hx hb dX2_find_153 hl (k := 1) rfl (by rw [ey58]; rfl) (by decide) rfl (fun ls hl => ?_)
                      refine lv_goto (tgt := 92) hx hb dX2_find_156 (by decide) ?_
                      exact ih92 y58 v117_4 E117_ _ _ _ (iv_w iy58 (by decide)) (by first | exact ms_su hx92_0 ty58 (by decide) | omega) hI hKp hs117_5_6 hs117_5_7 hs117_5_8 hP hS (lv_sub hl [0, 2, 3, 4, 5, 6] rfl)
                    · --125 not
                      have t59 : v117_6.toInt ≤ y53.toInt := ti_nlt c55
                      have i60 : 0 ≤ v117_6.toInt ∧ v117_6.toInt ≤ 99 := iv_le_l t59 hv117_6 iy53 (by decide)
                      refine lv_iload hx hb dX2_find_128 (lv_at hl 2 rfl) ?_
                      refine lv_iconst (v := 3) hx hb dX2_find_130 (by decide) ?_
                      refine lv_icmp_eq (tgt := 153) hx hb dX2_find_131 (by decide) (fun c61 => ?_) (fun c61 => ?_)
                      · --131 taken
                        have t62 : v117_4.toInt = 3 := ti_eq c61
                        have i63 : 3 ≤ v117_4.toInt ∧ v117_4.toInt ≤ 3 := iv_eqi t62 (iv_all _) (il_ 3) (by decide)
                        obtain ⟨y64, ey64⟩ : ∃ y : Int32, y = v92_5 + (1 : Int32) := ⟨_, rfl⟩
                        obtain ⟨ty64, iy64⟩ := ti_add (e := 1) (f := 100) i46 ln_1 ey64 (by decide)
                        have ty64 : y64.toInt = v92_5.toInt + 1 := ty64
                        have iy64 : 1 ≤ y64.toInt ∧ y64.toInt ≤ 100 := iy64
                        refine lv_iinc (v := y64) (lv' := [(5, .int y64), (6, .int v117_6), (4, .int v117_4), (0, .ref (ad 5)), (1, .ref (ad (64 * (i + 1) + 14))), (2, .int a0), (3, .int a1)]) hx hb dX2_find_153 hl (k := 1) rfl (by rw [ey64]; rfl) (by decide) rfl (fun ls hl => ?_)
                        refine lv_goto (tgt := 92) hx hb dX2_find_156 (by decide) ?_
                        exact ih92 y64 v117_4 E117_ _ _ _ (iv_w iy64 (by decide)) (by first | exact ms_su hx92_0 ty64 (by decide) | omega) hI hKp hs117_5_6 hs117_5_7 hs117_5_8 hP hS (lv_sub hl [0, 2, 3, 4, 5, 6] rfl)
                      · --131 not
                        have t65 : ¬ v117_4.toInt = 3 := ti_ne c61
                        refine lv_iload hx hb dX2_find_134 (lv_at hl 2 rfl) ?_
                        refine lv_aload_n hx hb dX2_find_136 rfl (lv_at hl 3 rfl) ?_
                        refine lv_iload hx hb dX2_find_137 (lv_at hl 1 rfl) ?_
                        refine lv_iload hx hb dX2_find_139 (lv_at hl 0 rfl) ?_
                        refine th_iL (va_runV (As := [.int v92_5, .int v117_6]) (rest := [.int v117_4]) ⟨hx, hb, hml, hown, hts⟩ (q_faultsFrom l dC dI cT cf hC ad E117_ H.size v92_5 v117_6 ((xi (E (64 * (i + 1) + 14)) 0).toNatClampNeg) hI (by omega) (by exact hs117_5_6) (by (try rw [(show xi (E117_ 5) 7 = r20 from vi_e hs117_5_7)]); omega) i46 i60) (cwV 2 hts (gi_V (in_16 _ (zs4 (zs4 (zs1 (zs1 (zs0)))))) (in_16 _ (zs4 (zs4 (zs1 (zs1 (zs1 (zs0))))))) (in_16 _ (zs4 (zs4 (zs4 (zs0))))) (in_14 _ (zs16 (zs16 (zs0)))) (in_16 _ (zs4 (zs4 (zs4 (zs1 (zs0))))))) rfl rfl rfl ⟨rfl, hz_yX2_faultsFrom_2⟩ ⟨Nat.le_of_ble_eq_true rfl, Nat.le_of_ble_eq_true rfl⟩) ⟨HWL_bl, va_recv hK hP (ci := 3) (q0 := posL 5 (LC cf)) rfl (hI.ob 5 (mF 5 rfl) rfl), (HWL_wi hP hK (WL_D hD) hS hA hEV)⟩ rfl rfl hl.1 rfl (lv_room (Nat.le_of_ble_eq_true rfl)) dX2_find_141 ⟨Nat.le_of_ble_eq_true rfl, Nat.le_of_ble_eq_true rfl⟩) (WL_D hD) hS hA (fun r66 E67 H locs hw hP hS => ?_)
                        obtain ⟨hI, kq68, hw⟩ := hw
                        have hKb := hKp
                        have hKp := hKp.tr kq68 (wl_sub rfl rfl)
                        refine lv_ior hx hb dX2_find_144 ?_
                        refine lv_topi (fun y69 ey69 => ?_)
                        refine lv_istore (lv' := [(4, .int y69), (6, .int v117_6), (5, .int v92_5), (0, .ref (ad 5)), (1, .ref (ad (64 * (i + 1) + 14))), (2, .int a0), (3, .int a1)]) hx hb dX2_find_145 hl (by decide) rfl (fun ls hl => ?_)
                        obtain ⟨y70, ey70⟩ : ∃ y : Int32, y = v117_6 + (1 : Int32) := ⟨_, rfl⟩
                        obtain ⟨ty70, iy70⟩ := ti_add (e := 1) (f := 100) i60 ln_1 ey70 (by decide)
                        have ty70 : y70.toInt = v117_6.toInt + 1 := ty70
                        have iy70 : 1 ≤ y70.toInt ∧ y70.toInt ≤ 100 := iy70
                        refine lv_iinc (v := y70) (lv' := [(6, .int y70), (4, .int y69), (5, .int v92_5), (0, .ref (ad 5)), (1, .ref (ad (64 * (i + 1) + 14))), (2, .int a0), (3, .int a1)]) hx hb dX2_find_147 hl (k := 1) rfl (by rw [ey70]; rfl) (by decide) rfl (fun ls hl => ?_)
                        refine lv_goto (tgt := 117) hx hb dX2_find_150 (by decide) ?_
                        exact ih117 y70 y69 E67 _ _ _ (iv_w iy70 (by decide)) (by first | exact ms_su hx117_0 ty70 (by decide) | omega) hI hKp ((kq68 5 6 rfl).trans hs117_5_6) ((kq68 5 7 rfl).trans hs117_5_7) ((kq68 5 8 rfl).trans hs117_5_8) hP hS (lv_sub hl [0, 2, 1, 3, 4, 5, 6] rfl)
                exact hL117 (101) y51 v92_4 E92_ _ _ _ (iv_w iy51 (by decide)) (by have h9 := iy51; first | exact ms_bu h9.1 (by decide) | omega) hI hKp hs92_5_6 hs92_5_7 hs92_5_8 hP hS (lv_sub hl [0, 1, 2, 3, 4, 5, 6] rfl)
        exact hL92 (101) y30 (0 : Int32) E28 _ _ _ (iv_w iy30 (by decide)) (by have h9 := iy30; first | exact ms_bu h9.1 (by decide) | omega) hI hKp ((kq29 5 6 rfl).trans ((pw26.2 5 6 (fun q9 => absurd q9.2 (Nat.ne_of_beq_eq_false rfl))).trans ((pw24.2 5 6 (fun q9 => absurd q9.2 (Nat.ne_of_beq_eq_false rfl))).trans pw18.1))) ((kq29 5 7 rfl).trans ((pw26.2 5 7 (fun q9 => absurd q9.2 (Nat.ne_of_beq_eq_false rfl))).trans pw24.1)) ((kq29 5 8 rfl).trans pw26.1) hP hS (lv_sub hl [0, 1, 2, 3, 4, 5] rfl)
      refine lv_if_ne (tgt := 72) hx hb dX2_find_64 (by decide) (fun c71 => ?_) (fun c71 => ?_)
      · --64 taken
        have t72 : ¬ a0.toInt = 0 := ti_ne c71
        refine lv_bipush (v := 98) hx hb dX2_find_72 (by decide) ?_
        exact hJ74 (98 : Int32) _ _ _ (iv_w ln_98 (by decide)) hP hS (lv_sub hl [0, 1, 2, 3] rfl)
      · --64 not
        have t73 : a0.toInt = 0 := ti_eq c71
        have i74 : 0 ≤ a0.toInt ∧ a0.toInt ≤ 0 := iv_eqi t73 (iv_all _) (il_ 0) (by decide)
        refine lv_bipush (v := 97) hx hb dX2_find_67 (by decide) ?_
        refine lv_goto (tgt := 74) hx hb dX2_find_69 (by decide) ?_
        exact hJ74 (97 : Int32) _ _ _ (iv_w ln_97 (by decide)) hP hS (lv_sub hl [0, 1, 2, 3] rfl)
    · --17 not
      have t75 : r8.toInt = 0 := ti_eq c11
      have i76 : 0 ≤ r8.toInt ∧ r8.toInt ≤ 0 := iv_eqi t75 (iv_all _) (il_ 0) (by decide)
      refine lv_iconst (v := -1) hx hb dX2_find_20 (by decide) ?_
      rw [hQ]
      exact W.iret (v := (-1)) hx hb hr (fun t ht hW => ⟨⟨(-1), E9, rfl, ⟨hI, hKp, (iv_w ln_m1 (by decide))⟩, by show va_P (dC, dI) vwCl (WL (LC cf) ad E9) t.heap; rw [ht]; exact hP⟩, hS.F ht⟩) hS.2.2 dX2_find_21
def v_sortIn36 : List Cond := .code yX12_sortIn cX12_sortIn 4 (some .int) :: vA
abbrev rm_sortIn36 : Room := { frames := 0, cells := 0, slots := 0, locals := 0 }
def w_sortIn36 : Nat → Nat → Bool := wl [36] []
set_option maxHeartbeats 4000000 in
set_option maxRecDepth 100000 in
theorem q_sortIn36 (l : Launch) (dC : Nat → ClassId) (dI : Nat → Nat → Nat) (cT : Nat → ClassId) (cf : Nat → Nat) (hC : CF cf) (ad : Nat → Nat) (E : Nat → va_E) (sz : Nat) (a0 : Int32) (a1 : Int32) (hI0 : IXL cT (shC cf) (spC cf) (LC cf) ad E) (hh0 : 0 ≤ a1.toInt ∧ a1.toInt ≤ 20) : Met l yX12_sortIn v_sortIn36 rm_sortIn36 (va_Pc [.int a0, .ref (ad 36), .int a1] (HWL dC dI (TYC cT) cf ad E sz)) (va_Qi (S := Nat → va_E) (fun r u => IXL cT (shC cf) (spC cf) (LC cf) ad u ∧ Kp w_sortIn36 E u ∧ ((0 ≤ r.toInt ∧ r.toInt ≤ 20) ∧ (r.toInt ≤ a1.toInt + 1))) (HBL dC dI (LC cf) ad) (va_A (WL (LC cf) ad E) sz)) 0 0 (va_A (WL (LC cf) ad E) sz) := by
  obtain ⟨⟨hc0, hc1, hc2, hc3, hc4, hc5⟩, hcr⟩ := id hC
  refine Met.ofW (cc := cX12_sortIn) (maxL := 4) (ret := (some .int)) (by decide) rfl ?_
  intro p e s m args below meth c s₁ B hml hv
  obtain ⟨hargs, hsz, hP, hK, hD0, hEV⟩ := hv
  subst hsz
  have hx := B.exec
  have hb := B.bytes
  have hr := B.returns
  have hts := atoms_spec (ws := v_sortIn36) B.pre
  have hown : s.vm.findClass RX12 = some m.cls := findClass_of_methodNamed B.named
  have hlocks := B.notSynchronized
  generalize hAe : va_A (WL (LC cf) ad E) s.heap.size = A at hEV ⊢
  have hA : ∀ q : Nat, s.heap.size ≤ q → A q := fun q h => by rw [← hAe]; exact Or.inr h
  have hD : va_D A (WL (LC cf) ad E) := by rw [← hAe]; exact hD0.self
  have hS : va_S A s.heap s.heap [] := va_S.rf
  have hI := hI0
  have hKp : Kp w_sortIn36 E E := Kp.rf
  have hl := lv_entry ([.int a0, .ref (ad 36), .int a1]) (n := 4) (Nat.le_of_ble_eq_true rfl)
  obtain ⟨Q, hQ⟩ : ∃ Q, Q = MQ below (va_Qi (S := Nat → va_E) (fun r u => IXL cT (shC cf) (spC cf) (LC cf) ad u ∧ Kp w_sortIn36 E u ∧ ((0 ≤ r.toInt ∧ r.toInt ≤ 20) ∧ (r.toInt ≤ a1.toInt + 1))) (HBL dC dI (LC cf) ad) (A)) args s 0 0 (A) := ⟨_, rfl⟩
  rw [← hQ, show entryFrame m args 4 = _ from (congrArg (fun z => entryFrame m z 4) hargs).trans (lg_entry_eq _ _ _)]
  generalize (lg_sl ([.int a0, .ref (ad 36), .int a1]) ++ List.replicate (4 - (lg_sl ([.int a0, .ref (ad 36), .int a1])).length) Slot.unset).toArray = ls at hl ⊢
  have hl : lv_has ls 4 [(0, .int a0), (1, .ref (ad 36)), (2, .int a1)] := hl
  refine lv_iload_n hx hb dX12_sortIn_0 rfl (lv_at hl 2 rfl) ?_
  refine lv_aload_n hx hb dX12_sortIn_1 rfl (lv_at hl 1 rfl) ?_
  refine va_alen (v := 20) hx hb hK hP (posL 36 (LC cf)) 0 (hI.ar 36 (mF 36 rfl) rfl) rfl rfl dX12_sortIn_2 ?_
  refine lv_icmp_lt (tgt := 8) hx hb dX12_sortIn_3 (by decide) (fun c1 => ?_) (fun c1 => ?_)
  · --3 taken
    have t2 : a1.toInt < 20 := ti_lt c1
    have i3 : 0 ≤ a1.toInt ∧ a1.toInt ≤ 19 := iv_lt_l t2 hh0 (il_ 20) (by decide)
    refine lv_iload_n hx hb dX12_sortIn_8 rfl (lv_at hl 2 rfl) ?_
    refine lv_istore_n (lv' := [(3, .int a1), (0, .int a0), (1, .ref (ad 36)), (2, .int a1)]) hx hb dX12_sortIn_9 rfl hl (by decide) rfl (fun ls hl => ?_)
    have hL10 : ∀ d : Nat, ∀ (v10_3 : Int32) (E10_ : Nat → va_E) (H : Heap) (locs : List Loc) (ls : Array Slot), 0 ≤ v10_3.toInt ∧ v10_3.toInt ≤ 19 → v10_3.toInt - 0 < (d : Int) → IXL cT (shC cf) (spC cf) (LC cf) ad E10_ → Kp w_sortIn36 E E10_ → va_P (dC, dI) vwCl (WL (LC cf) ad E10_) H → va_S A s.heap H locs → lv_has ls 4 [(3, .int v10_3), (0, .int a0), (1, .ref (ad 36)), (2, .int a1)] → W p l e (headSpec v_sortIn36 rm_sortIn36).room s m args below meth c H locs 0 0 Q (F0 m 10 ls []) := by
      intro d
      induction d with
      | zero =>
        intro v10_3 E10_ H locs ls hv10_3 hx10_0 hI hKp hP hS hl
        exact absurd hx10_0 (by first | exact ms_zd hv10_3.1 | omega)
      | succ d ih10 =>
        intro v10_3 E10_ H locs ls hv10_3 hx10_0 hI hKp hP hS hl
        refine lv_iload_n hx hb dX12_sortIn_10 rfl (lv_at hl 0 rfl) ?_
        have hJ37 : ∀ (H : Heap) (locs : List Loc) (ls : Array Slot), va_P (dC, dI) vwCl (WL (LC cf) ad E10_) H → va_S A s.heap H locs → lv_has ls 4 [(3, .int v10_3), (0, .int a0), (1, .ref (ad 36)), (2, .int a1)] → W p l e (headSpec v_sortIn36 rm_sortIn36).room s m args below meth c H locs 0 0 Q (F0 m 37 ls []) := by
          intro H locs ls hP hS hl
          refine lv_aload_n hx hb dX12_sortIn_37 rfl (lv_at hl 2 rfl) ?_
          refine lv_iload_n hx hb dX12_sortIn_38 rfl (lv_at hl 0 rfl) ?_
          refine lv_iload_n hx hb dX12_sortIn_39 rfl (lv_at hl 1 rfl) ?_
          have n4 : vp_in v10_3 20 := (iv_in (n := 20) hv10_3 (by decide))
          refine th_iastL hx hb hK hP (WL_D hD) hS hI 36 (mF 36 rfl) rfl rfl n4 (okI rfl (iv_all _)) dX12_sortIn_40 (fun H locs E5 pw6 hI hP hS => ?_)
          have hKp := hKp.pw pw6 rfl
          refine lv_iload_n hx hb dX12_sortIn_41 rfl (lv_at hl 3 rfl) ?_
          refine lv_iconst (v := 1) hx hb dX12_sortIn_42 (by decide) ?_
          refine lv_iadd hx hb dX12_sortIn_43 ?_
          refine lv_topi (fun y7 ey7 => ?_)
          obtain ⟨ty7, iy7⟩ := ti_add (e := 1) (f := 20) i3 ln_1 ey7 (by decide)
          have ty7 : y7.toInt = a1.toInt + 1 := ty7
          have iy7 : 1 ≤ y7.toInt ∧ y7.toInt ≤ 20 := iy7
          rw [hQ]
          exact W.iret (v := y7) hx hb hr (fun t ht hW => ⟨⟨y7, E5, rfl, ⟨hI, hKp, ⟨(iv_w iy7 (by decide)), by all_goals omega⟩⟩, by show va_P (dC, dI) vwCl (WL (LC cf) ad E5) t.heap; rw [ht]; exact hP⟩, hS.F ht⟩) hS.2.2 dX12_sortIn_44
        refine lv_if_le (tgt := 37) hx hb dX12_sortIn_11 (by decide) (fun c8 => ?_) (fun c8 => ?_)
        · --11 taken
          have t9 : v10_3.toInt ≤ 0 := ti_le c8
          have i10 : 0 ≤ v10_3.toInt ∧ v10_3.toInt ≤ 0 := iv_le_l t9 hv10_3 (il_ 0) (by decide)
          exact hJ37 _ _ _ hP hS (lv_sub hl [0, 1, 2, 3] rfl)
        · --11 not
          have t11 : (0 : Int) < v10_3.toInt := ti_nle c8
          have i12 : 1 ≤ v10_3.toInt ∧ v10_3.toInt ≤ 19 := iv_lt_r t11 (il_ 0) hv10_3 (by decide)
          refine lv_aload_n hx hb dX12_sortIn_14 rfl (lv_at hl 2 rfl) ?_
          refine lv_iload_n hx hb dX12_sortIn_15 rfl (lv_at hl 0 rfl) ?_
          refine lv_iconst (v := 1) hx hb dX12_sortIn_16 (by decide) ?_
          refine lv_isub hx hb dX12_sortIn_17 ?_
          refine lv_topi (fun y13 ey13 => ?_)
          obtain ⟨ty13, iy13⟩ := ti_sub (e := 0) (f := 18) i12 ln_1 ey13 (by decide)
          have ty13 : y13.toInt = v10_3.toInt - 1 := ty13
          have iy13 : 0 ≤ y13.toInt ∧ y13.toInt ≤ 18 := iy13
          have n15 : vp_in y13 20 := (iv_in (n := 20) iy13 (by decide))
          refine th_ialdL hx hb hK hP hI 36 (mF 36 rfl) rfl rfl n15 dX12_sortIn_18 (fun y14 ey14 => ?_)
          refine lv_iload_n hx hb dX12_sortIn_19 rfl (lv_at hl 1 rfl) ?_
          refine lv_icmp_le (tgt := 37) hx hb dX12_sortIn_20 (by decide) (fun c16 => ?_) (fun c16 => ?_)
          · --20 taken
            have t17 : y14.toInt ≤ a0.toInt := ti_le c16
            exact hJ37 _ _ _ hP hS (lv_sub hl [0, 1, 2, 3] rfl)
          · --20 not
            have t18 : a0.toInt < y14.toInt := ti_nle c16
            have i19 : -2147483648 ≤ a0.toInt ∧ a0.toInt ≤ 2147483646 := iv_lt_l t18 (iv_all _) (iv_all _) (by decide)
            have i20 : -2147483647 ≤ y14.toInt ∧ y14.toInt ≤ 2147483647 := iv_lt_r t18 (iv_all _) (iv_all _) (by decide)
            refine lv_aload_n hx hb dX12_sortIn_23 rfl (lv_at hl 2 rfl) ?_
            refine lv_iload_n hx hb dX12_sortIn_24 rfl (lv_at hl 0 rfl) ?_
            refine lv_aload_n hx hb dX12_sortIn_25 rfl (lv_at hl 2 rfl) ?_
            refine lv_iload_n hx hb dX12_sortIn_26 rfl (lv_at hl 0 rfl) ?_
            refine lv_iconst (v := 1) hx hb dX12_sortIn_27 (by decide) ?_
            refine lv_isub hx hb dX12_sortIn_28 ?_
            refine lv_topi (fun y21 ey21 => ?_)
            obtain ⟨ty21, iy21⟩ := ti_sub (e := 0) (f := 18) i12 ln_1 ey21 (by decide)
            have ty21 : y21.toInt = v10_3.toInt - 1 := ty21
            have iy21 : 0 ≤ y21.toInt ∧ y21.toInt ≤ 18 := iy21
            have n23 : vp_in y21 20 := (iv_in (n := 20) iy21 (by decide))
            refine th_ialdL hx hb hK hP hI 36 (mF 36 rfl) rfl rfl n23 dX12_sortIn_29 (fun y22 ey22 => ?_)
            have n24 : vp_in v10_3 20 := (iv_in (n := 20) i12 (by decide))
            refine th_iastL hx hb hK hP (WL_D hD) hS hI 36 (mF 36 rfl) rfl rfl n24 (okI rfl (iv_all _)) dX12_sortIn_30 (fun H locs E25 pw26 hI hP hS => ?_)
            have hKp := hKp.pw pw26 rfl
            obtain ⟨y27, ey27⟩ : ∃ y : Int32, y = v10_3 + (-1 : Int32) := ⟨_, rfl⟩
            obtain ⟨ty27, iy27⟩ := ti_add (e := 0) (f := 18) i12 ln_m1 ey27 (by decide)
            have ty27 : y27.toInt = v10_3.toInt + (-1) := ty27
            have iy27 : 0 ≤ y27.toInt ∧ y27.toInt ≤ 18 := iy27
            refine lv_iinc (v := y27) (lv' := [(3, .int y27), (0, .int a0), (1, .ref (ad 36)), (2, .int a1)]) hx hb dX12_sortIn_31 hl (k := 0) rfl (by rw [ey27]; rfl) (by decide) rfl (fun ls hl => ?_)
            refine lv_goto (tgt := 10) hx hb dX12_sortIn_34 (by decide) ?_
            exact ih10 y27 E25 _ _ _ (iv_w iy27 (by decide)) (by first | exact ms_sd hx10_0 ty27 (by decide) | exact ms_sd2 hx10_0 ty27 | omega) hI hKp hP hS (lv_sub hl [0, 1, 2, 3] rfl)
    exact hL10 (20) a1 E _ _ _ i3 (by have h9 := i3; first | exact ms_bd h9.2 (by decide) | omega) hI hKp hP hS (lv_sub hl [0, 1, 2, 3] rfl)
  · --3 not
    have t28 : (20 : Int) ≤ a1.toInt := ti_nlt c1
    have i29 : 20 ≤ a1.toInt ∧ a1.toInt ≤ 20 := iv_le_r t28 (il_ 20) hh0 (by decide)
    refine lv_iload_n hx hb dX12_sortIn_6 rfl (lv_at hl 2 rfl) ?_
    rw [hQ]
    exact W.iret (v := a1) hx hb hr (fun t ht hW => ⟨⟨a1, E, rfl, ⟨hI, hKp, ⟨(iv_w i29 (by decide)), by all_goals omega⟩⟩, by show va_P (dC, dI) vwCl (WL (LC cf) ad E) t.heap; rw [ht]; exact hP⟩, hS.F ht⟩) hS.2.2 dX12_sortIn_7
def v_sortIn37 : List Cond := .code yX12_sortIn cX12_sortIn 4 (some .int) :: vA
abbrev rm_sortIn37 : Room := { frames := 0, cells := 0, slots := 0, locals := 0 }
def w_sortIn37 : Nat → Nat → Bool := wl [37] []
set_option maxHeartbeats 4000000 in
set_option maxRecDepth 100000 in
theorem q_sortIn37 (l : Launch) (dC : Nat → ClassId) (dI : Nat → Nat → Nat) (cT : Nat → ClassId) (cf : Nat → Nat) (hC : CF cf) (ad : Nat → Nat) (E : Nat → va_E) (sz : Nat) (a0 : Int32) (a1 : Int32) (hI0 : IXL cT (shC cf) (spC cf) (LC cf) ad E) (hh0 : 0 ≤ a1.toInt ∧ a1.toInt ≤ 20) : Met l yX12_sortIn v_sortIn37 rm_sortIn37 (va_Pc [.int a0, .ref (ad 37), .int a1] (HWL dC dI (TYC cT) cf ad E sz)) (va_Qi (S := Nat → va_E) (fun r u => IXL cT (shC cf) (spC cf) (LC cf) ad u ∧ Kp w_sortIn37 E u ∧ ((0 ≤ r.toInt ∧ r.toInt ≤ 20) ∧ (r.toInt ≤ a1.toInt + 1))) (HBL dC dI (LC cf) ad) (va_A (WL (LC cf) ad E) sz)) 0 0 (va_A (WL (LC cf) ad E) sz) := by
  obtain ⟨⟨hc0, hc1, hc2, hc3, hc4, hc5⟩, hcr⟩ := id hC
  refine Met.ofW (cc := cX12_sortIn) (maxL := 4) (ret := (some .int)) (by decide) rfl ?_
  intro p e s m args below meth c s₁ B hml hv
  obtain ⟨hargs, hsz, hP, hK, hD0, hEV⟩ := hv
  subst hsz
  have hx := B.exec
  have hb := B.bytes
  have hr := B.returns
  have hts := atoms_spec (ws := v_sortIn37) B.pre
  have hown : s.vm.findClass RX12 = some m.cls := findClass_of_methodNamed B.named
  have hlocks := B.notSynchronized
  generalize hAe : va_A (WL (LC cf) ad E) s.heap.size = A at hEV ⊢
  have hA : ∀ q : Nat, s.heap.size ≤ q → A q := fun q h => by rw [← hAe]; exact Or.inr h
  have hD : va_D A (WL (LC cf) ad E) := by rw [← hAe]; exact hD0.self
  have hS : va_S A s.heap s.heap [] := va_S.rf
  have hI := hI0
  have hKp : Kp w_sortIn37 E E := Kp.rf
  have hl := lv_entry ([.int a0, .ref (ad 37), .int a1]) (n := 4) (Nat.le_of_ble_eq_true rfl)
  obtain ⟨Q, hQ⟩ : ∃ Q, Q = MQ below (va_Qi (S := Nat → va_E) (fun r u => IXL cT (shC cf) (spC cf) (LC cf) ad u ∧ Kp w_sortIn37 E u ∧ ((0 ≤ r.toInt ∧ r.toInt ≤ 20) ∧ (r.toInt ≤ a1.toInt + 1))) (HBL dC dI (LC cf) ad) (A)) args s 0 0 (A) := ⟨_, rfl⟩
  rw [← hQ, show entryFrame m args 4 = _ from (congrArg (fun z => entryFrame m z 4) hargs).trans (lg_entry_eq _ _ _)]
  generalize (lg_sl ([.int a0, .ref (ad 37), .int a1]) ++ List.replicate (4 - (lg_sl ([.int a0, .ref (ad 37), .int a1])).length) Slot.unset).toArray = ls at hl ⊢
  have hl : lv_has ls 4 [(0, .int a0), (1, .ref (ad 37)), (2, .int a1)] := hl
  refine lv_iload_n hx hb dX12_sortIn_0 rfl (lv_at hl 2 rfl) ?_
  refine lv_aload_n hx hb dX12_sortIn_1 rfl (lv_at hl 1 rfl) ?_
  refine va_alen (v := 20) hx hb hK hP (posL 37 (LC cf)) 0 (hI.ar 37 (mF 37 rfl) rfl) rfl rfl dX12_sortIn_2 ?_
  refine lv_icmp_lt (tgt := 8) hx hb dX12_sortIn_3 (by decide) (fun c1 => ?_) (fun c1 => ?_)
  · --3 taken
    have t2 : a1.toInt < 20 := ti_lt c1
    have i3 : 0 ≤ a1.toInt ∧ a1.toInt ≤ 19 := iv_lt_l t2 hh0 (il_ 20) (by decide)
    refine lv_iload_n hx hb dX12_sortIn_8 rfl (lv_at hl 2 rfl) ?_
    refine lv_istore_n (lv' := [(3, .int a1), (0, .int a0), (1, .ref (ad 37)), (2, .int a1)]) hx hb dX12_sortIn_9 rfl hl (by decide) rfl (fun ls hl => ?_)
    have hL10 : ∀ d : Nat, ∀ (v10_3 : Int32) (E10_ : Nat → va_E) (H : Heap) (locs : List Loc) (ls : Array Slot), 0 ≤ v10_3.toInt ∧ v10_3.toInt ≤ 19 → v10_3.toInt - 0 < (d : Int) → IXL cT (shC cf) (spC cf) (LC cf) ad E10_ → Kp w_sortIn37 E E10_ → va_P (dC, dI) vwCl (WL (LC cf) ad E10_) H → va_S A s.heap H locs → lv_has ls 4 [(3, .int v10_3), (0, .int a0), (1, .ref (ad 37)), (2, .int a1)] → W p l e (headSpec v_sortIn37 rm_sortIn37).room s m args below meth c H locs 0 0 Q (F0 m 10 ls []) := by
      intro d
      induction d with
      | zero =>
        intro v10_3 E10_ H locs ls hv10_3 hx10_0 hI hKp hP hS hl
        exact absurd hx10_0 (by first | exact ms_zd hv10_3.1 | omega)
      | succ d ih10 =>
        intro v10_3 E10_ H locs ls hv10_3 hx10_0 hI hKp hP hS hl
        refine lv_iload_n hx hb dX12_sortIn_10 rfl (lv_at hl 0 rfl) ?_
        have hJ37 : ∀ (H : Heap) (locs : List Loc) (ls : Array Slot), va_P (dC, dI) vwCl (WL (LC cf) ad E10_) H → va_S A s.heap H locs → lv_has ls 4 [(3, .int v10_3), (0, .int a0), (1, .ref (ad 37)), (2, .int a1)] → W p l e (headSpec v_sortIn37 rm_sortIn37).room s m args below meth c H locs 0 0 Q (F0 m 37 ls []) := by
          intro H locs ls hP hS hl
          refine lv_aload_n hx hb dX12_sortIn_37 rfl (lv_at hl 2 rfl) ?_
          refine lv_iload_n hx hb dX12_sortIn_38 rfl (lv_at hl 0 rfl) ?_
          refine lv_iload_n hx hb dX12_sortIn_39 rfl (lv_at hl 1 rfl) ?_
          have n4 : vp_in v10_3 20 := (iv_in (n := 20) hv10_3 (by decide))
          refine th_iastL hx hb hK hP (WL_D hD) hS hI 37 (mF 37 rfl) rfl rfl n4 (okI rfl (iv_all _)) dX12_sortIn_40 (fun H locs E5 pw6 hI hP hS => ?_)
          have hKp := hKp.pw pw6 rfl
          refine lv_iload_n hx hb dX12_sortIn_41 rfl (lv_at hl 3 rfl) ?_
          refine lv_iconst (v := 1) hx hb dX12_sortIn_42 (by decide) ?_
          refine lv_iadd hx hb dX12_sortIn_43 ?_
          refine lv_topi (fun y7 ey7 => ?_)
          obtain ⟨ty7, iy7⟩ := ti_add (e := 1) (f := 20) i3 ln_1 ey7 (by decide)
          have ty7 : y7.toInt = a1.toInt + 1 := ty7
          have iy7 : 1 ≤ y7.toInt ∧ y7.toInt ≤ 20 := iy7
          rw [hQ]
          exact W.iret (v := y7) hx hb hr (fun t ht hW => ⟨⟨y7, E5, rfl, ⟨hI, hKp, ⟨(iv_w iy7 (by decide)), by all_goals omega⟩⟩, by show va_P (dC, dI) vwCl (WL (LC cf) ad E5) t.heap; rw [ht]; exact hP⟩, hS.F ht⟩) hS.2.2 dX12_sortIn_44
        refine lv_if_le (tgt := 37) hx hb dX12_sortIn_11 (by decide) (fun c8 => ?_) (fun c8 => ?_)
        · --11 taken
          have t9 : v10_3.toInt ≤ 0 := ti_le c8
          have i10 : 0 ≤ v10_3.toInt ∧ v10_3.toInt ≤ 0 := iv_le_l t9 hv10_3 (il_ 0) (by decide)
          exact hJ37 _ _ _ hP hS (lv_sub hl [0, 1, 2, 3] rfl)
        · --11 not
          have t11 : (0 : Int) < v10_3.toInt := ti_nle c8
          have i12 : 1 ≤ v10_3.toInt ∧ v10_3.toInt ≤ 19 := iv_lt_r t11 (il_ 0) hv10_3 (by decide)
          refine lv_aload_n hx hb dX12_sortIn_14 rfl (lv_at hl 2 rfl) ?_
          refine lv_iload_n hx hb dX12_sortIn_15 rfl (lv_at hl 0 rfl) ?_
          refine lv_iconst (v := 1) hx hb dX12_sortIn_16 (by decide) ?_
          refine lv_isub hx hb dX12_sortIn_17 ?_
          refine lv_topi (fun y13 ey13 => ?_)
          obtain ⟨ty13, iy13⟩ := ti_sub (e := 0) (f := 18) i12 ln_1 ey13 (by decide)
          have ty13 : y13.toInt = v10_3.toInt - 1 := ty13
          have iy13 : 0 ≤ y13.toInt ∧ y13.toInt ≤ 18 := iy13
          have n15 : vp_in y13 20 := (iv_in (n := 20) iy13 (by decide))
          refine th_ialdL hx hb hK hP hI 37 (mF 37 rfl) rfl rfl n15 dX12_sortIn_18 (fun y14 ey14 => ?_)
          refine lv_iload_n hx hb dX12_sortIn_19 rfl (lv_at hl 1 rfl) ?_
          refine lv_icmp_le (tgt := 37) hx hb dX12_sortIn_20 (by decide) (fun c16 => ?_) (fun c16 => ?_)
          · --20 taken
            have t17 : y14.toInt ≤ a0.toInt := ti_le c16
            exact hJ37 _ _ _ hP hS (lv_sub hl [0, 1, 2, 3] rfl)
          · --20 not
            have t18 : a0.toInt < y14.toInt := ti_nle c16
            have i19 : -2147483648 ≤ a0.toInt ∧ a0.toInt ≤ 2147483646 := iv_lt_l t18 (iv_all _) (iv_all _) (by decide)
            have i20 : -2147483647 ≤ y14.toInt ∧ y14.toInt ≤ 2147483647 := iv_lt_r t18 (iv_all _) (iv_all _) (by decide)
            refine lv_aload_n hx hb dX12_sortIn_23 rfl (lv_at hl 2 rfl) ?_
            refine lv_iload_n hx hb dX12_sortIn_24 rfl (lv_at hl 0 rfl) ?_
            refine lv_aload_n hx hb dX12_sortIn_25 rfl (lv_at hl 2 rfl) ?_
            refine lv_iload_n hx hb dX12_sortIn_26 rfl (lv_at hl 0 rfl) ?_
            refine lv_iconst (v := 1) hx hb dX12_sortIn_27 (by decide) ?_
            refine lv_isub hx hb dX12_sortIn_28 ?_
            refine lv_topi (fun y21 ey21 => ?_)
            obtain ⟨ty21, iy21⟩ := ti_sub (e := 0) (f := 18) i12 ln_1 ey21 (by decide)
            have ty21 : y21.toInt = v10_3.toInt - 1 := ty21
            have iy21 : 0 ≤ y21.toInt ∧ y21.toInt ≤ 18 := iy21
            have n23 : vp_in y21 20 := (iv_in (n := 20) iy21 (by decide))
            refine th_ialdL hx hb hK hP hI 37 (mF 37 rfl) rfl rfl n23 dX12_sortIn_29 (fun y22 ey22 => ?_)
            have n24 : vp_in v10_3 20 := (iv_in (n := 20) i12 (by decide))
            refine th_iastL hx hb hK hP (WL_D hD) hS hI 37 (mF 37 rfl) rfl rfl n24 (okI rfl (iv_all _)) dX12_sortIn_30 (fun H locs E25 pw26 hI hP hS => ?_)
            have hKp := hKp.pw pw26 rfl
            obtain ⟨y27, ey27⟩ : ∃ y : Int32, y = v10_3 + (-1 : Int32) := ⟨_, rfl⟩
            obtain ⟨ty27, iy27⟩ := ti_add (e := 0) (f := 18) i12 ln_m1 ey27 (by decide)
            have ty27 : y27.toInt = v10_3.toInt + (-1) := ty27
            have iy27 : 0 ≤ y27.toInt ∧ y27.toInt ≤ 18 := iy27
            refine lv_iinc (v := y27) (lv' := [(3, .int y27), (0, .int a0), (1, .ref (ad 37)), (2, .int a1)]) hx hb dX12_sortIn_31 hl (k := 0) rfl (by rw [ey27]; rfl) (by decide) rfl (fun ls hl => ?_)
            refine lv_goto (tgt := 10) hx hb dX12_sortIn_34 (by decide) ?_
            exact ih10 y27 E25 _ _ _ (iv_w iy27 (by decide)) (by first | exact ms_sd hx10_0 ty27 (by decide) | exact ms_sd2 hx10_0 ty27 | omega) hI hKp hP hS (lv_sub hl [0, 1, 2, 3] rfl)
    exact hL10 (20) a1 E _ _ _ i3 (by have h9 := i3; first | exact ms_bd h9.2 (by decide) | omega) hI hKp hP hS (lv_sub hl [0, 1, 2, 3] rfl)
  · --3 not
    have t28 : (20 : Int) ≤ a1.toInt := ti_nlt c1
    have i29 : 20 ≤ a1.toInt ∧ a1.toInt ≤ 20 := iv_le_r t28 (il_ 20) hh0 (by decide)
    refine lv_iload_n hx hb dX12_sortIn_6 rfl (lv_at hl 2 rfl) ?_
    rw [hQ]
    exact W.iret (v := a1) hx hb hr (fun t ht hW => ⟨⟨a1, E, rfl, ⟨hI, hKp, ⟨(iv_w i29 (by decide)), by all_goals omega⟩⟩, by show va_P (dC, dI) vwCl (WL (LC cf) ad E) t.heap; rw [ht]; exact hP⟩, hS.F ht⟩) hS.2.2 dX12_sortIn_7
def v_sortKeptM : List Cond := .code yX8_sortKept cX8_sortKept 5 (some .int) :: vA
abbrev rm_sortKeptM : Room := { frames := 1, cells := 0, slots := 0, locals := 40 }
def w_sortKeptM : Nat → Nat → Bool := wl [36] []
set_option maxHeartbeats 4000000 in
set_option maxRecDepth 100000 in
theorem q_sortKeptM (l : Launch) (dC : Nat → ClassId) (dI : Nat → Nat → Nat) (cT : Nat → ClassId) (cf : Nat → Nat) (hC : CF cf) (ad : Nat → Nat) (E : Nat → va_E) (sz : Nat) (a0 : Int32) (hI0 : IXL cT (shC cf) (spC cf) (LC cf) ad E) (hh0 : 0 ≤ a0.toInt ∧ a0.toInt ≤ 15) : Met l yX8_sortKept v_sortKeptM rm_sortKeptM (va_Pc [.ref (ad 4), .int a0, .ref (ad 36)] (HWL dC dI (TYC cT) cf ad E sz)) (va_Qi (S := Nat → va_E) (fun r u => IXL cT (shC cf) (spC cf) (LC cf) ad u ∧ Kp w_sortKeptM E u ∧ ((0 ≤ r.toInt ∧ r.toInt ≤ 20))) (HBL dC dI (LC cf) ad) (va_A (WL (LC cf) ad E) sz)) 0 0 (va_A (WL (LC cf) ad E) sz) := by
  obtain ⟨⟨hc0, hc1, hc2, hc3, hc4, hc5⟩, hcr⟩ := id hC
  refine Met.ofW (cc := cX8_sortKept) (maxL := 5) (ret := (some .int)) (by decide) rfl ?_
  intro p e s m args below meth c s₁ B hml hv
  obtain ⟨hargs, hsz, hP, hK, hD0, hEV⟩ := hv
  subst hsz
  have hx := B.exec
  have hb := B.bytes
  have hr := B.returns
  have hts := atoms_spec (ws := v_sortKeptM) B.pre
  have hown : s.vm.findClass RX8 = some m.cls := findClass_of_methodNamed B.named
  have hlocks := B.notSynchronized
  have hinX8 : ∀ w ∈ u_ws RX8 TX8 10, w ∈ v_sortKeptM := fun w h => vA_in _ w (in_X8 w h)
  generalize hAe : va_A (WL (LC cf) ad E) s.heap.size = A at hEV ⊢
  have hA : ∀ q : Nat, s.heap.size ≤ q → A q := fun q h => by rw [← hAe]; exact Or.inr h
  have hD : va_D A (WL (LC cf) ad E) := by rw [← hAe]; exact hD0.self
  have hS : va_S A s.heap s.heap [] := va_S.rf
  have hI := hI0
  have hKp : Kp w_sortKeptM E E := Kp.rf
  have hl := lv_entry ([.ref (ad 4), .int a0, .ref (ad 36)]) (n := 5) (Nat.le_of_ble_eq_true rfl)
  obtain ⟨Q, hQ⟩ : ∃ Q, Q = MQ below (va_Qi (S := Nat → va_E) (fun r u => IXL cT (shC cf) (spC cf) (LC cf) ad u ∧ Kp w_sortKeptM E u ∧ ((0 ≤ r.toInt ∧ r.toInt ≤ 20))) (HBL dC dI (LC cf) ad) (A)) args s 0 0 (A) := ⟨_, rfl⟩
  rw [← hQ, show entryFrame m args 5 = _ from (congrArg (fun z => entryFrame m z 5) hargs).trans (lg_entry_eq _ _ _)]
  generalize (lg_sl ([.ref (ad 4), .int a0, .ref (ad 36)]) ++ List.replicate (5 - (lg_sl ([.ref (ad 4), .int a0, .ref (ad 36)])).length) Slot.unset).toArray = ls at hl ⊢
  have hl : lv_has ls 5 [(0, .ref (ad 4)), (1, .int a0), (2, .ref (ad 36))] := hl
  refine lv_iconst (v := 0) hx hb dX8_sortKept_0 (by decide) ?_
  refine lv_istore_n (lv' := [(3, .int 0), (0, .ref (ad 4)), (1, .int a0), (2, .ref (ad 36))]) hx hb dX8_sortKept_1 rfl hl (by decide) rfl (fun ls hl => ?_)
  refine lv_iconst (v := 0) hx hb dX8_sortKept_2 (by decide) ?_
  refine lv_istore (lv' := [(4, .int 0), (3, .int 0), (0, .ref (ad 4)), (1, .int a0), (2, .ref (ad 36))]) hx hb dX8_sortKept_3 hl (by decide) rfl (fun ls hl => ?_)
  have hL5 : ∀ d : Nat, ∀ (v5_4 : Int32) (v5_3 : Int32) (E5_ : Nat → va_E) (H : Heap) (locs : List Loc) (ls : Array Slot), 0 ≤ v5_4.toInt ∧ v5_4.toInt ≤ 20 → 0 ≤ v5_3.toInt ∧ v5_3.toInt ≤ 20 → 20 - v5_4.toInt < (d : Int) → IXL cT (shC cf) (spC cf) (LC cf) ad E5_ → Kp w_sortKeptM E E5_ → va_P (dC, dI) vwCl (WL (LC cf) ad E5_) H → va_S A s.heap H locs → lv_has ls 5 [(4, .int v5_4), (3, .int v5_3), (0, .ref (ad 4)), (1, .int a0), (2, .ref (ad 36))] → W p l e (headSpec v_sortKeptM rm_sortKeptM).room s m args below meth c H locs 0 0 Q (F0 m 5 ls []) := by
    intro d
    induction d with
    | zero =>
      intro v5_4 v5_3 E5_ H locs ls hv5_4 hv5_3 hx5_0 hI hKp hP hS hl
      exact absurd hx5_0 (by first | exact ms_zu hv5_4.2 | omega)
    | succ d ih5 =>
      intro v5_4 v5_3 E5_ H locs ls hv5_4 hv5_3 hx5_0 hI hKp hP hS hl
      refine lv_iload hx hb dX8_sortKept_5 (lv_at hl 0 rfl) ?_
      refine lv_aload_n hx hb dX8_sortKept_7 rfl (lv_at hl 2 rfl) ?_
      have j2 : 0 ≤ (xi (E 4) 2).toInt ∧ (xi (E 4) 2).toInt ≤ ((cf 2 : Nat) : Int) := hI0.iv 4 (mF 4 rfl) rfl (Nat.le_of_ble_eq_true rfl) rfl
      have i1 : 0 ≤ (xi (E 4) 2).toInt ∧ (xi (E 4) 2).toInt ≤ 20 := by omega
      refine th_getL (ci := 9) (C := RX8) (T := TX8) (N := 10) (v := .int (xi (E 4) 2)) hx hb hts hinX8 hown hK hP hI 4 (mF 4 rfl) rfl rfl 2 (Nat.le_of_ble_eq_true rfl) (hts _ (vA_in _ _ (in_20 _ (zs4 (zs4 (zs4 (zs0))))))) (fun _ h9 => h9) (th_v0L hKp hI0 4 (mF 4 rfl) rfl (Nat.le_of_ble_eq_true rfl) rfl rfl) dX8_sortKept_8 ?_
      refine lv_icmp_ge (tgt := 54) hx hb dX8_sortKept_11 (by decide) (fun c3 => ?_) (fun c3 => ?_)
      · --11 taken
        have t4 : (xi (E 4) 2).toInt ≤ v5_4.toInt := ti_le c3
        refine lv_iload_n hx hb dX8_sortKept_54 rfl (lv_at hl 1 rfl) ?_
        rw [hQ]
        exact W.iret (v := v5_3) hx hb hr (fun t ht hW => ⟨⟨v5_3, E5_, rfl, ⟨hI, hKp, hv5_3⟩, by show va_P (dC, dI) vwCl (WL (LC cf) ad E5_) t.heap; rw [ht]; exact hP⟩, hS.F ht⟩) hS.2.2 dX8_sortKept_55
      · --11 not
        have t5 : v5_4.toInt < (xi (E 4) 2).toInt := ti_nle c3
        have i6 : 0 ≤ v5_4.toInt ∧ v5_4.toInt ≤ 19 := iv_lt_l t5 hv5_4 i1 (by decide)
        have i7 : 1 ≤ (xi (E 4) 2).toInt ∧ (xi (E 4) 2).toInt ≤ 20 := iv_lt_r t5 hv5_4 i1 (by decide)
        refine lv_aload_n hx hb dX8_sortKept_14 rfl (lv_at hl 2 rfl) ?_
        refine th_getL (ci := 9) (C := RX8) (T := TX8) (N := 10) (v := .ref (ad 33)) hx hb hts hinX8 hown hK hP hI 4 (mF 4 rfl) rfl rfl 5 (Nat.le_of_ble_eq_true rfl) (hts _ (vA_in _ _ (in_19 _ (zs4 (zs4 (zs1 (zs1 (zs1 (zs0))))))))) (fun _ h9 => h9) (hI.fr 4 (mF 4 rfl) rfl (Nat.le_of_ble_eq_true rfl) 33 rfl) dX8_sortKept_15 ?_
        refine lv_iload hx hb dX8_sortKept_18 (lv_at hl 0 rfl) ?_
        refine lv_iload_n hx hb dX8_sortKept_20 rfl (lv_at hl 3 rfl) ?_
        refine th_pi (va_runSN (As := [.int v5_4, .int a0]) (rest := [.ref (ad 33)]) ⟨hx, hb, hml, hown, hts⟩ (q_ccell l v5_4 a0 i6 hh0) ⟨va_cnB 2 hts (gi_0 (in_10 _ (zs16 (zs4 (zs0))))) rfl rfl rfl (hEV.1.1 _ (List.mem_of_getElem? (i := 10) rfl)) (hts _ (vA_in _ _ (in_4 _ (zs16 (zs4 (zs1 (zs1 (zs1 (zs0))))))))) hz_yX12_cell_2 ⟨Nat.le_of_ble_eq_true rfl, Nat.le_of_ble_eq_true rfl⟩, (hts _ (vA_in _ _ (in_13 _ (zs1 (zs0))))), trivial⟩ ⟨fun _ _ _ _ q => q, fun _ _ _ => ⟨rfl, trivial⟩⟩ rfl rfl hl.1 rfl (lv_room (Nat.le_of_ble_eq_true rfl)) dX8_sortKept_21 ⟨Nat.le_of_ble_eq_true rfl, Nat.le_of_ble_eq_true rfl⟩) hS (fun r8 H1 locs1 hw hk1 hS => ?_)
        have hP := ub_keep hP hk1
        generalize H1 = H at hP hS ⊢
        generalize locs1 = locs at hS ⊢
        obtain ⟨f9, f10⟩ := hw
        have n12 : vp_in r8 320 := (iv_in (n := 320) f9 (by decide))
        refine th_zaldL hx hb hK hP hI 33 (mF 33 rfl) rfl rfl n12 dX8_sortKept_24 (fun y11 ey11 => ?_)
        have iy11 : 0 ≤ y11.toInt ∧ y11.toInt ≤ 1 := hI.el 33 (mF 33 rfl) rfl n12 (fun _ => rfl) ey11
        have ey11 := ey11.trans (hKp.ei 33 _ rfl)
        refine lv_if_eq (tgt := 31) hx hb dX8_sortKept_25 (by decide) (fun c13 => ?_) (fun c13 => ?_)
        · --25 taken
          have t14 : y11.toInt = 0 := ti_eq c13
          have i15 : 0 ≤ y11.toInt ∧ y11.toInt ≤ 0 := iv_eqi t14 iy11 (il_ 0) (by decide)
          refine lv_aload_n hx hb dX8_sortKept_31 rfl (lv_at hl 2 rfl) ?_
          refine th_getL (ci := 9) (C := RX8) (T := TX8) (N := 10) (v := .ref (ad 32)) hx hb hts hinX8 hown hK hP hI 4 (mF 4 rfl) rfl rfl 4 (Nat.le_of_ble_eq_true rfl) (hts _ (vA_in _ _ (in_19 _ (zs4 (zs4 (zs1 (zs0))))))) (fun _ h9 => h9) (hI.fr 4 (mF 4 rfl) rfl (Nat.le_of_ble_eq_true rfl) 32 rfl) dX8_sortKept_32 ?_
          refine lv_iload hx hb dX8_sortKept_35 (lv_at hl 0 rfl) ?_
          refine lv_iload_n hx hb dX8_sortKept_37 rfl (lv_at hl 3 rfl) ?_
          refine th_pi (va_runSN (As := [.int v5_4, .int a0]) (rest := [.ref (ad 32)]) ⟨hx, hb, hml, hown, hts⟩ (q_ccell l v5_4 a0 i6 hh0) ⟨va_cnB 2 hts (gi_0 (in_10 _ (zs16 (zs4 (zs0))))) rfl rfl rfl (hEV.1.1 _ (List.mem_of_getElem? (i := 10) rfl)) (hts _ (vA_in _ _ (in_4 _ (zs16 (zs4 (zs1 (zs1 (zs1 (zs0))))))))) hz_yX12_cell_2 ⟨Nat.le_of_ble_eq_true rfl, Nat.le_of_ble_eq_true rfl⟩, (hts _ (vA_in _ _ (in_13 _ (zs1 (zs0))))), trivial⟩ ⟨fun _ _ _ _ q => q, fun _ _ _ => ⟨rfl, trivial⟩⟩ rfl rfl hl.1 rfl (lv_room (Nat.le_of_ble_eq_true rfl)) dX8_sortKept_38 ⟨Nat.le_of_ble_eq_true rfl, Nat.le_of_ble_eq_true rfl⟩) hS (fun r16 H1 locs1 hw hk1 hS => ?_)
          have hP := ub_keep hP hk1
          generalize H1 = H at hP hS ⊢
          generalize locs1 = locs at hS ⊢
          obtain ⟨f17, f18⟩ := hw
          have n20 : vp_in r16 320 := (iv_in (n := 320) f17 (by decide))
          refine th_ialdL hx hb hK hP hI 32 (mF 32 rfl) rfl rfl n20 dX8_sortKept_41 (fun y19 ey19 => ?_)
          have ey19 := ey19.trans (hKp.ei 32 _ rfl)
          refine lv_aload_n hx hb dX8_sortKept_42 rfl (lv_at hl 4 rfl) ?_
          refine lv_iload_n hx hb dX8_sortKept_43 rfl (lv_at hl 1 rfl) ?_
          refine th_iL (va_runSN (As := [.int y19, .ref (ad 36), .int v5_3]) (rest := []) ⟨hx, hb, hml, hown, hts⟩ (q_sortIn36 l dC dI cT cf hC ad E5_ H.size y19 v5_3 hI hv5_3) ⟨va_cnB 3 hts (gi_0 (in_17 _ (zs16 (zs4 (zs4 (zs0)))))) rfl rfl rfl (hEV.1.1 _ (List.mem_of_getElem? (i := 9) rfl)) (hts _ (vA_in _ _ (in_4 _ (zs16 (zs4 (zs1 (zs1 (zs1 (zs0))))))))) hz_yX12_sortIn_3 ⟨Nat.le_of_ble_eq_true rfl, Nat.le_of_ble_eq_true rfl⟩, (hts _ (vA_in _ _ (in_17 _ (zs16 (zs4 (zs1 (zs1 (zs1 (zs0))))))))), trivial⟩ ⟨HWL_bl, (HWL_wi hP hK (WL_D hD) hS hA hEV)⟩ rfl rfl hl.1 rfl (lv_room (Nat.le_of_ble_eq_true rfl)) dX8_sortKept_44 ⟨Nat.le_of_ble_eq_true rfl, Nat.le_of_ble_eq_true rfl⟩) (WL_D hD) hS hA (fun r21 E22 H locs hw hP hS => ?_)
          obtain ⟨hI, kq23, hw⟩ := hw
          have hKb := hKp
          have hKp := hKp.tr kq23 (wl_sub rfl rfl)
          obtain ⟨f24, f25⟩ := hw
          refine lv_istore_n (lv' := [(3, .int r21), (4, .int v5_4), (0, .ref (ad 4)), (1, .int a0), (2, .ref (ad 36))]) hx hb dX8_sortKept_47 rfl hl (by decide) rfl (fun ls hl => ?_)
          obtain ⟨y26, ey26⟩ : ∃ y : Int32, y = v5_4 + (1 : Int32) := ⟨_, rfl⟩
          obtain ⟨ty26, iy26⟩ := ti_add (e := 1) (f := 20) i6 ln_1 ey26 (by decide)
          have ty26 : y26.toInt = v5_4.toInt + 1 := ty26
          have iy26 : 1 ≤ y26.toInt ∧ y26.toInt ≤ 20 := iy26
          refine lv_iinc (v := y26) (lv' := [(4, .int y26), (3, .int r21), (0, .ref (ad 4)), (1, .int a0), (2, .ref (ad 36))]) hx hb dX8_sortKept_48 hl (k := 1) rfl (by rw [ey26]; rfl) (by decide) rfl (fun ls hl => ?_)
          refine lv_goto (tgt := 5) hx hb dX8_sortKept_51 (by decide) ?_
          exact ih5 y26 r21 E22 _ _ _ (iv_w iy26 (by decide)) f24 (by first | exact ms_su hx5_0 ty26 (by decide) | omega) hI hKp hP hS (lv_sub hl [0, 1, 2, 3, 4] rfl)
        · --25 not
          have t27 : ¬ y11.toInt = 0 := ti_ne c13
          have i28 : 1 ≤ y11.toInt ∧ y11.toInt ≤ 1 := iv_ne_l t27 iy11 (il_ 0)
          refine lv_goto (tgt := 48) hx hb dX8_sortKept_28 (by decide) ?_
          obtain ⟨y29, ey29⟩ : ∃ y : Int32, y = v5_4 + (1 : Int32) := ⟨_, rfl⟩
          obtain ⟨ty29, iy29⟩ := ti_add (e := 1) (f := 20) i6 ln_1 ey29 (by decide)
          have ty29 : y29.toInt = v5_4.toInt + 1 := ty29
          have iy29 : 1 ≤ y29.toInt ∧ y29.toInt ≤ 20 := iy29
          refine lv_iinc (v := y29) (lv' := [(4, .int y29), (3, .int v5_3), (0, .ref (ad 4)), (1, .int a0), (2, .ref (ad 36))]) hx hb dX8_sortKept_48 hl (k := 0) rfl (by rw [ey29]; rfl) (by decide) rfl (fun ls hl => ?_)
          refine lv_goto (tgt := 5) hx hb dX8_sortKept_51 (by decide) ?_
          exact ih5 y29 v5_3 E5_ _ _ _ (iv_w iy29 (by decide)) hv5_3 (by first | exact ms_su hx5_0 ty29 (by decide) | omega) hI hKp hP hS (lv_sub hl [0, 1, 2, 3, 4] rfl)
  exact hL5 (21) (0 : Int32) (0 : Int32) E _ _ _ (iv_w ln_0 (by decide)) (iv_w ln_0 (by decide)) (by have h9 := ln_0; first | exact ms_bu h9.1 (by decide) | omega) hI hKp hP hS (lv_sub hl [0, 1, 2, 3, 4] rfl)
def v_sortKeptT : List Cond := .code yX8_sortKept cX8_sortKept 5 (some .int) :: vA
abbrev rm_sortKeptT : Room := { frames := 1, cells := 0, slots := 0, locals := 40 }
def w_sortKeptT : Nat → Nat → Bool := wl [37] []
set_option maxHeartbeats 4000000 in
set_option maxRecDepth 100000 in
theorem q_sortKeptT (l : Launch) (dC : Nat → ClassId) (dI : Nat → Nat → Nat) (cT : Nat → ClassId) (cf : Nat → Nat) (hC : CF cf) (ad : Nat → Nat) (E : Nat → va_E) (sz : Nat) (a0 : Int32) (hI0 : IXL cT (shC cf) (spC cf) (LC cf) ad E) (hh0 : 0 ≤ a0.toInt ∧ a0.toInt ≤ 15) : Met l yX8_sortKept v_sortKeptT rm_sortKeptT (va_Pc [.ref (ad 4), .int a0, .ref (ad 37)] (HWL dC dI (TYC cT) cf ad E sz)) (va_Qi (S := Nat → va_E) (fun r u => IXL cT (shC cf) (spC cf) (LC cf) ad u ∧ Kp w_sortKeptT E u ∧ ((0 ≤ r.toInt ∧ r.toInt ≤ 20))) (HBL dC dI (LC cf) ad) (va_A (WL (LC cf) ad E) sz)) 0 0 (va_A (WL (LC cf) ad E) sz) := by
  obtain ⟨⟨hc0, hc1, hc2, hc3, hc4, hc5⟩, hcr⟩ := id hC
  refine Met.ofW (cc := cX8_sortKept) (maxL := 5) (ret := (some .int)) (by decide) rfl ?_
  intro p e s m args below meth c s₁ B hml hv
  obtain ⟨hargs, hsz, hP, hK, hD0, hEV⟩ := hv
  subst hsz
  have hx := B.exec
  have hb := B.bytes
  have hr := B.returns
  have hts := atoms_spec (ws := v_sortKeptT) B.pre
  have hown : s.vm.findClass RX8 = some m.cls := findClass_of_methodNamed B.named
  have hlocks := B.notSynchronized
  have hinX8 : ∀ w ∈ u_ws RX8 TX8 10, w ∈ v_sortKeptT := fun w h => vA_in _ w (in_X8 w h)
  generalize hAe : va_A (WL (LC cf) ad E) s.heap.size = A at hEV ⊢
  have hA : ∀ q : Nat, s.heap.size ≤ q → A q := fun q h => by rw [← hAe]; exact Or.inr h
  have hD : va_D A (WL (LC cf) ad E) := by rw [← hAe]; exact hD0.self
  have hS : va_S A s.heap s.heap [] := va_S.rf
  have hI := hI0
  have hKp : Kp w_sortKeptT E E := Kp.rf
  have hl := lv_entry ([.ref (ad 4), .int a0, .ref (ad 37)]) (n := 5) (Nat.le_of_ble_eq_true rfl)
  obtain ⟨Q, hQ⟩ : ∃ Q, Q = MQ below (va_Qi (S := Nat → va_E) (fun r u => IXL cT (shC cf) (spC cf) (LC cf) ad u ∧ Kp w_sortKeptT E u ∧ ((0 ≤ r.toInt ∧ r.toInt ≤ 20))) (HBL dC dI (LC cf) ad) (A)) args s 0 0 (A) := ⟨_, rfl⟩
  rw [← hQ, show entryFrame m args 5 = _ from (congrArg (fun z => entryFrame m z 5) hargs).trans (lg_entry_eq _ _ _)]
  generalize (lg_sl ([.ref (ad 4), .int a0, .ref (ad 37)]) ++ List.replicate (5 - (lg_sl ([.ref (ad 4), .int a0, .ref (ad 37)])).length) Slot.unset).toArray = ls at hl ⊢
  have hl : lv_has ls 5 [(0, .ref (ad 4)), (1, .int a0), (2, .ref (ad 37))] := hl
  refine lv_iconst (v := 0) hx hb dX8_sortKept_0 (by decide) ?_
  refine lv_istore_n (lv' := [(3, .int 0), (0, .ref (ad 4)), (1, .int a0), (2, .ref (ad 37))]) hx hb dX8_sortKept_1 rfl hl (by decide) rfl (fun ls hl => ?_)
  refine lv_iconst (v := 0) hx hb dX8_sortKept_2 (by decide) ?_
  refine lv_istore (lv' := [(4, .int 0), (3, .int 0), (0, .ref (ad 4)), (1, .int a0), (2, .ref (ad 37))]) hx hb dX8_sortKept_3 hl (by decide) rfl (fun ls hl => ?_)
  have hL5 : ∀ d : Nat, ∀ (v5_4 : Int32) (v5_3 : Int32) (E5_ : Nat → va_E) (H : Heap) (locs : List Loc) (ls : Array Slot), 0 ≤ v5_4.toInt ∧ v5_4.toInt ≤ 20 → 0 ≤ v5_3.toInt ∧ v5_3.toInt ≤ 20 → 20 - v5_4.toInt < (d : Int) → IXL cT (shC cf) (spC cf) (LC cf) ad E5_ → Kp w_sortKeptT E E5_ → va_P (dC, dI) vwCl (WL (LC cf) ad E5_) H → va_S A s.heap H locs → lv_has ls 5 [(4, .int v5_4), (3, .int v5_3), (0, .ref (ad 4)), (1, .int a0), (2, .ref (ad 37))] → W p l e (headSpec v_sortKeptT rm_sortKeptT).room s m args below meth c H locs 0 0 Q (F0 m 5 ls []) := by
    intro d
    induction d with
    | zero =>
      intro v5_4 v5_3 E5_ H locs ls hv5_4 hv5_3 hx5_0 hI hKp hP hS hl
      exact absurd hx5_0 (by first | exact ms_zu hv5_4.2 | omega)
    | succ d ih5 =>
      intro v5_4 v5_3 E5_ H locs ls hv5_4 hv5_3 hx5_0 hI hKp hP hS hl
      refine lv_iload hx hb dX8_sortKept_5 (lv_at hl 0 rfl) ?_
      refine lv_aload_n hx hb dX8_sortKept_7 rfl (lv_at hl 2 rfl) ?_
      have j2 : 0 ≤ (xi (E 4) 2).toInt ∧ (xi (E 4) 2).toInt ≤ ((cf 2 : Nat) : Int) := hI0.iv 4 (mF 4 rfl) rfl (Nat.le_of_ble_eq_true rfl) rfl
      have i1 : 0 ≤ (xi (E 4) 2).toInt ∧ (xi (E 4) 2).toInt ≤ 20 := by omega
      refine th_getL (ci := 9) (C := RX8) (T := TX8) (N := 10) (v := .int (xi (E 4) 2)) hx hb hts hinX8 hown hK hP hI 4 (mF 4 rfl) rfl rfl 2 (Nat.le_of_ble_eq_true rfl) (hts _ (vA_in _ _ (in_20 _ (zs4 (zs4 (zs4 (zs0))))))) (fun _ h9 => h9) (th_v0L hKp hI0 4 (mF 4 rfl) rfl (Nat.le_of_ble_eq_true rfl) rfl rfl) dX8_sortKept_8 ?_
      refine lv_icmp_ge (tgt := 54) hx hb dX8_sortKept_11 (by decide) (fun c3 => ?_) (fun c3 => ?_)
      · --11 taken
        have t4 : (xi (E 4) 2).toInt ≤ v5_4.toInt := ti_le c3
        refine lv_iload_n hx hb dX8_sortKept_54 rfl (lv_at hl 1 rfl) ?_
        rw [hQ]
        exact W.iret (v := v5_3) hx hb hr (fun t ht hW => ⟨⟨v5_3, E5_, rfl, ⟨hI, hKp, hv5_3⟩, by show va_P (dC, dI) vwCl (WL (LC cf) ad E5_) t.heap; rw [ht]; exact hP⟩, hS.F ht⟩) hS.2.2 dX8_sortKept_55
      · --11 not
        have t5 : v5_4.toInt < (xi (E 4) 2).toInt := ti_nle c3
        have i6 : 0 ≤ v5_4.toInt ∧ v5_4.toInt ≤ 19 := iv_lt_l t5 hv5_4 i1 (by decide)
        have i7 : 1 ≤ (xi (E 4) 2).toInt ∧ (xi (E 4) 2).toInt ≤ 20 := iv_lt_r t5 hv5_4 i1 (by decide)
        refine lv_aload_n hx hb dX8_sortKept_14 rfl (lv_at hl 2 rfl) ?_
        refine th_getL (ci := 9) (C := RX8) (T := TX8) (N := 10) (v := .ref (ad 33)) hx hb hts hinX8 hown hK hP hI 4 (mF 4 rfl) rfl rfl 5 (Nat.le_of_ble_eq_true rfl) (hts _ (vA_in _ _ (in_19 _ (zs4 (zs4 (zs1 (zs1 (zs1 (zs0))))))))) (fun _ h9 => h9) (hI.fr 4 (mF 4 rfl) rfl (Nat.le_of_ble_eq_true rfl) 33 rfl) dX8_sortKept_15 ?_
        refine lv_iload hx hb dX8_sortKept_18 (lv_at hl 0 rfl) ?_
        refine lv_iload_n hx hb dX8_sortKept_20 rfl (lv_at hl 3 rfl) ?_
        refine th_pi (va_runSN (As := [.int v5_4, .int a0]) (rest := [.ref (ad 33)]) ⟨hx, hb, hml, hown, hts⟩ (q_ccell l v5_4 a0 i6 hh0) ⟨va_cnB 2 hts (gi_0 (in_10 _ (zs16 (zs4 (zs0))))) rfl rfl rfl (hEV.1.1 _ (List.mem_of_getElem? (i := 10) rfl)) (hts _ (vA_in _ _ (in_4 _ (zs16 (zs4 (zs1 (zs1 (zs1 (zs0))))))))) hz_yX12_cell_2 ⟨Nat.le_of_ble_eq_true rfl, Nat.le_of_ble_eq_true rfl⟩, (hts _ (vA_in _ _ (in_13 _ (zs1 (zs0))))), trivial⟩ ⟨fun _ _ _ _ q => q, fun _ _ _ => ⟨rfl, trivial⟩⟩ rfl rfl hl.1 rfl (lv_room (Nat.le_of_ble_eq_true rfl)) dX8_sortKept_21 ⟨Nat.le_of_ble_eq_true rfl, Nat.le_of_ble_eq_true rfl⟩) hS (fun r8 H1 locs1 hw hk1 hS => ?_)
        have hP := ub_keep hP hk1
        generalize H1 = H at hP hS ⊢
        generalize locs1 = locs at hS ⊢
        obtain ⟨f9, f10⟩ := hw
        have n12 : vp_in r8 320 := (iv_in (n := 320) f9 (by decide))
        refine th_zaldL hx hb hK hP hI 33 (mF 33 rfl) rfl rfl n12 dX8_sortKept_24 (fun y11 ey11 => ?_)
        have iy11 : 0 ≤ y11.toInt ∧ y11.toInt ≤ 1 := hI.el 33 (mF 33 rfl) rfl n12 (fun _ => rfl) ey11
        have ey11 := ey11.trans (hKp.ei 33 _ rfl)
        refine lv_if_eq (tgt := 31) hx hb dX8_sortKept_25 (by decide) (fun c13 => ?_) (fun c13 => ?_)
        · --25 taken
          have t14 : y11.toInt = 0 := ti_eq c13
          have i15 : 0 ≤ y11.toInt ∧ y11.toInt ≤ 0 := iv_eqi t14 iy11 (il_ 0) (by decide)
          refine lv_aload_n hx hb dX8_sortKept_31 rfl (lv_at hl 2 rfl) ?_
          refine th_getL (ci := 9) (C := RX8) (T := TX8) (N := 10) (v := .ref (ad 32)) hx hb hts hinX8 hown hK hP hI 4 (mF 4 rfl) rfl rfl 4 (Nat.le_of_ble_eq_true rfl) (hts _ (vA_in _ _ (in_19 _ (zs4 (zs4 (zs1 (zs0))))))) (fun _ h9 => h9) (hI.fr 4 (mF 4 rfl) rfl (Nat.le_of_ble_eq_true rfl) 32 rfl) dX8_sortKept_32 ?_
          refine lv_iload hx hb dX8_sortKept_35 (lv_at hl 0 rfl) ?_
          refine lv_iload_n hx hb dX8_sortKept_37 rfl (lv_at hl 3 rfl) ?_
          refine th_pi (va_runSN (As := [.int v5_4, .int a0]) (rest := [.ref (ad 32)]) ⟨hx, hb, hml, hown, hts⟩ (q_ccell l v5_4 a0 i6 hh0) ⟨va_cnB 2 hts (gi_0 (in_10 _ (zs16 (zs4 (zs0))))) rfl rfl rfl (hEV.1.1 _ (List.mem_of_getElem? (i := 10) rfl)) (hts _ (vA_in _ _ (in_4 _ (zs16 (zs4 (zs1 (zs1 (zs1 (zs0))))))))) hz_yX12_cell_2 ⟨Nat.le_of_ble_eq_true rfl, Nat.le_of_ble_eq_true rfl⟩, (hts _ (vA_in _ _ (in_13 _ (zs1 (zs0))))), trivial⟩ ⟨fun _ _ _ _ q => q, fun _ _ _ => ⟨rfl, trivial⟩⟩ rfl rfl hl.1 rfl (lv_room (Nat.le_of_ble_eq_true rfl)) dX8_sortKept_38 ⟨Nat.le_of_ble_eq_true rfl, Nat.le_of_ble_eq_true rfl⟩) hS (fun r16 H1 locs1 hw hk1 hS => ?_)
          have hP := ub_keep hP hk1
          generalize H1 = H at hP hS ⊢
          generalize locs1 = locs at hS ⊢
          obtain ⟨f17, f18⟩ := hw
          have n20 : vp_in r16 320 := (iv_in (n := 320) f17 (by decide))
          refine th_ialdL hx hb hK hP hI 32 (mF 32 rfl) rfl rfl n20 dX8_sortKept_41 (fun y19 ey19 => ?_)
          have ey19 := ey19.trans (hKp.ei 32 _ rfl)
          refine lv_aload_n hx hb dX8_sortKept_42 rfl (lv_at hl 4 rfl) ?_
          refine lv_iload_n hx hb dX8_sortKept_43 rfl (lv_at hl 1 rfl) ?_
          refine th_iL (va_runSN (As := [.int y19, .ref (ad 37), .int v5_3]) (rest := []) ⟨hx, hb, hml, hown, hts⟩ (q_sortIn37 l dC dI cT cf hC ad E5_ H.size y19 v5_3 hI hv5_3) ⟨va_cnB 3 hts (gi_0 (in_17 _ (zs16 (zs4 (zs4 (zs0)))))) rfl rfl rfl (hEV.1.1 _ (List.mem_of_getElem? (i := 9) rfl)) (hts _ (vA_in _ _ (in_4 _ (zs16 (zs4 (zs1 (zs1 (zs1 (zs0))))))))) hz_yX12_sortIn_3 ⟨Nat.le_of_ble_eq_true rfl, Nat.le_of_ble_eq_true rfl⟩, (hts _ (vA_in _ _ (in_17 _ (zs16 (zs4 (zs1 (zs1 (zs1 (zs0))))))))), trivial⟩ ⟨HWL_bl, (HWL_wi hP hK (WL_D hD) hS hA hEV)⟩ rfl rfl hl.1 rfl (lv_room (Nat.le_of_ble_eq_true rfl)) dX8_sortKept_44 ⟨Nat.le_of_ble_eq_true rfl, Nat.le_of_ble_eq_true rfl⟩) (WL_D hD) hS hA (fun r21 E22 H locs hw hP hS => ?_)
          obtain ⟨hI, kq23, hw⟩ := hw
          have hKb := hKp
          have hKp := hKp.tr kq23 (wl_sub rfl rfl)
          obtain ⟨f24, f25⟩ := hw
          refine lv_istore_n (lv' := [(3, .int r21), (4, .int v5_4), (0, .ref (ad 4)), (1, .int a0), (2, .ref (ad 37))]) hx hb dX8_sortKept_47 rfl hl (by decide) rfl (fun ls hl => ?_)
          obtain ⟨y26, ey26⟩ : ∃ y : Int32, y = v5_4 + (1 : Int32) := ⟨_, rfl⟩
          obtain ⟨ty26, iy26⟩ := ti_add (e := 1) (f := 20) i6 ln_1 ey26 (by decide)
          have ty26 : y26.toInt = v5_4.toInt + 1 := ty26
          have iy26 : 1 ≤ y26.toInt ∧ y26.toInt ≤ 20 := iy26
          refine lv_iinc (v := y26) (lv' := [(4, .int y26), (3, .int r21), (0, .ref (ad 4)), (1, .int a0), (2, .ref (ad 37))]) hx hb dX8_sortKept_48 hl (k := 1) rfl (by rw [ey26]; rfl) (by decide) rfl (fun ls hl => ?_)
          refine lv_goto (tgt := 5) hx hb dX8_sortKept_51 (by decide) ?_
          exact ih5 y26 r21 E22 _ _ _ (iv_w iy26 (by decide)) f24 (by first | exact ms_su hx5_0 ty26 (by decide) | omega) hI hKp hP hS (lv_sub hl [0, 1, 2, 3, 4] rfl)
        · --25 not
          have t27 : ¬ y11.toInt = 0 := ti_ne c13
          have i28 : 1 ≤ y11.toInt ∧ y11.toInt ≤ 1 := iv_ne_l t27 iy11 (il_ 0)
          refine lv_goto (tgt := 48) hx hb dX8_sortKept_28 (by decide) ?_
          obtain ⟨y29, ey29⟩ : ∃ y : Int32, y = v5_4 + (1 : Int32) := ⟨_, rfl⟩
          obtain ⟨ty29, iy29⟩ := ti_add (e := 1) (f := 20) i6 ln_1 ey29 (by decide)
          have ty29 : y29.toInt = v5_4.toInt + 1 := ty29
          have iy29 : 1 ≤ y29.toInt ∧ y29.toInt ≤ 20 := iy29
          refine lv_iinc (v := y29) (lv' := [(4, .int y29), (3, .int v5_3), (0, .ref (ad 4)), (1, .int a0), (2, .ref (ad 37))]) hx hb dX8_sortKept_48 hl (k := 0) rfl (by rw [ey29]; rfl) (by decide) rfl (fun ls hl => ?_)
          refine lv_goto (tgt := 5) hx hb dX8_sortKept_51 (by decide) ?_
          exact ih5 y29 v5_3 E5_ _ _ _ (iv_w iy29 (by decide)) hv5_3 (by first | exact ms_su hx5_0 ty29 (by decide) | omega) hI hKp hP hS (lv_sub hl [0, 1, 2, 3, 4] rfl)
  exact hL5 (21) (0 : Int32) (0 : Int32) E _ _ _ (iv_w ln_0 (by decide)) (iv_w ln_0 (by decide)) (by have h9 := ln_0; first | exact ms_bu h9.1 (by decide) | omega) hI hKp hP hS (lv_sub hl [0, 1, 2, 3, 4] rfl)
def v_isBetterC : List Cond := .code yX8_isBetter cX8_isBetter 7 (some .boolean) :: vA
abbrev rm_isBetterC : Room := { frames := 2, cells := 0, slots := 0, locals := 80 }
def w_isBetterC : Nat → Nat → Bool := wl [36, 37] []
set_option maxHeartbeats 4000000 in
set_option maxRecDepth 100000 in
theorem q_isBetterC (l : Launch) (dC : Nat → ClassId) (dI : Nat → Nat → Nat) (cT : Nat → ClassId) (cf : Nat → Nat) (hC : CF cf) (ad : Nat → Nat) (E : Nat → va_E) (sz : Nat) (a0 : Int32) (a1 : Int32) (hI0 : IXL cT (shC cf) (spC cf) (LC cf) ad E) (hh0 : 0 ≤ a0.toInt ∧ a0.toInt ≤ 15) (hh1 : 0 ≤ a1.toInt ∧ a1.toInt ≤ 15) : Met l yX8_isBetter v_isBetterC rm_isBetterC (va_Pc [.ref (ad 4), .int a0, .int a1] (HWL dC dI (TYC cT) cf ad E sz)) (va_Qi (S := Nat → va_E) (fun r u => IXL cT (shC cf) (spC cf) (LC cf) ad u ∧ Kp w_isBetterC E u ∧ ((0 ≤ r.toInt ∧ r.toInt ≤ 1))) (HBL dC dI (LC cf) ad) (va_A (WL (LC cf) ad E) sz)) 0 0 (va_A (WL (LC cf) ad E) sz) := by
  obtain ⟨⟨hc0, hc1, hc2, hc3, hc4, hc5⟩, hcr⟩ := id hC
  refine Met.ofW (cc := cX8_isBetter) (maxL := 7) (ret := (some .boolean)) (by decide) rfl ?_
  intro p e s m args below meth c s₁ B hml hv
  obtain ⟨hargs, hsz, hP, hK, hD0, hEV⟩ := hv
  subst hsz
  have hx := B.exec
  have hb := B.bytes
  have hr := B.returns
  have hts := atoms_spec (ws := v_isBetterC) B.pre
  have hown : s.vm.findClass RX8 = some m.cls := findClass_of_methodNamed B.named
  have hlocks := B.notSynchronized
  have hinX8 : ∀ w ∈ u_ws RX8 TX8 10, w ∈ v_isBetterC := fun w h => vA_in _ w (in_X8 w h)
  generalize hAe : va_A (WL (LC cf) ad E) s.heap.size = A at hEV ⊢
  have hA : ∀ q : Nat, s.heap.size ≤ q → A q := fun q h => by rw [← hAe]; exact Or.inr h
  have hD : va_D A (WL (LC cf) ad E) := by rw [← hAe]; exact hD0.self
  have hS : va_S A s.heap s.heap [] := va_S.rf
  have hI := hI0
  have hKp : Kp w_isBetterC E E := Kp.rf
  have hl := lv_entry ([.ref (ad 4), .int a0, .int a1]) (n := 7) (Nat.le_of_ble_eq_true rfl)
  obtain ⟨Q, hQ⟩ : ∃ Q, Q = MQ below (va_Qi (S := Nat → va_E) (fun r u => IXL cT (shC cf) (spC cf) (LC cf) ad u ∧ Kp w_isBetterC E u ∧ ((0 ≤ r.toInt ∧ r.toInt ≤ 1))) (HBL dC dI (LC cf) ad) (A)) args s 0 0 (A) := ⟨_, rfl⟩
  rw [← hQ, show entryFrame m args 7 = _ from (congrArg (fun z => entryFrame m z 7) hargs).trans (lg_entry_eq _ _ _)]
  generalize (lg_sl ([.ref (ad 4), .int a0, .int a1]) ++ List.replicate (7 - (lg_sl ([.ref (ad 4), .int a0, .int a1])).length) Slot.unset).toArray = ls at hl ⊢
  have hl : lv_has ls 7 [(0, .ref (ad 4)), (1, .int a0), (2, .int a1)] := hl
  refine lv_aload_n hx hb dX8_isBetter_0 rfl (lv_at hl 0 rfl) ?_
  refine th_getL (ci := 9) (C := RX8) (T := TX8) (N := 10) (v := .ref (ad 35)) hx hb hts hinX8 hown hK hP hI 4 (mF 4 rfl) rfl rfl 7 (Nat.le_of_ble_eq_true rfl) (hts _ (vA_in _ _ (in_19 _ (zs4 (zs4 (zs4 (zs1 (zs0)))))))) (fun _ h9 => h9) (hI.fr 4 (mF 4 rfl) rfl (Nat.le_of_ble_eq_true rfl) 35 rfl) dX8_isBetter_1 ?_
  refine lv_iload_n hx hb dX8_isBetter_4 rfl (lv_at hl 1 rfl) ?_
  have n2 : vp_in a0 16 := (iv_in (n := 16) hh0 (by decide))
  refine th_ialdL hx hb hK hP hI 35 (mF 35 rfl) rfl rfl n2 dX8_isBetter_5 (fun y1 ey1 => ?_)
  have ey1 := ey1.trans (hKp.ei 35 _ rfl)
  refine lv_aload_n hx hb dX8_isBetter_6 rfl (lv_at hl 0 rfl) ?_
  refine th_getL (ci := 9) (C := RX8) (T := TX8) (N := 10) (v := .ref (ad 35)) hx hb hts hinX8 hown hK hP hI 4 (mF 4 rfl) rfl rfl 7 (Nat.le_of_ble_eq_true rfl) (hts _ (vA_in _ _ (in_19 _ (zs4 (zs4 (zs4 (zs1 (zs0)))))))) (fun _ h9 => h9) (hI.fr 4 (mF 4 rfl) rfl (Nat.le_of_ble_eq_true rfl) 35 rfl) dX8_isBetter_7 ?_
  refine lv_iload_n hx hb dX8_isBetter_10 rfl (lv_at hl 2 rfl) ?_
  have n4 : vp_in a1 16 := (iv_in (n := 16) hh1 (by decide))
  refine th_ialdL hx hb hK hP hI 35 (mF 35 rfl) rfl rfl n4 dX8_isBetter_11 (fun y3 ey3 => ?_)
  have ey3 := ey3.trans (hKp.ei 35 _ rfl)
  refine lv_icmp_eq (tgt := 36) hx hb dX8_isBetter_12 (by decide) (fun c5 => ?_) (fun c5 => ?_)
  · --12 taken
    have t6 : y1.toInt = y3.toInt := ti_eq c5
    refine lv_aload_n hx hb dX8_isBetter_36 rfl (lv_at hl 0 rfl) ?_
    refine lv_iload_n hx hb dX8_isBetter_37 rfl (lv_at hl 1 rfl) ?_
    refine lv_aload_n hx hb dX8_isBetter_38 rfl (lv_at hl 0 rfl) ?_
    refine th_getL (ci := 9) (C := RX8) (T := TX8) (N := 10) (v := .ref (ad 36)) hx hb hts hinX8 hown hK hP hI 4 (mF 4 rfl) rfl rfl 8 (Nat.le_of_ble_eq_true rfl) (hts _ (vA_in _ _ (in_19 _ (zs4 (zs4 (zs4 (zs1 (zs1 (zs0))))))))) (fun _ h9 => h9) (hI.fr 4 (mF 4 rfl) rfl (Nat.le_of_ble_eq_true rfl) 36 rfl) dX8_isBetter_39 ?_
    refine th_iL (va_runV (As := [.int a0, .ref (ad 36)]) (rest := []) ⟨hx, hb, hml, hown, hts⟩ (q_sortKeptM l dC dI cT cf hC ad E s.heap.size a0 hI hh0) (cwV 2 hts (gi_V (in_22 _ (zs4 (zs4 (zs4 (zs1 (zs0)))))) (in_22 _ (zs4 (zs4 (zs4 (zs1 (zs1 (zs0))))))) (in_22 _ (zs4 (zs4 (zs4 (zs1 (zs1 (zs1 (zs0)))))))) (in_18 _ (zs16 (zs16 (zs0)))) (in_22 _ (zs16 (zs0)))) rfl rfl rfl ⟨rfl, hz_yX8_sortKept_2⟩ ⟨Nat.le_of_ble_eq_true rfl, Nat.le_of_ble_eq_true rfl⟩) ⟨HWL_bl, va_recv hK hP (ci := 9) (q0 := posL 4 (LC cf)) rfl (hI.ob 4 (mF 4 rfl) rfl), (HWL_wi hP hK (WL_D hD) hS hA hEV)⟩ rfl rfl hl.1 rfl (lv_room (Nat.le_of_ble_eq_true rfl)) dX8_isBetter_42 ⟨Nat.le_of_ble_eq_true rfl, Nat.le_of_ble_eq_true rfl⟩) (WL_D hD) hS hA (fun r7 E8 H locs hw hP hS => ?_)
    obtain ⟨hI, kq9, hw⟩ := hw
    have hKb := hKp
    have hKp := hKp.tr kq9 (wl_sub rfl rfl)
    have f10 := hw
    refine lv_istore_n (lv' := [(3, .int r7), (0, .ref (ad 4)), (1, .int a0), (2, .int a1)]) hx hb dX8_isBetter_45 rfl hl (by decide) rfl (fun ls hl => ?_)
    refine lv_aload_n hx hb dX8_isBetter_46 rfl (lv_at hl 1 rfl) ?_
    refine lv_iload_n hx hb dX8_isBetter_47 rfl (lv_at hl 3 rfl) ?_
    refine lv_aload_n hx hb dX8_isBetter_48 rfl (lv_at hl 1 rfl) ?_
    refine th_getL (ci := 9) (C := RX8) (T := TX8) (N := 10) (v := .ref (ad 37)) hx hb hts hinX8 hown hK hP hI 4 (mF 4 rfl) rfl rfl 9 (Nat.le_of_ble_eq_true rfl) (hts _ (vA_in _ _ (in_19 _ (zs4 (zs4 (zs4 (zs1 (zs1 (zs1 (zs0)))))))))) (fun _ h9 => h9) (hI.fr 4 (mF 4 rfl) rfl (Nat.le_of_ble_eq_true rfl) 37 rfl) dX8_isBetter_49 ?_
    refine th_iL (va_runV (As := [.int a1, .ref (ad 37)]) (rest := []) ⟨hx, hb, hml, hown, hts⟩ (q_sortKeptT l dC dI cT cf hC ad E8 H.size a1 hI hh1) (cwV 2 hts (gi_V (in_22 _ (zs4 (zs4 (zs4 (zs1 (zs0)))))) (in_22 _ (zs4 (zs4 (zs4 (zs1 (zs1 (zs0))))))) (in_22 _ (zs4 (zs4 (zs4 (zs1 (zs1 (zs1 (zs0)))))))) (in_18 _ (zs16 (zs16 (zs0)))) (in_22 _ (zs16 (zs0)))) rfl rfl rfl ⟨rfl, hz_yX8_sortKept_2⟩ ⟨Nat.le_of_ble_eq_true rfl, Nat.le_of_ble_eq_true rfl⟩) ⟨HWL_bl, va_recv hK hP (ci := 9) (q0 := posL 4 (LC cf)) rfl (hI.ob 4 (mF 4 rfl) rfl), (HWL_wi hP hK (WL_D hD) hS hA hEV)⟩ rfl rfl hl.1 rfl (lv_room (Nat.le_of_ble_eq_true rfl)) dX8_isBetter_52 ⟨Nat.le_of_ble_eq_true rfl, Nat.le_of_ble_eq_true rfl⟩) (WL_D hD) hS hA (fun r11 E12 H locs hw hP hS => ?_)
    obtain ⟨hI, kq13, hw⟩ := hw
    have hKb := hKp
    have hKp := hKp.tr kq13 (wl_sub rfl rfl)
    have f14 := hw
    refine lv_pop hx hb dX8_isBetter_55 rfl ?_
    refine lv_iconst (v := 0) hx hb dX8_isBetter_56 (by decide) ?_
    refine lv_istore (lv' := [(4, .int 0), (3, .int r7), (0, .ref (ad 4)), (1, .int a0), (2, .int a1)]) hx hb dX8_isBetter_57 hl (by decide) rfl (fun ls hl => ?_)
    have hL59 : ∀ d : Nat, ∀ (v59_4 : Int32) (H : Heap) (locs : List Loc) (ls : Array Slot), 0 ≤ v59_4.toInt ∧ v59_4.toInt ≤ 20 → 20 - v59_4.toInt < (d : Int) → va_P (dC, dI) vwCl (WL (LC cf) ad E12) H → va_S A s.heap H locs → lv_has ls 7 [(4, .int v59_4), (3, .int r7), (0, .ref (ad 4)), (1, .int a0), (2, .int a1)] → W p l e (headSpec v_isBetterC rm_isBetterC).room s m args below meth c H locs 0 0 Q (F0 m 59 ls []) := by
      intro d
      induction d with
      | zero =>
        intro v59_4 H locs ls hv59_4 hx59_0 hP hS hl
        exact absurd hx59_0 (by first | exact ms_zu hv59_4.2 | omega)
      | succ d ih59 =>
        intro v59_4 H locs ls hv59_4 hx59_0 hP hS hl
        refine lv_iload hx hb dX8_isBetter_59 (lv_at hl 0 rfl) ?_
        refine lv_iload_n hx hb dX8_isBetter_61 rfl (lv_at hl 1 rfl) ?_
        refine lv_icmp_ge (tgt := 111) hx hb dX8_isBetter_62 (by decide) (fun c15 => ?_) (fun c15 => ?_)
        · --62 taken
          have t16 : r7.toInt ≤ v59_4.toInt := ti_le c15
          refine lv_aload_n hx hb dX8_isBetter_111 rfl (lv_at hl 2 rfl) ?_
          have j18 : 0 ≤ (xi (E 4) 2).toInt ∧ (xi (E 4) 2).toInt ≤ ((cf 2 : Nat) : Int) := hI0.iv 4 (mF 4 rfl) rfl (Nat.le_of_ble_eq_true rfl) rfl
          have i17 : 0 ≤ (xi (E 4) 2).toInt ∧ (xi (E 4) 2).toInt ≤ 20 := by omega
          refine th_getL (ci := 9) (C := RX8) (T := TX8) (N := 10) (v := .int (xi (E 4) 2)) hx hb hts hinX8 hown hK hP hI 4 (mF 4 rfl) rfl rfl 2 (Nat.le_of_ble_eq_true rfl) (hts _ (vA_in _ _ (in_20 _ (zs4 (zs4 (zs4 (zs0))))))) (fun _ h9 => h9) (th_v0L hKp hI0 4 (mF 4 rfl) rfl (Nat.le_of_ble_eq_true rfl) rfl rfl) dX8_isBetter_112 ?_
          refine lv_iconst (v := 1) hx hb dX8_isBetter_115 (by decide) ?_
          refine lv_isub hx hb dX8_isBetter_116 ?_
          refine lv_topi (fun y19 ey19 => ?_)
          obtain ⟨ty19, iy19⟩ := ti_sub (e := (-1)) (f := 19) i17 ln_1 ey19 (by decide)
          have ty19 : y19.toInt = (xi (E 4) 2).toInt - 1 := ty19
          have iy19 : -1 ≤ y19.toInt ∧ y19.toInt ≤ 19 := iy19
          refine lv_istore (lv' := [(4, .int y19), (3, .int r7), (0, .ref (ad 4)), (1, .int a0), (2, .int a1)]) hx hb dX8_isBetter_117 hl (by decide) rfl (fun ls hl => ?_)
          have hL119 : ∀ d : Nat, ∀ (v119_4 : Int32) (H : Heap) (locs : List Loc) (ls : Array Slot), -1 ≤ v119_4.toInt ∧ v119_4.toInt ≤ 19 → v119_4.toInt - (-1) < (d : Int) → va_P (dC, dI) vwCl (WL (LC cf) ad E12) H → va_S A s.heap H locs → lv_has ls 7 [(4, .int v119_4), (3, .int r7), (0, .ref (ad 4)), (1, .int a0), (2, .int a1)] → W p l e (headSpec v_isBetterC rm_isBetterC).room s m args below meth c H locs 0 0 Q (F0 m 119 ls []) := by
            intro d
            induction d with
            | zero =>
              intro v119_4 H locs ls hv119_4 hx119_0 hP hS hl
              exact absurd hx119_0 (by first | exact ms_zd hv119_4.1 | omega)
            | succ d ih119 =>
              intro v119_4 H locs ls hv119_4 hx119_0 hP hS hl
              refine lv_iload hx hb dX8_isBetter_119 (lv_at hl 0 rfl) ?_
              refine lv_if_lt (tgt := 176) hx hb dX8_isBetter_121 (by decide) (fun c20 => ?_) (fun c20 => ?_)
              · --121 taken
                have t21 : v119_4.toInt < 0 := ti_lt c20
                have i22 : -1 ≤ v119_4.toInt ∧ v119_4.toInt ≤ -1 := iv_lt_l t21 hv119_4 (il_ 0) (by decide)
                refine lv_iload_n hx hb dX8_isBetter_176 rfl (lv_at hl 3 rfl) ?_
                refine lv_iload_n hx hb dX8_isBetter_177 rfl (lv_at hl 4 rfl) ?_
                refine lv_icmp_ge (tgt := 185) hx hb dX8_isBetter_178 (by decide) (fun c23 => ?_) (fun c23 => ?_)
                · --178 taken
                  have t24 : a1.toInt ≤ a0.toInt := ti_le c23
                  refine lv_iconst (v := 0) hx hb dX8_isBetter_185 (by decide) ?_
                  rw [hQ]
                  exact W.zret (v := 0) hx hb hr rfl (fun t ht hW => ⟨⟨0, E12, rfl, ⟨hI, hKp, (iv_w ln_0 (by decide))⟩, by show va_P (dC, dI) vwCl (WL (LC cf) ad E12) t.heap; rw [ht]; exact hP⟩, hS.F ht⟩) hS.2.2 dX8_isBetter_186
                · --178 not
                  have t25 : a0.toInt < a1.toInt := ti_nle c23
                  have i26 : 0 ≤ a0.toInt ∧ a0.toInt ≤ 14 := iv_lt_l t25 hh0 hh1 (by decide)
                  have i27 : 1 ≤ a1.toInt ∧ a1.toInt ≤ 15 := iv_lt_r t25 hh0 hh1 (by decide)
                  refine lv_iconst (v := 1) hx hb dX8_isBetter_181 (by decide) ?_
                  refine lv_goto (tgt := 186) hx hb dX8_isBetter_182 (by decide) ?_
                  rw [hQ]
                  exact W.zret (v := 1) hx hb hr rfl (fun t ht hW => ⟨⟨1, E12, rfl, ⟨hI, hKp, (iv_w ln_1 (by decide))⟩, by show va_P (dC, dI) vwCl (WL (LC cf) ad E12) t.heap; rw [ht]; exact hP⟩, hS.F ht⟩) hS.2.2 dX8_isBetter_186
              · --121 not
                have t28 : (0 : Int) ≤ v119_4.toInt := ti_nlt c20
                have i29 : 0 ≤ v119_4.toInt ∧ v119_4.toInt ≤ 19 := iv_le_r t28 (il_ 0) hv119_4 (by decide)
                refine lv_aload_n hx hb dX8_isBetter_124 rfl (lv_at hl 2 rfl) ?_
                refine th_getL (ci := 9) (C := RX8) (T := TX8) (N := 10) (v := .ref (ad 32)) hx hb hts hinX8 hown hK hP hI 4 (mF 4 rfl) rfl rfl 4 (Nat.le_of_ble_eq_true rfl) (hts _ (vA_in _ _ (in_19 _ (zs4 (zs4 (zs1 (zs0))))))) (fun _ h9 => h9) (hI.fr 4 (mF 4 rfl) rfl (Nat.le_of_ble_eq_true rfl) 32 rfl) dX8_isBetter_125 ?_
                refine lv_iload hx hb dX8_isBetter_128 (lv_at hl 0 rfl) ?_
                refine lv_iload_n hx hb dX8_isBetter_130 rfl (lv_at hl 3 rfl) ?_
                refine th_pi (va_runSN (As := [.int v119_4, .int a0]) (rest := [.ref (ad 32)]) ⟨hx, hb, hml, hown, hts⟩ (q_ccell l v119_4 a0 i29 hh0) ⟨va_cnB 2 hts (gi_0 (in_10 _ (zs16 (zs4 (zs0))))) rfl rfl rfl (hEV.1.1 _ (List.mem_of_getElem? (i := 10) rfl)) (hts _ (vA_in _ _ (in_4 _ (zs16 (zs4 (zs1 (zs1 (zs1 (zs0))))))))) hz_yX12_cell_2 ⟨Nat.le_of_ble_eq_true rfl, Nat.le_of_ble_eq_true rfl⟩, (hts _ (vA_in _ _ (in_13 _ (zs1 (zs0))))), trivial⟩ ⟨fun _ _ _ _ q => q, fun _ _ _ => ⟨rfl, trivial⟩⟩ rfl rfl hl.1 rfl (lv_room (Nat.le_of_ble_eq_true rfl)) dX8_isBetter_131 ⟨Nat.le_of_ble_eq_true rfl, Nat.le_of_ble_eq_true rfl⟩) hS (fun r30 H1 locs1 hw hk1 hS => ?_)
                have hP := ub_keep hP hk1
                generalize H1 = H at hP hS ⊢
                generalize locs1 = locs at hS ⊢
                obtain ⟨f31, f32⟩ := hw
                have n34 : vp_in r30 320 := (iv_in (n := 320) f31 (by decide))
                refine th_ialdL hx hb hK hP hI 32 (mF 32 rfl) rfl rfl n34 dX8_isBetter_134 (fun y33 ey33 => ?_)
                have ey33 := ey33.trans (hKp.ei 32 _ rfl)
                refine lv_istore (lv' := [(5, .int y33), (4, .int v119_4), (3, .int r7), (0, .ref (ad 4)), (1, .int a0), (2, .int a1)]) hx hb dX8_isBetter_135 hl (by decide) rfl (fun ls hl => ?_)
                refine lv_aload_n hx hb dX8_isBetter_137 rfl (lv_at hl 3 rfl) ?_
                refine th_getL (ci := 9) (C := RX8) (T := TX8) (N := 10) (v := .ref (ad 32)) hx hb hts hinX8 hown hK hP hI 4 (mF 4 rfl) rfl rfl 4 (Nat.le_of_ble_eq_true rfl) (hts _ (vA_in _ _ (in_19 _ (zs4 (zs4 (zs1 (zs0))))))) (fun _ h9 => h9) (hI.fr 4 (mF 4 rfl) rfl (Nat.le_of_ble_eq_true rfl) 32 rfl) dX8_isBetter_138 ?_
                refine lv_iload hx hb dX8_isBetter_141 (lv_at hl 1 rfl) ?_
                refine lv_iload_n hx hb dX8_isBetter_143 rfl (lv_at hl 5 rfl) ?_
                refine th_pi (va_runSN (As := [.int v119_4, .int a1]) (rest := [.ref (ad 32)]) ⟨hx, hb, hml, hown, hts⟩ (q_ccell l v119_4 a1 i29 hh1) ⟨va_cnB 2 hts (gi_0 (in_10 _ (zs16 (zs4 (zs0))))) rfl rfl rfl (hEV.1.1 _ (List.mem_of_getElem? (i := 10) rfl)) (hts _ (vA_in _ _ (in_4 _ (zs16 (zs4 (zs1 (zs1 (zs1 (zs0))))))))) hz_yX12_cell_2 ⟨Nat.le_of_ble_eq_true rfl, Nat.le_of_ble_eq_true rfl⟩, (hts _ (vA_in _ _ (in_13 _ (zs1 (zs0))))), trivial⟩ ⟨fun _ _ _ _ q => q, fun _ _ _ => ⟨rfl, trivial⟩⟩ rfl rfl hl.1 rfl (lv_room (Nat.le_of_ble_eq_true rfl)) dX8_isBetter_144 ⟨Nat.le_of_ble_eq_true rfl, Nat.le_of_ble_eq_true rfl⟩) hS (fun r35 H1 locs1 hw hk1 hS => ?_)
                have hP := ub_keep hP hk1
                generalize H1 = H at hP hS ⊢
                generalize locs1 = locs at hS ⊢
                obtain ⟨f36, f37⟩ := hw
                have n39 : vp_in r35 320 := (iv_in (n := 320) f36 (by decide))
                refine th_ialdL hx hb hK hP hI 32 (mF 32 rfl) rfl rfl n39 dX8_isBetter_147 (fun y38 ey38 => ?_)
                have ey38 := ey38.trans (hKp.ei 32 _ rfl)
                refine lv_istore (lv' := [(6, .int y38), (5, .int y33), (4, .int v119_4), (3, .int r7), (0, .ref (ad 4)), (1, .int a0), (2, .int a1)]) hx hb dX8_isBetter_148 hl (by decide) rfl (fun ls hl => ?_)
                refine lv_iload hx hb dX8_isBetter_150 (lv_at hl 1 rfl) ?_
                refine lv_iload hx hb dX8_isBetter_152 (lv_at hl 0 rfl) ?_
                refine lv_icmp_eq (tgt := 170) hx hb dX8_isBetter_154 (by decide) (fun c40 => ?_) (fun c40 => ?_)
                · --154 taken
                  have t41 : y33.toInt = y38.toInt := ti_eq c40
                  obtain ⟨y42, ey42⟩ : ∃ y : Int32, y = v119_4 + (-1 : Int32) := ⟨_, rfl⟩
                  obtain ⟨ty42, iy42⟩ := ti_add (e := (-1)) (f := 18) i29 ln_m1 ey42 (by decide)
                  have ty42 : y42.toInt = v119_4.toInt + (-1) := ty42
                  have iy42 : -1 ≤ y42.toInt ∧ y42.toInt ≤ 18 := iy42
                  refine lv_iinc (v := y42) (lv' := [(4, .int y42), (6, .int y38), (5, .int y33), (3, .int r7), (0, .ref (ad 4)), (1, .int a0), (2, .int a1)]) hx hb dX8_isBetter_170 hl (k := 2) rfl (by rw [ey42]; rfl) (by decide) rfl (fun ls hl => ?_)
                  refine lv_goto (tgt := 119) hx hb dX8_isBetter_173 (by decide) ?_
                  exact ih119 y42 _ _ _ (iv_w iy42 (by decide)) (by first | exact ms_sd hx119_0 ty42 (by decide) | exact ms_sd2 hx119_0 ty42 | omega) hP hS (lv_sub hl [0, 3, 4, 5, 6] rfl)
                · --154 not
                  have t43 : ¬ y33.toInt = y38.toInt := ti_ne c40
                  refine lv_iload hx hb dX8_isBetter_157 (lv_at hl 1 rfl) ?_
                  refine lv_iload hx hb dX8_isBetter_159 (lv_at hl 0 rfl) ?_
                  refine lv_icmp_ge (tgt := 168) hx hb dX8_isBetter_161 (by decide) (fun c44 => ?_) (fun c44 => ?_)
                  · --161 taken
                    have t45 : y38.toInt ≤ y33.toInt := ti_le c44
                    refine lv_iconst (v := 0) hx hb dX8_isBetter_168 (by decide) ?_
                    rw [hQ]
                    exact W.zret (v := 0) hx hb hr rfl (fun t ht hW => ⟨⟨0, E12, rfl, ⟨hI, hKp, (iv_w ln_0 (by decide))⟩, by show va_P (dC, dI) vwCl (WL (LC cf) ad E12) t.heap; rw [ht]; exact hP⟩, hS.F ht⟩) hS.2.2 dX8_isBetter_169
                  · --161 not
                    have t46 : y33.toInt < y38.toInt := ti_nle c44
                    have i47 : -2147483648 ≤ y33.toInt ∧ y33.toInt ≤ 2147483646 := iv_lt_l t46 (iv_all _) (iv_all _) (by decide)
                    have i48 : -2147483647 ≤ y38.toInt ∧ y38.toInt ≤ 2147483647 := iv_lt_r t46 (iv_all _) (iv_all _) (by decide)
                    refine lv_iconst (v := 1) hx hb dX8_isBetter_164 (by decide) ?_
                    refine lv_goto (tgt := 169) hx hb dX8_isBetter_165 (by decide) ?_
                    rw [hQ]
                    exact W.zret (v := 1) hx hb hr rfl (fun t ht hW => ⟨⟨1, E12, rfl, ⟨hI, hKp, (iv_w ln_1 (by decide))⟩, by show va_P (dC, dI) vwCl (WL (LC cf) ad E12) t.heap; rw [ht]; exact hP⟩, hS.F ht⟩) hS.2.2 dX8_isBetter_169
          exact hL119 (21) y19 _ _ _ iy19 (by have h9 := iy19; first | exact ms_bd h9.2 (by decide) | omega) hP hS (lv_sub hl [0, 1, 2, 3, 4] rfl)
        · --62 not
          have t49 : v59_4.toInt < r7.toInt := ti_nle c15
          have i50 : 0 ≤ v59_4.toInt ∧ v59_4.toInt ≤ 19 := iv_lt_l t49 hv59_4 f10 (by decide)
          have i51 : 1 ≤ r7.toInt ∧ r7.toInt ≤ 20 := iv_lt_r t49 hv59_4 f10 (by decide)
          refine lv_aload_n hx hb dX8_isBetter_65 rfl (lv_at hl 2 rfl) ?_
          refine th_getL (ci := 9) (C := RX8) (T := TX8) (N := 10) (v := .ref (ad 36)) hx hb hts hinX8 hown hK hP hI 4 (mF 4 rfl) rfl rfl 8 (Nat.le_of_ble_eq_true rfl) (hts _ (vA_in _ _ (in_19 _ (zs4 (zs4 (zs4 (zs1 (zs1 (zs0))))))))) (fun _ h9 => h9) (hI.fr 4 (mF 4 rfl) rfl (Nat.le_of_ble_eq_true rfl) 36 rfl) dX8_isBetter_66 ?_
          refine lv_iload hx hb dX8_isBetter_69 (lv_at hl 0 rfl) ?_
          have n53 : vp_in v59_4 20 := (iv_in (n := 20) i50 (by decide))
          refine th_ialdL hx hb hK hP hI 36 (mF 36 rfl) rfl rfl n53 dX8_isBetter_71 (fun y52 ey52 => ?_)
          refine lv_aload_n hx hb dX8_isBetter_72 rfl (lv_at hl 2 rfl) ?_
          refine th_getL (ci := 9) (C := RX8) (T := TX8) (N := 10) (v := .ref (ad 37)) hx hb hts hinX8 hown hK hP hI 4 (mF 4 rfl) rfl rfl 9 (Nat.le_of_ble_eq_true rfl) (hts _ (vA_in _ _ (in_19 _ (zs4 (zs4 (zs4 (zs1 (zs1 (zs1 (zs0)))))))))) (fun _ h9 => h9) (hI.fr 4 (mF 4 rfl) rfl (Nat.le_of_ble_eq_true rfl) 37 rfl) dX8_isBetter_73 ?_
          refine lv_iload hx hb dX8_isBetter_76 (lv_at hl 0 rfl) ?_
          have n55 : vp_in v59_4 20 := (iv_in (n := 20) i50 (by decide))
          refine th_ialdL hx hb hK hP hI 37 (mF 37 rfl) rfl rfl n55 dX8_isBetter_78 (fun y54 ey54 => ?_)
          refine lv_icmp_eq (tgt := 105) hx hb dX8_isBetter_79 (by decide) (fun c56 => ?_) (fun c56 => ?_)
          · --79 taken
            have t57 : y52.toInt = y54.toInt := ti_eq c56
            obtain ⟨y58, ey58⟩ : ∃ y : Int32, y = v59_4 + (1 : Int32) := ⟨_, rfl⟩
            obtain ⟨ty58, iy58⟩ := ti_add (e := 1) (f := 20) i50 ln_1 ey58 (by decide)
            have ty58 : y58.toInt = v59_4.toInt + 1 := ty58
            have iy58 : 1 ≤ y58.toInt ∧ y58.toInt ≤ 20 := iy58
            refine lv_iinc (v := y58) (lv' := [(4, .int y58), (3, .int r7), (0, .ref (ad 4)), (1, .int a0), (2, .int a1)]) hx hb dX8_isBetter_105 hl (k := 0) rfl (by rw [ey58]; rfl) (by decide) rfl (fun ls hl => ?_)
            refine lv_goto (tgt := 59) hx hb dX8_isBetter_108 (by decide) ?_
            exact ih59 y58 _ _ _ (iv_w iy58 (by decide)) (by first | exact ms_su hx59_0 ty58 (by decide) | omega) hP hS (lv_sub hl [0, 1, 2, 3, 4] rfl)
          · --79 not
            have t59 : ¬ y52.toInt = y54.toInt := ti_ne c56
            refine lv_aload_n hx hb dX8_isBetter_82 rfl (lv_at hl 2 rfl) ?_
            refine th_getL (ci := 9) (C := RX8) (T := TX8) (N := 10) (v := .ref (ad 36)) hx hb hts hinX8 hown hK hP hI 4 (mF 4 rfl) rfl rfl 8 (Nat.le_of_ble_eq_true rfl) (hts _ (vA_in _ _ (in_19 _ (zs4 (zs4 (zs4 (zs1 (zs1 (zs0))))))))) (fun _ h9 => h9) (hI.fr 4 (mF 4 rfl) rfl (Nat.le_of_ble_eq_true rfl) 36 rfl) dX8_isBetter_83 ?_
            refine lv_iload hx hb dX8_isBetter_86 (lv_at hl 0 rfl) ?_
            have n61 : vp_in v59_4 20 := (iv_in (n := 20) i50 (by decide))
            refine th_ialdL hx hb hK hP hI 36 (mF 36 rfl) rfl rfl n61 dX8_isBetter_88 (fun y60 ey60 => ?_)
            refine lv_aload_n hx hb dX8_isBetter_89 rfl (lv_at hl 2 rfl) ?_
            refine th_getL (ci := 9) (C := RX8) (T := TX8) (N := 10) (v := .ref (ad 37)) hx hb hts hinX8 hown hK hP hI 4 (mF 4 rfl) rfl rfl 9 (Nat.le_of_ble_eq_true rfl) (hts _ (vA_in _ _ (in_19 _ (zs4 (zs4 (zs4 (zs1 (zs1 (zs1 (zs0)))))))))) (fun _ h9 => h9) (hI.fr 4 (mF 4 rfl) rfl (Nat.le_of_ble_eq_true rfl) 37 rfl) dX8_isBetter_90 ?_
            refine lv_iload hx hb dX8_isBetter_93 (lv_at hl 0 rfl) ?_
            have n63 : vp_in v59_4 20 := (iv_in (n := 20) i50 (by decide))
            refine th_ialdL hx hb hK hP hI 37 (mF 37 rfl) rfl rfl n63 dX8_isBetter_95 (fun y62 ey62 => ?_)
            refine lv_icmp_ge (tgt := 103) hx hb dX8_isBetter_96 (by decide) (fun c64 => ?_) (fun c64 => ?_)
            · --96 taken
              have t65 : y62.toInt ≤ y60.toInt := ti_le c64
              refine lv_iconst (v := 0) hx hb dX8_isBetter_103 (by decide) ?_
              rw [hQ]
              exact W.zret (v := 0) hx hb hr rfl (fun t ht hW => ⟨⟨0, E12, rfl, ⟨hI, hKp, (iv_w ln_0 (by decide))⟩, by show va_P (dC, dI) vwCl (WL (LC cf) ad E12) t.heap; rw [ht]; exact hP⟩, hS.F ht⟩) hS.2.2 dX8_isBetter_104
            · --96 not
              have t66 : y60.toInt < y62.toInt := ti_nle c64
              have i67 : -2147483648 ≤ y60.toInt ∧ y60.toInt ≤ 2147483646 := iv_lt_l t66 (iv_all _) (iv_all _) (by decide)
              have i68 : -2147483647 ≤ y62.toInt ∧ y62.toInt ≤ 2147483647 := iv_lt_r t66 (iv_all _) (iv_all _) (by decide)
              refine lv_iconst (v := 1) hx hb dX8_isBetter_99 (by decide) ?_
              refine lv_goto (tgt := 104) hx hb dX8_isBetter_100 (by decide) ?_
              rw [hQ]
              exact W.zret (v := 1) hx hb hr rfl (fun t ht hW => ⟨⟨1, E12, rfl, ⟨hI, hKp, (iv_w ln_1 (by decide))⟩, by show va_P (dC, dI) vwCl (WL (LC cf) ad E12) t.heap; rw [ht]; exact hP⟩, hS.F ht⟩) hS.2.2 dX8_isBetter_104
    exact hL59 (21) (0 : Int32) _ _ _ (iv_w ln_0 (by decide)) (by have h9 := ln_0; first | exact ms_bu h9.1 (by decide) | omega) hP hS (lv_sub hl [0, 1, 2, 3, 4] rfl)
  · --12 not
    have t69 : ¬ y1.toInt = y3.toInt := ti_ne c5
    refine lv_aload_n hx hb dX8_isBetter_15 rfl (lv_at hl 0 rfl) ?_
    refine th_getL (ci := 9) (C := RX8) (T := TX8) (N := 10) (v := .ref (ad 35)) hx hb hts hinX8 hown hK hP hI 4 (mF 4 rfl) rfl rfl 7 (Nat.le_of_ble_eq_true rfl) (hts _ (vA_in _ _ (in_19 _ (zs4 (zs4 (zs4 (zs1 (zs0)))))))) (fun _ h9 => h9) (hI.fr 4 (mF 4 rfl) rfl (Nat.le_of_ble_eq_true rfl) 35 rfl) dX8_isBetter_16 ?_
    refine lv_iload_n hx hb dX8_isBetter_19 rfl (lv_at hl 1 rfl) ?_
    have n71 : vp_in a0 16 := (iv_in (n := 16) hh0 (by decide))
    refine th_ialdL hx hb hK hP hI 35 (mF 35 rfl) rfl rfl n71 dX8_isBetter_20 (fun y70 ey70 => ?_)
    have ey70 := ey70.trans (hKp.ei 35 _ rfl)
    refine lv_aload_n hx hb dX8_isBetter_21 rfl (lv_at hl 0 rfl) ?_
    refine th_getL (ci := 9) (C := RX8) (T := TX8) (N := 10) (v := .ref (ad 35)) hx hb hts hinX8 hown hK hP hI 4 (mF 4 rfl) rfl rfl 7 (Nat.le_of_ble_eq_true rfl) (hts _ (vA_in _ _ (in_19 _ (zs4 (zs4 (zs4 (zs1 (zs0)))))))) (fun _ h9 => h9) (hI.fr 4 (mF 4 rfl) rfl (Nat.le_of_ble_eq_true rfl) 35 rfl) dX8_isBetter_22 ?_
    refine lv_iload_n hx hb dX8_isBetter_25 rfl (lv_at hl 2 rfl) ?_
    have n73 : vp_in a1 16 := (iv_in (n := 16) hh1 (by decide))
    refine th_ialdL hx hb hK hP hI 35 (mF 35 rfl) rfl rfl n73 dX8_isBetter_26 (fun y72 ey72 => ?_)
    have ey72 := ey72.trans (hKp.ei 35 _ rfl)
    refine lv_icmp_ge (tgt := 34) hx hb dX8_isBetter_27 (by decide) (fun c74 => ?_) (fun c74 => ?_)
    · --27 taken
      have t75 : y72.toInt ≤ y70.toInt := ti_le c74
      refine lv_iconst (v := 0) hx hb dX8_isBetter_34 (by decide) ?_
      rw [hQ]
      exact W.zret (v := 0) hx hb hr rfl (fun t ht hW => ⟨⟨0, E, rfl, ⟨hI, hKp, (iv_w ln_0 (by decide))⟩, by show va_P (dC, dI) vwCl (WL (LC cf) ad E) t.heap; rw [ht]; exact hP⟩, hS.F ht⟩) hS.2.2 dX8_isBetter_35
    · --27 not
      have t76 : y70.toInt < y72.toInt := ti_nle c74
      have i77 : -2147483648 ≤ y70.toInt ∧ y70.toInt ≤ 2147483646 := iv_lt_l t76 (iv_all _) (iv_all _) (by decide)
      have i78 : -2147483647 ≤ y72.toInt ∧ y72.toInt ≤ 2147483647 := iv_lt_r t76 (iv_all _) (iv_all _) (by decide)
      refine lv_iconst (v := 1) hx hb dX8_isBetter_30 (by decide) ?_
      refine lv_goto (tgt := 35) hx hb dX8_isBetter_31 (by decide) ?_
      rw [hQ]
      exact W.zret (v := 1) hx hb hr rfl (fun t ht hW => ⟨⟨1, E, rfl, ⟨hI, hKp, (iv_w ln_1 (by decide))⟩, by show va_P (dC, dI) vwCl (WL (LC cf) ad E) t.heap; rw [ht]; exact hP⟩, hS.F ht⟩) hS.2.2 dX8_isBetter_35
def v_boatAt : List Cond := .code yX8_boatAt cX8_boatAt 5 (some .int) :: vA
abbrev rm_boatAt : Room := { frames := 3, cells := 0, slots := 0, locals := 120 }
def w_boatAt : Nat → Nat → Bool := wl [36, 37] []
set_option maxHeartbeats 4000000 in
set_option maxRecDepth 100000 in
theorem q_boatAt (l : Launch) (dC : Nat → ClassId) (dI : Nat → Nat → Nat) (cT : Nat → ClassId) (cf : Nat → Nat) (hC : CF cf) (ad : Nat → Nat) (E : Nat → va_E) (sz : Nat) (a0 : Int32) (hI0 : IXL cT (shC cf) (spC cf) (LC cf) ad E)  : Met l yX8_boatAt v_boatAt rm_boatAt (va_Pc [.ref (ad 4), .int a0] (HWL dC dI (TYC cT) cf ad E sz)) (va_Qi (S := Nat → va_E) (fun r u => IXL cT (shC cf) (spC cf) (LC cf) ad u ∧ Kp w_boatAt E u ∧ ((-1 ≤ r.toInt ∧ r.toInt ≤ 15))) (HBL dC dI (LC cf) ad) (va_A (WL (LC cf) ad E) sz)) 0 0 (va_A (WL (LC cf) ad E) sz) := by
  obtain ⟨⟨hc0, hc1, hc2, hc3, hc4, hc5⟩, hcr⟩ := id hC
  refine Met.ofW (cc := cX8_boatAt) (maxL := 5) (ret := (some .int)) (by decide) rfl ?_
  intro p e s m args below meth c s₁ B hml hv
  obtain ⟨hargs, hsz, hP, hK, hD0, hEV⟩ := hv
  subst hsz
  have hx := B.exec
  have hb := B.bytes
  have hr := B.returns
  have hts := atoms_spec (ws := v_boatAt) B.pre
  have hown : s.vm.findClass RX8 = some m.cls := findClass_of_methodNamed B.named
  have hlocks := B.notSynchronized
  have hinX0 : ∀ w ∈ u_ws RX0 TX0 11, w ∈ v_boatAt := fun w h => vA_in _ w (in_X0 w h)
  have hinX8 : ∀ w ∈ u_ws RX8 TX8 10, w ∈ v_boatAt := fun w h => vA_in _ w (in_X8 w h)
  generalize hAe : va_A (WL (LC cf) ad E) s.heap.size = A at hEV ⊢
  have hA : ∀ q : Nat, s.heap.size ≤ q → A q := fun q h => by rw [← hAe]; exact Or.inr h
  have hD : va_D A (WL (LC cf) ad E) := by rw [← hAe]; exact hD0.self
  have hS : va_S A s.heap s.heap [] := va_S.rf
  have hI := hI0
  have hKp : Kp w_boatAt E E := Kp.rf
  have hl := lv_entry ([.ref (ad 4), .int a0]) (n := 5) (Nat.le_of_ble_eq_true rfl)
  obtain ⟨Q, hQ⟩ : ∃ Q, Q = MQ below (va_Qi (S := Nat → va_E) (fun r u => IXL cT (shC cf) (spC cf) (LC cf) ad u ∧ Kp w_boatAt E u ∧ ((-1 ≤ r.toInt ∧ r.toInt ≤ 15))) (HBL dC dI (LC cf) ad) (A)) args s 0 0 (A) := ⟨_, rfl⟩
  rw [← hQ, show entryFrame m args 5 = _ from (congrArg (fun z => entryFrame m z 5) hargs).trans (lg_entry_eq _ _ _)]
  generalize (lg_sl ([.ref (ad 4), .int a0]) ++ List.replicate (5 - (lg_sl ([.ref (ad 4), .int a0])).length) Slot.unset).toArray = ls at hl ⊢
  have hl : lv_has ls 5 [(0, .ref (ad 4)), (1, .int a0)] := hl
  refine lv_iconst (v := 0) hx hb dX8_boatAt_0 (by decide) ?_
  refine lv_istore_n (lv' := [(2, .int 0), (0, .ref (ad 4)), (1, .int a0)]) hx hb dX8_boatAt_1 rfl hl (by decide) rfl (fun ls hl => ?_)
  have hL2 : ∀ d : Nat, ∀ (v2_2 : Int32) (E2_ : Nat → va_E) (H : Heap) (locs : List Loc) (ls : Array Slot), 0 ≤ v2_2.toInt ∧ v2_2.toInt ≤ 16 → 16 - v2_2.toInt < (d : Int) → IXL cT (shC cf) (spC cf) (LC cf) ad E2_ → Kp w_boatAt E E2_ → va_P (dC, dI) vwCl (WL (LC cf) ad E2_) H → va_S A s.heap H locs → lv_has ls 5 [(2, .int v2_2), (0, .ref (ad 4)), (1, .int a0)] → W p l e (headSpec v_boatAt rm_boatAt).room s m args below meth c H locs 0 0 Q (F0 m 2 ls []) := by
    intro d
    induction d with
    | zero =>
      intro v2_2 E2_ H locs ls hv2_2 hx2_0 hI hKp hP hS hl
      exact absurd hx2_0 (by first | exact ms_zu hv2_2.2 | omega)
    | succ d ih2 =>
      intro v2_2 E2_ H locs ls hv2_2 hx2_0 hI hKp hP hS hl
      refine lv_iload_n hx hb dX8_boatAt_2 rfl (lv_at hl 0 rfl) ?_
      refine lv_aload_n hx hb dX8_boatAt_3 rfl (lv_at hl 1 rfl) ?_
      refine th_getL (ci := 9) (C := RX8) (T := TX8) (N := 10) (v := .ref (ad 1)) hx hb hts hinX8 hown hK hP hI 4 (mF 4 rfl) rfl rfl 0 (Nat.le_of_ble_eq_true rfl) (hts _ (vA_in _ _ (in_19 _ (zs16 (zs0))))) (fun _ h9 => h9) (hI.fr 4 (mF 4 rfl) rfl (Nat.le_of_ble_eq_true rfl) 1 rfl) dX8_boatAt_4 ?_
      have i1 : 0 ≤ (xi (E 1) 1).toInt ∧ (xi (E 1) 1).toInt ≤ 16 := hI0.iv 1 (mF 1 rfl) rfl (Nat.le_of_ble_eq_true rfl) rfl
      refine th_getL (ci := 1) (C := RX0) (T := TX0) (N := 11) (v := .int (xi (E 1) 1)) hx hb hts hinX0 hown hK hP hI 1 (mF 1 rfl) rfl rfl 1 (Nat.le_of_ble_eq_true rfl) (hts _ (vA_in _ _ (in_21 _ (zs16 (zs4 (zs4 (zs1 (zs1 (zs0))))))))) (fun _ h9 => h9) (th_v0L hKp hI0 1 (mF 1 rfl) rfl (Nat.le_of_ble_eq_true rfl) rfl rfl) dX8_boatAt_7 ?_
      refine lv_icmp_ge (tgt := 90) hx hb dX8_boatAt_10 (by decide) (fun c2 => ?_) (fun c2 => ?_)
      · --10 taken
        have t3 : (xi (E 1) 1).toInt ≤ v2_2.toInt := ti_le c2
        refine lv_iconst (v := -1) hx hb dX8_boatAt_90 (by decide) ?_
        rw [hQ]
        exact W.iret (v := (-1)) hx hb hr (fun t ht hW => ⟨⟨(-1), E2_, rfl, ⟨hI, hKp, (iv_w ln_m1 (by decide))⟩, by show va_P (dC, dI) vwCl (WL (LC cf) ad E2_) t.heap; rw [ht]; exact hP⟩, hS.F ht⟩) hS.2.2 dX8_boatAt_91
      · --10 not
        have t4 : v2_2.toInt < (xi (E 1) 1).toInt := ti_nle c2
        have i5 : 0 ≤ v2_2.toInt ∧ v2_2.toInt ≤ 15 := iv_lt_l t4 hv2_2 i1 (by decide)
        have i6 : 1 ≤ (xi (E 1) 1).toInt ∧ (xi (E 1) 1).toInt ≤ 16 := iv_lt_r t4 hv2_2 i1 (by decide)
        refine lv_aload_n hx hb dX8_boatAt_13 rfl (lv_at hl 1 rfl) ?_
        refine th_getL (ci := 9) (C := RX8) (T := TX8) (N := 10) (v := .ref (ad 34)) hx hb hts hinX8 hown hK hP hI 4 (mF 4 rfl) rfl rfl 6 (Nat.le_of_ble_eq_true rfl) (hts _ (vA_in _ _ (in_19 _ (zs4 (zs4 (zs4 (zs0))))))) (fun _ h9 => h9) (hI.fr 4 (mF 4 rfl) rfl (Nat.le_of_ble_eq_true rfl) 34 rfl) dX8_boatAt_14 ?_
        refine lv_iload_n hx hb dX8_boatAt_17 rfl (lv_at hl 0 rfl) ?_
        have n8 : vp_in v2_2 16 := (iv_in (n := 16) i5 (by decide))
        refine th_zaldL hx hb hK hP hI 34 (mF 34 rfl) rfl rfl n8 dX8_boatAt_18 (fun y7 ey7 => ?_)
        have iy7 : 0 ≤ y7.toInt ∧ y7.toInt ≤ 1 := hI.el 34 (mF 34 rfl) rfl n8 (fun _ => rfl) ey7
        have ey7 := ey7.trans (hKp.ei 34 _ rfl)
        refine lv_if_ne (tgt := 25) hx hb dX8_boatAt_19 (by decide) (fun c9 => ?_) (fun c9 => ?_)
        · --19 taken
          have t10 : ¬ y7.toInt = 0 := ti_ne c9
          have i11 : 1 ≤ y7.toInt ∧ y7.toInt ≤ 1 := iv_ne_l t10 iy7 (il_ 0)
          refine lv_iconst (v := 0) hx hb dX8_boatAt_25 (by decide) ?_
          refine lv_istore_n (lv' := [(3, .int 0), (2, .int v2_2), (0, .ref (ad 4)), (1, .int a0)]) hx hb dX8_boatAt_26 rfl hl (by decide) rfl (fun ls hl => ?_)
          refine lv_iconst (v := 0) hx hb dX8_boatAt_27 (by decide) ?_
          refine lv_istore (lv' := [(4, .int 0), (3, .int 0), (2, .int v2_2), (0, .ref (ad 4)), (1, .int a0)]) hx hb dX8_boatAt_28 hl (by decide) rfl (fun ls hl => ?_)
          have hL30 : ∀ d : Nat, ∀ (v30_4 : Int32) (v30_3 : Int32) (E30_ : Nat → va_E) (H : Heap) (locs : List Loc) (ls : Array Slot), 0 ≤ v30_4.toInt ∧ v30_4.toInt ≤ 16 → 16 - v30_4.toInt < (d : Int) → IXL cT (shC cf) (spC cf) (LC cf) ad E30_ → Kp w_boatAt E E30_ → va_P (dC, dI) vwCl (WL (LC cf) ad E30_) H → va_S A s.heap H locs → lv_has ls 5 [(4, .int v30_4), (3, .int v30_3), (2, .int v2_2), (0, .ref (ad 4)), (1, .int a0)] → W p l e (headSpec v_boatAt rm_boatAt).room s m args below meth c H locs 0 0 Q (F0 m 30 ls []) := by
            intro d
            induction d with
            | zero =>
              intro v30_4 v30_3 E30_ H locs ls hv30_4 hx30_0 hI hKp hP hS hl
              exact absurd hx30_0 (by first | exact ms_zu hv30_4.2 | omega)
            | succ d ih30 =>
              intro v30_4 v30_3 E30_ H locs ls hv30_4 hx30_0 hI hKp hP hS hl
              refine lv_iload hx hb dX8_boatAt_30 (lv_at hl 0 rfl) ?_
              refine lv_aload_n hx hb dX8_boatAt_32 rfl (lv_at hl 3 rfl) ?_
              refine th_getL (ci := 9) (C := RX8) (T := TX8) (N := 10) (v := .ref (ad 1)) hx hb hts hinX8 hown hK hP hI 4 (mF 4 rfl) rfl rfl 0 (Nat.le_of_ble_eq_true rfl) (hts _ (vA_in _ _ (in_19 _ (zs16 (zs0))))) (fun _ h9 => h9) (hI.fr 4 (mF 4 rfl) rfl (Nat.le_of_ble_eq_true rfl) 1 rfl) dX8_boatAt_33 ?_
              refine th_getL (ci := 1) (C := RX0) (T := TX0) (N := 11) (v := .int (xi (E 1) 1)) hx hb hts hinX0 hown hK hP hI 1 (mF 1 rfl) rfl rfl 1 (Nat.le_of_ble_eq_true rfl) (hts _ (vA_in _ _ (in_21 _ (zs16 (zs4 (zs4 (zs1 (zs1 (zs0))))))))) (fun _ h9 => h9) (th_v0L hKp hI0 1 (mF 1 rfl) rfl (Nat.le_of_ble_eq_true rfl) rfl rfl) dX8_boatAt_36 ?_
              refine lv_icmp_ge (tgt := 77) hx hb dX8_boatAt_39 (by decide) (fun c12 => ?_) (fun c12 => ?_)
              · --39 taken
                have t13 : (xi (E 1) 1).toInt ≤ v30_4.toInt := ti_le c12
                have i14 : 1 ≤ v30_4.toInt ∧ v30_4.toInt ≤ 16 := iv_le_r t13 i6 hv30_4 (by decide)
                refine lv_iload_n hx hb dX8_boatAt_77 rfl (lv_at hl 1 rfl) ?_
                refine lv_iload_n hx hb dX8_boatAt_78 rfl (lv_at hl 4 rfl) ?_
                refine lv_icmp_ne (tgt := 84) hx hb dX8_boatAt_79 (by decide) (fun c15 => ?_) (fun c15 => ?_)
                · --79 taken
                  have t16 : ¬ v30_3.toInt = a0.toInt := ti_ne c15
                  obtain ⟨y17, ey17⟩ : ∃ y : Int32, y = v2_2 + (1 : Int32) := ⟨_, rfl⟩
                  obtain ⟨ty17, iy17⟩ := ti_add (e := 1) (f := 16) i5 ln_1 ey17 (by decide)
                  have ty17 : y17.toInt = v2_2.toInt + 1 := ty17
                  have iy17 : 1 ≤ y17.toInt ∧ y17.toInt ≤ 16 := iy17
                  refine lv_iinc (v := y17) (lv' := [(2, .int y17), (4, .int v30_4), (3, .int v30_3), (0, .ref (ad 4)), (1, .int a0)]) hx hb dX8_boatAt_84 hl (k := 2) rfl (by rw [ey17]; rfl) (by decide) rfl (fun ls hl => ?_)
                  refine lv_goto (tgt := 2) hx hb dX8_boatAt_87 (by decide) ?_
                  exact ih2 y17 E30_ _ _ _ (iv_w iy17 (by decide)) (by first | exact ms_su hx2_0 ty17 (by decide) | omega) hI hKp hP hS (lv_sub hl [0, 3, 4] rfl)
                · --79 not
                  have t18 : v30_3.toInt = a0.toInt := ti_eq c15
                  refine lv_iload_n hx hb dX8_boatAt_82 rfl (lv_at hl 2 rfl) ?_
                  rw [hQ]
                  exact W.iret (v := v2_2) hx hb hr (fun t ht hW => ⟨⟨v2_2, E30_, rfl, ⟨hI, hKp, (iv_w i5 (by decide))⟩, by show va_P (dC, dI) vwCl (WL (LC cf) ad E30_) t.heap; rw [ht]; exact hP⟩, hS.F ht⟩) hS.2.2 dX8_boatAt_83
              · --39 not
                have t19 : v30_4.toInt < (xi (E 1) 1).toInt := ti_nle c12
                have i20 : 0 ≤ v30_4.toInt ∧ v30_4.toInt ≤ 15 := iv_lt_l t19 hv30_4 i6 (by decide)
                refine lv_iload hx hb dX8_boatAt_42 (lv_at hl 0 rfl) ?_
                refine lv_iload_n hx hb dX8_boatAt_44 rfl (lv_at hl 2 rfl) ?_
                refine lv_icmp_eq (tgt := 71) hx hb dX8_boatAt_45 (by decide) (fun c21 => ?_) (fun c21 => ?_)
                · --45 taken
                  have t22 : v30_4.toInt = v2_2.toInt := ti_eq c21
                  obtain ⟨y23, ey23⟩ : ∃ y : Int32, y = v30_4 + (1 : Int32) := ⟨_, rfl⟩
                  obtain ⟨ty23, iy23⟩ := ti_add (e := 1) (f := 16) i20 ln_1 ey23 (by decide)
                  have ty23 : y23.toInt = v30_4.toInt + 1 := ty23
                  have iy23 : 1 ≤ y23.toInt ∧ y23.toInt ≤ 16 := iy23
                  refine lv_iinc (v := y23) (lv' := [(4, .int y23), (3, .int v30_3), (2, .int v2_2), (0, .ref (ad 4)), (1, .int a0)]) hx hb dX8_boatAt_71 hl (k := 0) rfl (by rw [ey23]; rfl) (by decide) rfl (fun ls hl => ?_)
                  refine lv_goto (tgt := 30) hx hb dX8_boatAt_74 (by decide) ?_
                  exact ih30 y23 v30_3 E30_ _ _ _ (iv_w iy23 (by decide)) (by first | exact ms_su hx30_0 ty23 (by decide) | omega) hI hKp hP hS (lv_sub hl [0, 1, 2, 3, 4] rfl)
                · --45 not
                  have t24 : ¬ v30_4.toInt = v2_2.toInt := ti_ne c21
                  refine lv_aload_n hx hb dX8_boatAt_48 rfl (lv_at hl 3 rfl) ?_
                  refine th_getL (ci := 9) (C := RX8) (T := TX8) (N := 10) (v := .ref (ad 34)) hx hb hts hinX8 hown hK hP hI 4 (mF 4 rfl) rfl rfl 6 (Nat.le_of_ble_eq_true rfl) (hts _ (vA_in _ _ (in_19 _ (zs4 (zs4 (zs4 (zs0))))))) (fun _ h9 => h9) (hI.fr 4 (mF 4 rfl) rfl (Nat.le_of_ble_eq_true rfl) 34 rfl) dX8_boatAt_49 ?_
                  refine lv_iload hx hb dX8_boatAt_52 (lv_at hl 0 rfl) ?_
                  have n26 : vp_in v30_4 16 := (iv_in (n := 16) i20 (by decide))
                  refine th_zaldL hx hb hK hP hI 34 (mF 34 rfl) rfl rfl n26 dX8_boatAt_54 (fun y25 ey25 => ?_)
                  have iy25 : 0 ≤ y25.toInt ∧ y25.toInt ≤ 1 := hI.el 34 (mF 34 rfl) rfl n26 (fun _ => rfl) ey25
                  have ey25 := ey25.trans (hKp.ei 34 _ rfl)
                  refine lv_if_eq (tgt := 71) hx hb dX8_boatAt_55 (by decide) (fun c27 => ?_) (fun c27 => ?_)
                  · --55 taken
                    have t28 : y25.toInt = 0 := ti_eq c27
                    have i29 : 0 ≤ y25.toInt ∧ y25.toInt ≤ 0 := iv_eqi t28 iy25 (il_ 0) (by decide)
                    obtain ⟨y30, ey30⟩ : ∃ y : Int32, y = v30_4 + (1 : Int32) := ⟨_, rfl⟩
                    obtain ⟨ty30, iy30⟩ := ti_add (e := 1) (f := 16) i20 ln_1 ey30 (by decide)
                    have ty30 : y30.toInt = v30_4.toInt + 1 := ty30
                    have iy30 : 1 ≤ y30.toInt ∧ y30.toInt ≤ 16 := iy30
                    refine lv_iinc (v := y30) (lv' := [(4, .int y30), (3, .int v30_3), (2, .int v2_2), (0, .ref (ad 4)), (1, .int a0)]) hx hb dX8_boatAt_71 hl (k := 0) rfl (by rw [ey30]; rfl) (by decide) rfl (fun ls hl => ?_)
                    refine lv_goto (tgt := 30) hx hb dX8_boatAt_74 (by decide) ?_
                    exact ih30 y30 v30_3 E30_ _ _ _ (iv_w iy30 (by decide)) (by first | exact ms_su hx30_0 ty30 (by decide) | omega) hI hKp hP hS (lv_sub hl [0, 1, 2, 3, 4] rfl)
                  · --55 not
                    have t31 : ¬ y25.toInt = 0 := ti_ne c27
                    have i32 : 1 ≤ y25.toInt ∧ y25.toInt ≤ 1 := iv_ne_l t31 iy25 (il_ 0)
                    refine lv_aload_n hx hb dX8_boatAt_58 rfl (lv_at hl 3 rfl) ?_
                    refine lv_iload hx hb dX8_boatAt_59 (lv_at hl 0 rfl) ?_
                    refine lv_iload_n hx hb dX8_boatAt_61 rfl (lv_at hl 2 rfl) ?_
                    refine th_iL (va_runV (As := [.int v30_4, .int v2_2]) (rest := []) ⟨hx, hb, hml, hown, hts⟩ (q_isBetterC l dC dI cT cf hC ad E30_ H.size v30_4 v2_2 hI i20 i5) (cwV 2 hts (gi_V (in_22 _ (zs4 (zs4 (zs1 (zs0))))) (in_22 _ (zs4 (zs4 (zs1 (zs1 (zs0)))))) (in_22 _ (zs4 (zs4 (zs1 (zs1 (zs1 (zs0))))))) (in_18 _ (zs16 (zs16 (zs0)))) (in_22 _ (zs4 (zs4 (zs4 (zs0)))))) rfl rfl rfl ⟨rfl, hz_yX8_isBetter_2⟩ ⟨Nat.le_of_ble_eq_true rfl, Nat.le_of_ble_eq_true rfl⟩) ⟨HWL_bl, va_recv hK hP (ci := 9) (q0 := posL 4 (LC cf)) rfl (hI.ob 4 (mF 4 rfl) rfl), (HWL_wi hP hK (WL_D hD) hS hA hEV)⟩ rfl rfl hl.1 rfl (lv_room (Nat.le_of_ble_eq_true rfl)) dX8_boatAt_62 ⟨Nat.le_of_ble_eq_true rfl, Nat.le_of_ble_eq_true rfl⟩) (WL_D hD) hS hA (fun r33 E34 H locs hw hP hS => ?_)
                    obtain ⟨hI, kq35, hw⟩ := hw
                    have hKb := hKp
                    have hKp := hKp.tr kq35 (wl_sub rfl rfl)
                    have f36 := hw
                    refine lv_if_eq (tgt := 71) hx hb dX8_boatAt_65 (by decide) (fun c37 => ?_) (fun c37 => ?_)
                    · --65 taken
                      have t38 : r33.toInt = 0 := ti_eq c37
                      have i39 : 0 ≤ r33.toInt ∧ r33.toInt ≤ 0 := iv_eqi t38 f36 (il_ 0) (by decide)
                      obtain ⟨y40, ey40⟩ : ∃ y : Int32, y = v30_4 + (1 : Int32) := ⟨_, rfl⟩
                      obtain ⟨ty40, iy40⟩ := ti_add (e := 1) (f := 16) i20 ln_1 ey40 (by decide)
                      have ty40 : y40.toInt = v30_4.toInt + 1 := ty40
                      have iy40 : 1 ≤ y40.toInt ∧ y40.toInt ≤ 16 := iy40
                      refine lv_iinc (v := y40) (lv' := [(4, .int y40), (3, .int v30_3), (2, .int v2_2), (0, .ref (ad 4)), (1, .int a0)]) hx hb dX8_boatAt_71 hl (k := 0) rfl (by rw [ey40]; rfl) (by decide) rfl (fun ls hl => ?_)
                      refine lv_goto (tgt := 30) hx hb dX8_boatAt_74 (by decide) ?_
                      exact ih30 y40 v30_3 E34 _ _ _ (iv_w iy40 (by decide)) (by first | exact ms_su hx30_0 ty40 (by decide) | omega) hI hKp hP hS (lv_sub hl [0, 1, 2, 3, 4] rfl)
                    · --65 not
                      have t41 : ¬ r33.toInt = 0 := ti_ne c37
                      have i42 : 1 ≤ r33.toInt ∧ r33.toInt ≤ 1 := iv_ne_l t41 f36 (il_ 0)
                      obtain ⟨y43, ey43⟩ : ∃ y : Int32, y = v30_3 + (1 : Int32) := ⟨_, rfl⟩
                      refine lv_iinc (v := y43) (lv' := [(3, .int y43), (4, .int v30_4), (2, .int v2_2), (0, .ref (ad 4)), (1, .int a0)]) hx hb dX8_boatAt_68 hl (k := 1) rfl (by rw [ey43]; rfl) (by decide) rfl (fun ls hl => ?_)
                      obtain ⟨y44, ey44⟩ : ∃ y : Int32, y = v30_4 + (1 : Int32) := ⟨_, rfl⟩
                      obtain ⟨ty44, iy44⟩ := ti_add (e := 1) (f := 16) i20 ln_1 ey44 (by decide)
                      have ty44 : y44.toInt = v30_4.toInt + 1 := ty44
                      have iy44 : 1 ≤ y44.toInt ∧ y44.toInt ≤ 16 := iy44
                      refine lv_iinc (v := y44) (lv' := [(4, .int y44), (3, .int y43), (2, .int v2_2), (0, .ref (ad 4)), (1, .int a0)]) hx hb dX8_boatAt_71 hl (k := 1) rfl (by rw [ey44]; rfl) (by decide) rfl (fun ls hl => ?_)
                      refine lv_goto (tgt := 30) hx hb dX8_boatAt_74 (by decide) ?_
                      exact ih30 y44 y43 E34 _ _ _ (iv_w iy44 (by decide)) (by first | exact ms_su hx30_0 ty44 (by decide) | omega) hI hKp hP hS (lv_sub hl [0, 1, 2, 3, 4] rfl)
          exact hL30 (17) (0 : Int32) (0 : Int32) E2_ _ _ _ (iv_w ln_0 (by decide)) (by have h9 := ln_0; first | exact ms_bu h9.1 (by decide) | omega) hI hKp hP hS (lv_sub hl [0, 1, 2, 3, 4] rfl)
        · --19 not
          have t45 : y7.toInt = 0 := ti_eq c9
          have i46 : 0 ≤ y7.toInt ∧ y7.toInt ≤ 0 := iv_eqi t45 iy7 (il_ 0) (by decide)
          refine lv_goto (tgt := 84) hx hb dX8_boatAt_22 (by decide) ?_
          obtain ⟨y47, ey47⟩ : ∃ y : Int32, y = v2_2 + (1 : Int32) := ⟨_, rfl⟩
          obtain ⟨ty47, iy47⟩ := ti_add (e := 1) (f := 16) i5 ln_1 ey47 (by decide)
          have ty47 : y47.toInt = v2_2.toInt + 1 := ty47
          have iy47 : 1 ≤ y47.toInt ∧ y47.toInt ≤ 16 := iy47
          refine lv_iinc (v := y47) (lv' := [(2, .int y47), (0, .ref (ad 4)), (1, .int a0)]) hx hb dX8_boatAt_84 hl (k := 0) rfl (by rw [ey47]; rfl) (by decide) rfl (fun ls hl => ?_)
          refine lv_goto (tgt := 2) hx hb dX8_boatAt_87 (by decide) ?_
          exact ih2 y47 E2_ _ _ _ (iv_w iy47 (by decide)) (by first | exact ms_su hx2_0 ty47 (by decide) | omega) hI hKp hP hS (lv_sub hl [0, 1, 2] rfl)
  exact hL2 (17) (0 : Int32) E _ _ _ (iv_w ln_0 (by decide)) (by have h9 := ln_0; first | exact ms_bu h9.1 (by decide) | omega) hI hKp hP hS (lv_sub hl [0, 1, 2] rfl)
def v_worstOf : List Cond := .code yX8_worstOf cX8_worstOf 6 (some .int) :: vA
abbrev rm_worstOf : Room := { frames := 1, cells := 0, slots := 0, locals := 40 }
set_option maxHeartbeats 4000000 in
set_option maxRecDepth 100000 in
theorem q_worstOf (l : Launch) (dC : Nat → ClassId) (dI : Nat → Nat → Nat) (cT : Nat → ClassId) (cf : Nat → Nat) (hC : CF cf) (ad : Nat → Nat) (E : Nat → va_E) (sz : Nat) (a0 : Int32) (hI0 : IXL cT (shC cf) (spC cf) (LC cf) ad E) (hh0 : 0 ≤ a0.toInt ∧ a0.toInt ≤ 15) : Met l yX8_worstOf v_worstOf rm_worstOf (va_Pc [.ref (ad 4), .int a0] (HWL dC dI (TYC cT) cf ad E sz)) (va_Qi (S := Unit) (fun r _ => (-1 ≤ r.toInt ∧ r.toInt ≤ 19)) (fun _ _ => True) (fun _ => False)) 0 0 (fun _ => False) := by
  obtain ⟨⟨hc0, hc1, hc2, hc3, hc4, hc5⟩, hcr⟩ := id hC
  refine Met.ofW (cc := cX8_worstOf) (maxL := 6) (ret := (some .int)) (by decide) rfl ?_
  intro p e s m args below meth c s₁ B hml hv
  obtain ⟨hargs, hsz, hP, hK, hD0, hEV⟩ := hv
  subst hsz
  have hx := B.exec
  have hb := B.bytes
  have hr := B.returns
  have hts := atoms_spec (ws := v_worstOf) B.pre
  have hown : s.vm.findClass RX8 = some m.cls := findClass_of_methodNamed B.named
  have hlocks := B.notSynchronized
  have hinX8 : ∀ w ∈ u_ws RX8 TX8 10, w ∈ v_worstOf := fun w h => vA_in _ w (in_X8 w h)
  have hS : va_S (fun _ : Nat => False) s.heap s.heap [] := va_S.rf
  have hD := hD0
  have hI := hI0
  have hKp : Kp (wl [] []) E E := Kp.rf
  have hl := lv_entry ([.ref (ad 4), .int a0]) (n := 6) (Nat.le_of_ble_eq_true rfl)
  obtain ⟨Q, hQ⟩ : ∃ Q, Q = MQ below (va_Qi (S := Unit) (fun r _ => (-1 ≤ r.toInt ∧ r.toInt ≤ 19)) (fun _ _ => True) (fun _ => False)) args s 0 0 (fun _ => False) := ⟨_, rfl⟩
  rw [← hQ, show entryFrame m args 6 = _ from (congrArg (fun z => entryFrame m z 6) hargs).trans (lg_entry_eq _ _ _)]
  generalize (lg_sl ([.ref (ad 4), .int a0]) ++ List.replicate (6 - (lg_sl ([.ref (ad 4), .int a0])).length) Slot.unset).toArray = ls at hl ⊢
  have hl : lv_has ls 6 [(0, .ref (ad 4)), (1, .int a0)] := hl
  refine lv_iconst (v := -1) hx hb dX8_worstOf_0 (by decide) ?_
  refine lv_istore_n (lv' := [(2, .int (-1)), (0, .ref (ad 4)), (1, .int a0)]) hx hb dX8_worstOf_1 rfl hl (by decide) rfl (fun ls hl => ?_)
  refine lv_iconst (v := 0) hx hb dX8_worstOf_2 (by decide) ?_
  refine lv_istore_n (lv' := [(3, .int 0), (2, .int (-1)), (0, .ref (ad 4)), (1, .int a0)]) hx hb dX8_worstOf_3 rfl hl (by decide) rfl (fun ls hl => ?_)
  refine lv_iconst (v := 0) hx hb dX8_worstOf_4 (by decide) ?_
  refine lv_istore (lv' := [(4, .int 0), (3, .int 0), (2, .int (-1)), (0, .ref (ad 4)), (1, .int a0)]) hx hb dX8_worstOf_5 hl (by decide) rfl (fun ls hl => ?_)
  have hL7 : ∀ d : Nat, ∀ (v7_4 : Int32) (v7_3 : Int32) (v7_2 : Int32) (H : Heap) (locs : List Loc) (ls : Array Slot), 0 ≤ v7_4.toInt ∧ v7_4.toInt ≤ 20 → 0 ≤ v7_3.toInt ∧ v7_3.toInt ≤ 2147483647 → -1 ≤ v7_2.toInt ∧ v7_2.toInt ≤ 19 → 20 - v7_4.toInt < (d : Int) → va_P (dC, dI) vwCl (WL (LC cf) ad E) H → va_S (fun _ : Nat => False) s.heap H locs → lv_has ls 6 [(4, .int v7_4), (3, .int v7_3), (2, .int v7_2), (0, .ref (ad 4)), (1, .int a0)] → W p l e (headSpec v_worstOf rm_worstOf).room s m args below meth c H locs 0 0 Q (F0 m 7 ls []) := by
    intro d
    induction d with
    | zero =>
      intro v7_4 v7_3 v7_2 H locs ls hv7_4 hv7_3 hv7_2 hx7_0 hP hS hl
      exact absurd hx7_0 (by first | exact ms_zu hv7_4.2 | omega)
    | succ d ih7 =>
      intro v7_4 v7_3 v7_2 H locs ls hv7_4 hv7_3 hv7_2 hx7_0 hP hS hl
      refine lv_iload hx hb dX8_worstOf_7 (lv_at hl 0 rfl) ?_
      refine lv_aload_n hx hb dX8_worstOf_9 rfl (lv_at hl 3 rfl) ?_
      have j2 : 0 ≤ (xi (E 4) 2).toInt ∧ (xi (E 4) 2).toInt ≤ ((cf 2 : Nat) : Int) := hI0.iv 4 (mF 4 rfl) rfl (Nat.le_of_ble_eq_true rfl) rfl
      have i1 : 0 ≤ (xi (E 4) 2).toInt ∧ (xi (E 4) 2).toInt ≤ 20 := by omega
      refine th_getL (ci := 9) (C := RX8) (T := TX8) (N := 10) (v := .int (xi (E 4) 2)) hx hb hts hinX8 hown hK hP hI 4 (mF 4 rfl) rfl rfl 2 (Nat.le_of_ble_eq_true rfl) (hts _ (vA_in _ _ (in_20 _ (zs4 (zs4 (zs4 (zs0))))))) (fun _ h9 => h9) (th_v0L hKp hI0 4 (mF 4 rfl) rfl (Nat.le_of_ble_eq_true rfl) rfl rfl) dX8_worstOf_10 ?_
      refine lv_icmp_ge (tgt := 64) hx hb dX8_worstOf_13 (by decide) (fun c3 => ?_) (fun c3 => ?_)
      · --13 taken
        have t4 : (xi (E 4) 2).toInt ≤ v7_4.toInt := ti_le c3
        refine lv_iload_n hx hb dX8_worstOf_64 rfl (lv_at hl 2 rfl) ?_
        rw [hQ]
        exact W.iret (v := v7_2) hx hb hr (fun t ht hW => ⟨⟨v7_2, (), rfl, hv7_2, trivial⟩, hS.F ht⟩) hS.2.2 dX8_worstOf_65
      · --13 not
        have t5 : v7_4.toInt < (xi (E 4) 2).toInt := ti_nle c3
        have i6 : 0 ≤ v7_4.toInt ∧ v7_4.toInt ≤ 19 := iv_lt_l t5 hv7_4 i1 (by decide)
        have i7 : 1 ≤ (xi (E 4) 2).toInt ∧ (xi (E 4) 2).toInt ≤ 20 := iv_lt_r t5 hv7_4 i1 (by decide)
        refine lv_aload_n hx hb dX8_worstOf_16 rfl (lv_at hl 3 rfl) ?_
        refine th_getL (ci := 9) (C := RX8) (T := TX8) (N := 10) (v := .ref (ad 32)) hx hb hts hinX8 hown hK hP hI 4 (mF 4 rfl) rfl rfl 4 (Nat.le_of_ble_eq_true rfl) (hts _ (vA_in _ _ (in_19 _ (zs4 (zs4 (zs1 (zs0))))))) (fun _ h9 => h9) (hI.fr 4 (mF 4 rfl) rfl (Nat.le_of_ble_eq_true rfl) 32 rfl) dX8_worstOf_17 ?_
        refine lv_iload hx hb dX8_worstOf_20 (lv_at hl 0 rfl) ?_
        refine lv_iload_n hx hb dX8_worstOf_22 rfl (lv_at hl 4 rfl) ?_
        refine th_pi (va_runSN (As := [.int v7_4, .int a0]) (rest := [.ref (ad 32)]) ⟨hx, hb, hml, hown, hts⟩ (q_ccell l v7_4 a0 i6 hh0) ⟨va_cnB 2 hts (gi_0 (in_10 _ (zs16 (zs4 (zs0))))) rfl rfl rfl (hEV.1.1 _ (List.mem_of_getElem? (i := 10) rfl)) (hts _ (vA_in _ _ (in_4 _ (zs16 (zs4 (zs1 (zs1 (zs1 (zs0))))))))) hz_yX12_cell_2 ⟨Nat.le_of_ble_eq_true rfl, Nat.le_of_ble_eq_true rfl⟩, (hts _ (vA_in _ _ (in_13 _ (zs1 (zs0))))), trivial⟩ ⟨fun _ _ _ _ q => q, fun _ _ _ => ⟨rfl, trivial⟩⟩ rfl rfl hl.1 rfl (lv_room (Nat.le_of_ble_eq_true rfl)) dX8_worstOf_23 ⟨Nat.le_of_ble_eq_true rfl, Nat.le_of_ble_eq_true rfl⟩) hS (fun r8 H1 locs1 hw hk1 hS => ?_)
        have hP := ub_keep hP hk1
        generalize H1 = H at hP hS ⊢
        generalize locs1 = locs at hS ⊢
        obtain ⟨f9, f10⟩ := hw
        have n12 : vp_in r8 320 := (iv_in (n := 320) f9 (by decide))
        refine th_ialdL hx hb hK hP hI 32 (mF 32 rfl) rfl rfl n12 dX8_worstOf_26 (fun y11 ey11 => ?_)
        have ey11 := ey11.trans (hKp.ei 32 _ rfl)
        refine lv_istore (lv' := [(5, .int y11), (4, .int v7_4), (3, .int v7_3), (2, .int v7_2), (0, .ref (ad 4)), (1, .int a0)]) hx hb dX8_worstOf_27 hl (by decide) rfl (fun ls hl => ?_)
        refine lv_aload_n hx hb dX8_worstOf_29 rfl (lv_at hl 4 rfl) ?_
        refine th_getL (ci := 9) (C := RX8) (T := TX8) (N := 10) (v := .ref (ad 33)) hx hb hts hinX8 hown hK hP hI 4 (mF 4 rfl) rfl rfl 5 (Nat.le_of_ble_eq_true rfl) (hts _ (vA_in _ _ (in_19 _ (zs4 (zs4 (zs1 (zs1 (zs1 (zs0))))))))) (fun _ h9 => h9) (hI.fr 4 (mF 4 rfl) rfl (Nat.le_of_ble_eq_true rfl) 33 rfl) dX8_worstOf_30 ?_
        refine lv_iload hx hb dX8_worstOf_33 (lv_at hl 1 rfl) ?_
        refine lv_iload_n hx hb dX8_worstOf_35 rfl (lv_at hl 5 rfl) ?_
        refine th_pi (va_runSN (As := [.int v7_4, .int a0]) (rest := [.ref (ad 33)]) ⟨hx, hb, hml, hown, hts⟩ (q_ccell l v7_4 a0 i6 hh0) ⟨va_cnB 2 hts (gi_0 (in_10 _ (zs16 (zs4 (zs0))))) rfl rfl rfl (hEV.1.1 _ (List.mem_of_getElem? (i := 10) rfl)) (hts _ (vA_in _ _ (in_4 _ (zs16 (zs4 (zs1 (zs1 (zs1 (zs0))))))))) hz_yX12_cell_2 ⟨Nat.le_of_ble_eq_true rfl, Nat.le_of_ble_eq_true rfl⟩, (hts _ (vA_in _ _ (in_13 _ (zs1 (zs0))))), trivial⟩ ⟨fun _ _ _ _ q => q, fun _ _ _ => ⟨rfl, trivial⟩⟩ rfl rfl hl.1 rfl (lv_room (Nat.le_of_ble_eq_true rfl)) dX8_worstOf_36 ⟨Nat.le_of_ble_eq_true rfl, Nat.le_of_ble_eq_true rfl⟩) hS (fun r13 H1 locs1 hw hk1 hS => ?_)
        have hP := ub_keep hP hk1
        generalize H1 = H at hP hS ⊢
        generalize locs1 = locs at hS ⊢
        obtain ⟨f14, f15⟩ := hw
        have n17 : vp_in r13 320 := (iv_in (n := 320) f14 (by decide))
        refine th_zaldL hx hb hK hP hI 33 (mF 33 rfl) rfl rfl n17 dX8_worstOf_39 (fun y16 ey16 => ?_)
        have iy16 : 0 ≤ y16.toInt ∧ y16.toInt ≤ 1 := hI.el 33 (mF 33 rfl) rfl n17 (fun _ => rfl) ey16
        have ey16 := ey16.trans (hKp.ei 33 _ rfl)
        refine lv_if_ne (tgt := 58) hx hb dX8_worstOf_40 (by decide) (fun c18 => ?_) (fun c18 => ?_)
        · --40 taken
          have t19 : ¬ y16.toInt = 0 := ti_ne c18
          have i20 : 1 ≤ y16.toInt ∧ y16.toInt ≤ 1 := iv_ne_l t19 iy16 (il_ 0)
          obtain ⟨y21, ey21⟩ : ∃ y : Int32, y = v7_4 + (1 : Int32) := ⟨_, rfl⟩
          obtain ⟨ty21, iy21⟩ := ti_add (e := 1) (f := 20) i6 ln_1 ey21 (by decide)
          have ty21 : y21.toInt = v7_4.toInt + 1 := ty21
          have iy21 : 1 ≤ y21.toInt ∧ y21.toInt ≤ 20 := iy21
          refine lv_iinc (v := y21) (lv' := [(4, .int y21), (5, .int y11), (3, .int v7_3), (2, .int v7_2), (0, .ref (ad 4)), (1, .int a0)]) hx hb dX8_worstOf_58 hl (k := 1) rfl (by rw [ey21]; rfl) (by decide) rfl (fun ls hl => ?_)
          refine lv_goto (tgt := 7) hx hb dX8_worstOf_61 (by decide) ?_
          exact ih7 y21 v7_3 v7_2 _ _ _ (iv_w iy21 (by decide)) hv7_3 hv7_2 (by first | exact ms_su hx7_0 ty21 (by decide) | omega) hP hS (lv_sub hl [0, 2, 3, 4, 5] rfl)
        · --40 not
          have t22 : y16.toInt = 0 := ti_eq c18
          have i23 : 0 ≤ y16.toInt ∧ y16.toInt ≤ 0 := iv_eqi t22 iy16 (il_ 0) (by decide)
          refine lv_iload hx hb dX8_worstOf_43 (lv_at hl 0 rfl) ?_
          refine lv_iload_n hx hb dX8_worstOf_45 rfl (lv_at hl 2 rfl) ?_
          refine lv_icmp_ge (tgt := 52) hx hb dX8_worstOf_46 (by decide) (fun c24 => ?_) (fun c24 => ?_)
          · --46 taken
            have t25 : v7_3.toInt ≤ y11.toInt := ti_le c24
            have i26 : 0 ≤ y11.toInt ∧ y11.toInt ≤ 2147483647 := iv_le_r t25 hv7_3 (iv_all _) (by decide)
            refine lv_iload hx hb dX8_worstOf_52 (lv_at hl 1 rfl) ?_
            refine lv_istore_n (lv' := [(2, .int v7_4), (5, .int y11), (4, .int v7_4), (3, .int v7_3), (0, .ref (ad 4)), (1, .int a0)]) hx hb dX8_worstOf_54 rfl hl (by decide) rfl (fun ls hl => ?_)
            refine lv_iload hx hb dX8_worstOf_55 (lv_at hl 1 rfl) ?_
            refine lv_istore_n (lv' := [(3, .int y11), (2, .int v7_4), (5, .int y11), (4, .int v7_4), (0, .ref (ad 4)), (1, .int a0)]) hx hb dX8_worstOf_57 rfl hl (by decide) rfl (fun ls hl => ?_)
            obtain ⟨y27, ey27⟩ : ∃ y : Int32, y = v7_4 + (1 : Int32) := ⟨_, rfl⟩
            obtain ⟨ty27, iy27⟩ := ti_add (e := 1) (f := 20) i6 ln_1 ey27 (by decide)
            have ty27 : y27.toInt = v7_4.toInt + 1 := ty27
            have iy27 : 1 ≤ y27.toInt ∧ y27.toInt ≤ 20 := iy27
            refine lv_iinc (v := y27) (lv' := [(4, .int y27), (3, .int y11), (2, .int v7_4), (5, .int y11), (0, .ref (ad 4)), (1, .int a0)]) hx hb dX8_worstOf_58 hl (k := 3) rfl (by rw [ey27]; rfl) (by decide) rfl (fun ls hl => ?_)
            refine lv_goto (tgt := 7) hx hb dX8_worstOf_61 (by decide) ?_
            exact ih7 y27 y11 v7_4 _ _ _ (iv_w iy27 (by decide)) i26 (iv_w i6 (by decide)) (by first | exact ms_su hx7_0 ty27 (by decide) | omega) hP hS (lv_sub hl [0, 1, 2, 4, 5] rfl)
          · --46 not
            have t28 : y11.toInt < v7_3.toInt := ti_nle c24
            have i29 : -2147483648 ≤ y11.toInt ∧ y11.toInt ≤ 2147483646 := iv_lt_l t28 (iv_all _) hv7_3 (by decide)
            refine lv_goto (tgt := 58) hx hb dX8_worstOf_49 (by decide) ?_
            obtain ⟨y30, ey30⟩ : ∃ y : Int32, y = v7_4 + (1 : Int32) := ⟨_, rfl⟩
            obtain ⟨ty30, iy30⟩ := ti_add (e := 1) (f := 20) i6 ln_1 ey30 (by decide)
            have ty30 : y30.toInt = v7_4.toInt + 1 := ty30
            have iy30 : 1 ≤ y30.toInt ∧ y30.toInt ≤ 20 := iy30
            refine lv_iinc (v := y30) (lv' := [(4, .int y30), (5, .int y11), (3, .int v7_3), (2, .int v7_2), (0, .ref (ad 4)), (1, .int a0)]) hx hb dX8_worstOf_58 hl (k := 1) rfl (by rw [ey30]; rfl) (by decide) rfl (fun ls hl => ?_)
            refine lv_goto (tgt := 7) hx hb dX8_worstOf_61 (by decide) ?_
            exact ih7 y30 v7_3 v7_2 _ _ _ (iv_w iy30 (by decide)) hv7_3 hv7_2 (by first | exact ms_su hx7_0 ty30 (by decide) | omega) hP hS (lv_sub hl [0, 2, 3, 4, 5] rfl)
  exact hL7 (21) (0 : Int32) (0 : Int32) (-1 : Int32) _ _ _ (iv_w ln_0 (by decide)) (iv_w ln_0 (by decide)) (iv_w ln_m1 (by decide)) (by have h9 := ln_0; first | exact ms_bu h9.1 (by decide) | omega) hP hS (lv_sub hl [0, 1, 2, 3, 4] rfl)
def v_throwOut : List Cond := .code yX8_throwOut cX8_throwOut 6 none :: vA
abbrev rm_throwOut : Room := { frames := 2, cells := 0, slots := 0, locals := 80 }
def w_throwOut : Nat → Nat → Bool := wl [33, 35] []
set_option maxHeartbeats 4000000 in
set_option maxRecDepth 100000 in
theorem q_throwOut (l : Launch) (dC : Nat → ClassId) (dI : Nat → Nat → Nat) (cT : Nat → ClassId) (cf : Nat → Nat) (hC : CF cf) (ad : Nat → Nat) (E : Nat → va_E) (sz : Nat) (a0 : Int32) (a1 : Int32) (hI0 : IXL cT (shC cf) (spC cf) (LC cf) ad E) (hh0 : 0 ≤ a0.toInt ∧ a0.toInt ≤ 15) : Met l yX8_throwOut v_throwOut rm_throwOut (va_Pc [.ref (ad 4), .int a0, .int a1] (HWL dC dI (TYC cT) cf ad E sz)) (va_Qv (S := Nat → va_E) (fun u => IXL cT (shC cf) (spC cf) (LC cf) ad u ∧ Kp w_throwOut E u ∧ (True)) (HBL dC dI (LC cf) ad) (va_A (WL (LC cf) ad E) sz)) 0 0 (va_A (WL (LC cf) ad E) sz) := by
  obtain ⟨⟨hc0, hc1, hc2, hc3, hc4, hc5⟩, hcr⟩ := id hC
  refine Met.ofW (cc := cX8_throwOut) (maxL := 6) (ret := none) (by decide) rfl ?_
  intro p e s m args below meth c s₁ B hml hv
  obtain ⟨hargs, hsz, hP, hK, hD0, hEV⟩ := hv
  subst hsz
  have hx := B.exec
  have hb := B.bytes
  have hr := B.returns
  have hts := atoms_spec (ws := v_throwOut) B.pre
  have hown : s.vm.findClass RX8 = some m.cls := findClass_of_methodNamed B.named
  have hlocks := B.notSynchronized
  have hinX8 : ∀ w ∈ u_ws RX8 TX8 10, w ∈ v_throwOut := fun w h => vA_in _ w (in_X8 w h)
  generalize hAe : va_A (WL (LC cf) ad E) s.heap.size = A at hEV ⊢
  have hA : ∀ q : Nat, s.heap.size ≤ q → A q := fun q h => by rw [← hAe]; exact Or.inr h
  have hD : va_D A (WL (LC cf) ad E) := by rw [← hAe]; exact hD0.self
  have hS : va_S A s.heap s.heap [] := va_S.rf
  have hI := hI0
  have hKp : Kp w_throwOut E E := Kp.rf
  have hl := lv_entry ([.ref (ad 4), .int a0, .int a1]) (n := 6) (Nat.le_of_ble_eq_true rfl)
  obtain ⟨Q, hQ⟩ : ∃ Q, Q = MQ below (va_Qv (S := Nat → va_E) (fun u => IXL cT (shC cf) (spC cf) (LC cf) ad u ∧ Kp w_throwOut E u ∧ (True)) (HBL dC dI (LC cf) ad) (A)) args s 0 0 (A) := ⟨_, rfl⟩
  rw [← hQ, show entryFrame m args 6 = _ from (congrArg (fun z => entryFrame m z 6) hargs).trans (lg_entry_eq _ _ _)]
  generalize (lg_sl ([.ref (ad 4), .int a0, .int a1]) ++ List.replicate (6 - (lg_sl ([.ref (ad 4), .int a0, .int a1])).length) Slot.unset).toArray = ls at hl ⊢
  have hl : lv_has ls 6 [(0, .ref (ad 4)), (1, .int a0), (2, .int a1)] := hl
  refine lv_iconst (v := 0) hx hb dX8_throwOut_0 (by decide) ?_
  refine lv_istore_n (lv' := [(3, .int 0), (0, .ref (ad 4)), (1, .int a0), (2, .int a1)]) hx hb dX8_throwOut_1 rfl hl (by decide) rfl (fun ls hl => ?_)
  refine lv_iconst (v := 0) hx hb dX8_throwOut_2 (by decide) ?_
  refine lv_istore (lv' := [(4, .int 0), (3, .int 0), (0, .ref (ad 4)), (1, .int a0), (2, .int a1)]) hx hb dX8_throwOut_3 hl (by decide) rfl (fun ls hl => ?_)
  have hL5 : ∀ d : Nat, ∀ (v5_4 : Int32) (v5_3 : Int32) (E5_ : Nat → va_E) (H : Heap) (locs : List Loc) (ls : Array Slot), 0 ≤ v5_4.toInt ∧ v5_4.toInt ≤ 20 → 20 - v5_4.toInt < (d : Int) → IXL cT (shC cf) (spC cf) (LC cf) ad E5_ → Kp w_throwOut E E5_ → va_P (dC, dI) vwCl (WL (LC cf) ad E5_) H → va_S A s.heap H locs → lv_has ls 6 [(4, .int v5_4), (3, .int v5_3), (0, .ref (ad 4)), (1, .int a0), (2, .int a1)] → W p l e (headSpec v_throwOut rm_throwOut).room s m args below meth c H locs 0 0 Q (F0 m 5 ls []) := by
    intro d
    induction d with
    | zero =>
      intro v5_4 v5_3 E5_ H locs ls hv5_4 hx5_0 hI hKp hP hS hl
      exact absurd hx5_0 (by first | exact ms_zu hv5_4.2 | omega)
    | succ d ih5 =>
      intro v5_4 v5_3 E5_ H locs ls hv5_4 hx5_0 hI hKp hP hS hl
      refine lv_iload hx hb dX8_throwOut_5 (lv_at hl 0 rfl) ?_
      refine lv_aload_n hx hb dX8_throwOut_7 rfl (lv_at hl 2 rfl) ?_
      have j2 : 0 ≤ (xi (E 4) 2).toInt ∧ (xi (E 4) 2).toInt ≤ ((cf 2 : Nat) : Int) := hI0.iv 4 (mF 4 rfl) rfl (Nat.le_of_ble_eq_true rfl) rfl
      have i1 : 0 ≤ (xi (E 4) 2).toInt ∧ (xi (E 4) 2).toInt ≤ 20 := by omega
      refine th_getL (ci := 9) (C := RX8) (T := TX8) (N := 10) (v := .int (xi (E 4) 2)) hx hb hts hinX8 hown hK hP hI 4 (mF 4 rfl) rfl rfl 2 (Nat.le_of_ble_eq_true rfl) (hts _ (vA_in _ _ (in_20 _ (zs4 (zs4 (zs4 (zs0))))))) (fun _ h9 => h9) (th_v0L hKp hI0 4 (mF 4 rfl) rfl (Nat.le_of_ble_eq_true rfl) rfl rfl) dX8_throwOut_8 ?_
      refine lv_icmp_ge (tgt := 46) hx hb dX8_throwOut_11 (by decide) (fun c3 => ?_) (fun c3 => ?_)
      · --11 taken
        have t4 : (xi (E 4) 2).toInt ≤ v5_4.toInt := ti_le c3
        refine lv_iconst (v := 0) hx hb dX8_throwOut_46 (by decide) ?_
        refine lv_istore (lv' := [(4, .int 0), (3, .int v5_3), (0, .ref (ad 4)), (1, .int a0), (2, .int a1)]) hx hb dX8_throwOut_47 hl (by decide) rfl (fun ls hl => ?_)
        have hL49 : ∀ d : Nat, ∀ (v49_4 : Int32) (v49_3 : Int32) (E49_ : Nat → va_E) (H : Heap) (locs : List Loc) (ls : Array Slot), 0 ≤ v49_4.toInt ∧ v49_4.toInt ≤ 2147483647 → 2147483647 - v49_4.toInt < (d : Int) → IXL cT (shC cf) (spC cf) (LC cf) ad E49_ → Kp w_throwOut E E49_ → va_P (dC, dI) vwCl (WL (LC cf) ad E49_) H → va_S A s.heap H locs → lv_has ls 6 [(4, .int v49_4), (3, .int v49_3), (0, .ref (ad 4)), (1, .int a0), (2, .int a1)] → W p l e (headSpec v_throwOut rm_throwOut).room s m args below meth c H locs 0 0 Q (F0 m 49 ls []) := by
          intro d
          induction d with
          | zero =>
            intro v49_4 v49_3 E49_ H locs ls hv49_4 hx49_0 hI hKp hP hS hl
            exact absurd hx49_0 (by first | exact ms_zu hv49_4.2 | omega)
          | succ d ih49 =>
            intro v49_4 v49_3 E49_ H locs ls hv49_4 hx49_0 hI hKp hP hS hl
            refine lv_iload hx hb dX8_throwOut_49 (lv_at hl 0 rfl) ?_
            refine lv_iload_n hx hb dX8_throwOut_51 rfl (lv_at hl 4 rfl) ?_
            have hJ103 : ∀ (H : Heap) (locs : List Loc) (ls : Array Slot), va_P (dC, dI) vwCl (WL (LC cf) ad E49_) H → va_S A s.heap H locs → lv_has ls 6 [(4, .int v49_4), (3, .int v49_3), (0, .ref (ad 4)), (1, .int a0), (2, .int a1)] → W p l e (headSpec v_throwOut rm_throwOut).room s m args below meth c H locs 0 0 Q (F0 m 103 ls []) := by
              intro H locs ls hP hS hl
              refine lv_aload_n hx hb dX8_throwOut_103 rfl (lv_at hl 2 rfl) ?_
              refine th_getL (ci := 9) (C := RX8) (T := TX8) (N := 10) (v := .ref (ad 35)) hx hb hts hinX8 hown hK hP hI 4 (mF 4 rfl) rfl rfl 7 (Nat.le_of_ble_eq_true rfl) (hts _ (vA_in _ _ (in_19 _ (zs4 (zs4 (zs4 (zs1 (zs0)))))))) (fun _ h9 => h9) (hI.fr 4 (mF 4 rfl) rfl (Nat.le_of_ble_eq_true rfl) 35 rfl) dX8_throwOut_104 ?_
              refine lv_iload_n hx hb dX8_throwOut_107 rfl (lv_at hl 3 rfl) ?_
              refine lv_iload_n hx hb dX8_throwOut_108 rfl (lv_at hl 1 rfl) ?_
              have n5 : vp_in a0 16 := (iv_in (n := 16) hh0 (by decide))
              refine th_iastL hx hb hK hP (WL_D hD) hS hI 35 (mF 35 rfl) rfl rfl n5 (okI rfl (iv_all _)) dX8_throwOut_109 (fun H locs E6 pw7 hI hP hS => ?_)
              have hKp := hKp.pw pw7 rfl
              rw [hQ]
              exact W.vret hx hb hr (fun t ht hW => ⟨⟨E6, rfl, ⟨hI, hKp, trivial⟩, by show va_P (dC, dI) vwCl (WL (LC cf) ad E6) t.heap; rw [ht]; exact hP⟩, hS.F ht⟩) hS.2.2 dX8_throwOut_110
            refine lv_icmp_ge (tgt := 103) hx hb dX8_throwOut_52 (by decide) (fun c8 => ?_) (fun c8 => ?_)
            · --52 taken
              have t9 : a1.toInt ≤ v49_4.toInt := ti_le c8
              exact hJ103 _ _ _ hP hS (lv_sub hl [0, 1, 2, 3, 4] rfl)
            · --52 not
              have t10 : v49_4.toInt < a1.toInt := ti_nle c8
              have i11 : 0 ≤ v49_4.toInt ∧ v49_4.toInt ≤ 2147483646 := iv_lt_l t10 hv49_4 (iv_all _) (by decide)
              have i12 : 1 ≤ a1.toInt ∧ a1.toInt ≤ 2147483647 := iv_lt_r t10 hv49_4 (iv_all _) (by decide)
              refine lv_aload_n hx hb dX8_throwOut_55 rfl (lv_at hl 2 rfl) ?_
              refine lv_iload_n hx hb dX8_throwOut_56 rfl (lv_at hl 3 rfl) ?_
              refine th_riL (va_runV (As := [.int a0]) (rest := []) ⟨hx, hb, hml, hown, hts⟩ (q_worstOf l dC dI cT cf hC ad E49_ H.size a0 hI hh0) (cwV 1 hts (gi_V (in_22 _ (zs1 (zs0))) (in_22 _ (zs1 (zs1 (zs0)))) (in_22 _ (zs1 (zs1 (zs1 (zs0))))) (in_18 _ (zs16 (zs16 (zs0)))) (in_22 _ (zs4 (zs0)))) rfl rfl rfl ⟨rfl, hz_yX8_worstOf_1⟩ ⟨Nat.le_of_ble_eq_true rfl, Nat.le_of_ble_eq_true rfl⟩) ⟨HWL_bl, va_recv hK hP (ci := 9) (q0 := posL 4 (LC cf)) rfl (hI.ob 4 (mF 4 rfl) rfl), (HWL_wi hP hK (WL_D hD) hS hA hEV)⟩ rfl rfl hl.1 rfl (lv_room (Nat.le_of_ble_eq_true rfl)) dX8_throwOut_57 ⟨Nat.le_of_ble_eq_true rfl, Nat.le_of_ble_eq_true rfl⟩) hS hP (fun r13 H locs hw hP hS => ?_)
              have f14 := hw
              refine lv_istore (lv' := [(5, .int r13), (4, .int v49_4), (3, .int v49_3), (0, .ref (ad 4)), (1, .int a0), (2, .int a1)]) hx hb dX8_throwOut_60 hl (by decide) rfl (fun ls hl => ?_)
              refine lv_iload hx hb dX8_throwOut_62 (lv_at hl 0 rfl) ?_
              refine lv_iconst (v := -1) hx hb dX8_throwOut_64 (by decide) ?_
              refine lv_icmp_ne (tgt := 71) hx hb dX8_throwOut_65 (by decide) (fun c15 => ?_) (fun c15 => ?_)
              · --65 taken
                have t16 : ¬ r13.toInt = -1 := ti_ne c15
                have i17 : 0 ≤ r13.toInt ∧ r13.toInt ≤ 19 := iv_ne_l t16 f14 (il_ (-1))
                refine lv_aload_n hx hb dX8_throwOut_71 rfl (lv_at hl 3 rfl) ?_
                refine th_getL (ci := 9) (C := RX8) (T := TX8) (N := 10) (v := .ref (ad 33)) hx hb hts hinX8 hown hK hP hI 4 (mF 4 rfl) rfl rfl 5 (Nat.le_of_ble_eq_true rfl) (hts _ (vA_in _ _ (in_19 _ (zs4 (zs4 (zs1 (zs1 (zs1 (zs0))))))))) (fun _ h9 => h9) (hI.fr 4 (mF 4 rfl) rfl (Nat.le_of_ble_eq_true rfl) 33 rfl) dX8_throwOut_72 ?_
                refine lv_iload hx hb dX8_throwOut_75 (lv_at hl 0 rfl) ?_
                refine lv_iload_n hx hb dX8_throwOut_77 rfl (lv_at hl 4 rfl) ?_
                refine th_pi (va_runSN (As := [.int r13, .int a0]) (rest := [.ref (ad 33)]) ⟨hx, hb, hml, hown, hts⟩ (q_ccell l r13 a0 i17 hh0) ⟨va_cnB 2 hts (gi_0 (in_10 _ (zs16 (zs4 (zs0))))) rfl rfl rfl (hEV.1.1 _ (List.mem_of_getElem? (i := 10) rfl)) (hts _ (vA_in _ _ (in_4 _ (zs16 (zs4 (zs1 (zs1 (zs1 (zs0))))))))) hz_yX12_cell_2 ⟨Nat.le_of_ble_eq_true rfl, Nat.le_of_ble_eq_true rfl⟩, (hts _ (vA_in _ _ (in_13 _ (zs1 (zs0))))), trivial⟩ ⟨fun _ _ _ _ q => q, fun _ _ _ => ⟨rfl, trivial⟩⟩ rfl rfl hl.1 rfl (lv_room (Nat.le_of_ble_eq_true rfl)) dX8_throwOut_78 ⟨Nat.le_of_ble_eq_true rfl, Nat.le_of_ble_eq_true rfl⟩) hS (fun r18 H1 locs1 hw hk1 hS => ?_)
                have hP := ub_keep hP hk1
                generalize H1 = H at hP hS ⊢
                generalize locs1 = locs at hS ⊢
                obtain ⟨f19, f20⟩ := hw
                refine lv_iconst (v := 1) hx hb dX8_throwOut_81 (by decide) ?_
                have n21 : vp_in r18 320 := (iv_in (n := 320) f19 (by decide))
                refine th_zastL hx hb hK hP (WL_D hD) hS hI 33 (mF 33 rfl) rfl rfl n21 (iv_w ln_1 (by decide)) (okI rfl (iv_w ln_1 (by decide))) dX8_throwOut_82 (fun H locs E22 pw23 hI hP hS => ?_)
                have hKp := hKp.pw pw23 rfl
                refine lv_iload_n hx hb dX8_throwOut_83 rfl (lv_at hl 2 rfl) ?_
                refine lv_aload_n hx hb dX8_throwOut_84 rfl (lv_at hl 3 rfl) ?_
                refine th_getL (ci := 9) (C := RX8) (T := TX8) (N := 10) (v := .ref (ad 32)) hx hb hts hinX8 hown hK hP hI 4 (mF 4 rfl) rfl rfl 4 (Nat.le_of_ble_eq_true rfl) (hts _ (vA_in _ _ (in_19 _ (zs4 (zs4 (zs1 (zs0))))))) (fun _ h9 => h9) (hI.fr 4 (mF 4 rfl) rfl (Nat.le_of_ble_eq_true rfl) 32 rfl) dX8_throwOut_85 ?_
                refine lv_iload hx hb dX8_throwOut_88 (lv_at hl 0 rfl) ?_
                refine lv_iload_n hx hb dX8_throwOut_90 rfl (lv_at hl 4 rfl) ?_
                refine th_pi (va_runSN (As := [.int r13, .int a0]) (rest := [.ref (ad 32), .int v49_3]) ⟨hx, hb, hml, hown, hts⟩ (q_ccell l r13 a0 i17 hh0) ⟨va_cnB 2 hts (gi_0 (in_10 _ (zs16 (zs4 (zs0))))) rfl rfl rfl (hEV.1.1 _ (List.mem_of_getElem? (i := 10) rfl)) (hts _ (vA_in _ _ (in_4 _ (zs16 (zs4 (zs1 (zs1 (zs1 (zs0))))))))) hz_yX12_cell_2 ⟨Nat.le_of_ble_eq_true rfl, Nat.le_of_ble_eq_true rfl⟩, (hts _ (vA_in _ _ (in_13 _ (zs1 (zs0))))), trivial⟩ ⟨fun _ _ _ _ q => q, fun _ _ _ => ⟨rfl, trivial⟩⟩ rfl rfl hl.1 rfl (lv_room (Nat.le_of_ble_eq_true rfl)) dX8_throwOut_91 ⟨Nat.le_of_ble_eq_true rfl, Nat.le_of_ble_eq_true rfl⟩) hS (fun r24 H1 locs1 hw hk1 hS => ?_)
                have hP := ub_keep hP hk1
                generalize H1 = H at hP hS ⊢
                generalize locs1 = locs at hS ⊢
                obtain ⟨f25, f26⟩ := hw
                have n28 : vp_in r24 320 := (iv_in (n := 320) f25 (by decide))
                refine th_ialdL hx hb hK hP hI 32 (mF 32 rfl) rfl rfl n28 dX8_throwOut_94 (fun y27 ey27 => ?_)
                have ey27 := ey27.trans (hKp.ei 32 _ rfl)
                refine lv_isub hx hb dX8_throwOut_95 ?_
                refine lv_topi (fun y29 ey29 => ?_)
                refine lv_istore_n (lv' := [(3, .int y29), (5, .int r13), (4, .int v49_4), (0, .ref (ad 4)), (1, .int a0), (2, .int a1)]) hx hb dX8_throwOut_96 rfl hl (by decide) rfl (fun ls hl => ?_)
                obtain ⟨y30, ey30⟩ : ∃ y : Int32, y = v49_4 + (1 : Int32) := ⟨_, rfl⟩
                obtain ⟨ty30, iy30⟩ := ti_add (e := 1) (f := 2147483647) i11 ln_1 ey30 (by decide)
                have ty30 : y30.toInt = v49_4.toInt + 1 := ty30
                have iy30 : 1 ≤ y30.toInt ∧ y30.toInt ≤ 2147483647 := iy30
                refine lv_iinc (v := y30) (lv' := [(4, .int y30), (3, .int y29), (5, .int r13), (0, .ref (ad 4)), (1, .int a0), (2, .int a1)]) hx hb dX8_throwOut_97 hl (k := 2) rfl (by rw [ey30]; rfl) (by decide) rfl (fun ls hl => ?_)
                refine lv_goto (tgt := 49) hx hb dX8_throwOut_100 (by decide) ?_
                exact ih49 y30 y29 E22 _ _ _ (iv_w iy30 (by decide)) (by first | exact ms_su hx49_0 ty30 (by decide) | omega) hI hKp hP hS (lv_sub hl [0, 1, 3, 4, 5] rfl)
              · --65 not
                have t31 : r13.toInt = -1 := ti_eq c15
                have i32 : -1 ≤ r13.toInt ∧ r13.toInt ≤ -1 := iv_eqi t31 f14 (il_ (-1)) (by decide)
                refine lv_goto (tgt := 103) hx hb dX8_throwOut_68 (by decide) ?_
                exact hJ103 _ _ _ hP hS (lv_sub hl [1, 2, 3, 4, 5] rfl)
        exact hL49 (2147483648) (0 : Int32) v5_3 E5_ _ _ _ (iv_w ln_0 (by decide)) (by have h9 := ln_0; first | exact ms_bu h9.1 (by decide) | omega) hI hKp hP hS (lv_sub hl [0, 1, 2, 3, 4] rfl)
      · --11 not
        have t33 : v5_4.toInt < (xi (E 4) 2).toInt := ti_nle c3
        have i34 : 0 ≤ v5_4.toInt ∧ v5_4.toInt ≤ 19 := iv_lt_l t33 hv5_4 i1 (by decide)
        have i35 : 1 ≤ (xi (E 4) 2).toInt ∧ (xi (E 4) 2).toInt ≤ 20 := iv_lt_r t33 hv5_4 i1 (by decide)
        refine lv_aload_n hx hb dX8_throwOut_14 rfl (lv_at hl 2 rfl) ?_
        refine th_getL (ci := 9) (C := RX8) (T := TX8) (N := 10) (v := .ref (ad 33)) hx hb hts hinX8 hown hK hP hI 4 (mF 4 rfl) rfl rfl 5 (Nat.le_of_ble_eq_true rfl) (hts _ (vA_in _ _ (in_19 _ (zs4 (zs4 (zs1 (zs1 (zs1 (zs0))))))))) (fun _ h9 => h9) (hI.fr 4 (mF 4 rfl) rfl (Nat.le_of_ble_eq_true rfl) 33 rfl) dX8_throwOut_15 ?_
        refine lv_iload hx hb dX8_throwOut_18 (lv_at hl 0 rfl) ?_
        refine lv_iload_n hx hb dX8_throwOut_20 rfl (lv_at hl 3 rfl) ?_
        refine th_pi (va_runSN (As := [.int v5_4, .int a0]) (rest := [.ref (ad 33)]) ⟨hx, hb, hml, hown, hts⟩ (q_ccell l v5_4 a0 i34 hh0) ⟨va_cnB 2 hts (gi_0 (in_10 _ (zs16 (zs4 (zs0))))) rfl rfl rfl (hEV.1.1 _ (List.mem_of_getElem? (i := 10) rfl)) (hts _ (vA_in _ _ (in_4 _ (zs16 (zs4 (zs1 (zs1 (zs1 (zs0))))))))) hz_yX12_cell_2 ⟨Nat.le_of_ble_eq_true rfl, Nat.le_of_ble_eq_true rfl⟩, (hts _ (vA_in _ _ (in_13 _ (zs1 (zs0))))), trivial⟩ ⟨fun _ _ _ _ q => q, fun _ _ _ => ⟨rfl, trivial⟩⟩ rfl rfl hl.1 rfl (lv_room (Nat.le_of_ble_eq_true rfl)) dX8_throwOut_21 ⟨Nat.le_of_ble_eq_true rfl, Nat.le_of_ble_eq_true rfl⟩) hS (fun r36 H1 locs1 hw hk1 hS => ?_)
        have hP := ub_keep hP hk1
        generalize H1 = H at hP hS ⊢
        generalize locs1 = locs at hS ⊢
        obtain ⟨f37, f38⟩ := hw
        refine lv_iconst (v := 0) hx hb dX8_throwOut_24 (by decide) ?_
        have n39 : vp_in r36 320 := (iv_in (n := 320) f37 (by decide))
        refine th_zastL hx hb hK hP (WL_D hD) hS hI 33 (mF 33 rfl) rfl rfl n39 (iv_w ln_0 (by decide)) (okI rfl (iv_w ln_0 (by decide))) dX8_throwOut_25 (fun H locs E40 pw41 hI hP hS => ?_)
        have hKp := hKp.pw pw41 rfl
        refine lv_iload_n hx hb dX8_throwOut_26 rfl (lv_at hl 1 rfl) ?_
        refine lv_aload_n hx hb dX8_throwOut_27 rfl (lv_at hl 2 rfl) ?_
        refine th_getL (ci := 9) (C := RX8) (T := TX8) (N := 10) (v := .ref (ad 32)) hx hb hts hinX8 hown hK hP hI 4 (mF 4 rfl) rfl rfl 4 (Nat.le_of_ble_eq_true rfl) (hts _ (vA_in _ _ (in_19 _ (zs4 (zs4 (zs1 (zs0))))))) (fun _ h9 => h9) (hI.fr 4 (mF 4 rfl) rfl (Nat.le_of_ble_eq_true rfl) 32 rfl) dX8_throwOut_28 ?_
        refine lv_iload hx hb dX8_throwOut_31 (lv_at hl 0 rfl) ?_
        refine lv_iload_n hx hb dX8_throwOut_33 rfl (lv_at hl 3 rfl) ?_
        refine th_pi (va_runSN (As := [.int v5_4, .int a0]) (rest := [.ref (ad 32), .int v5_3]) ⟨hx, hb, hml, hown, hts⟩ (q_ccell l v5_4 a0 i34 hh0) ⟨va_cnB 2 hts (gi_0 (in_10 _ (zs16 (zs4 (zs0))))) rfl rfl rfl (hEV.1.1 _ (List.mem_of_getElem? (i := 10) rfl)) (hts _ (vA_in _ _ (in_4 _ (zs16 (zs4 (zs1 (zs1 (zs1 (zs0))))))))) hz_yX12_cell_2 ⟨Nat.le_of_ble_eq_true rfl, Nat.le_of_ble_eq_true rfl⟩, (hts _ (vA_in _ _ (in_13 _ (zs1 (zs0))))), trivial⟩ ⟨fun _ _ _ _ q => q, fun _ _ _ => ⟨rfl, trivial⟩⟩ rfl rfl hl.1 rfl (lv_room (Nat.le_of_ble_eq_true rfl)) dX8_throwOut_34 ⟨Nat.le_of_ble_eq_true rfl, Nat.le_of_ble_eq_true rfl⟩) hS (fun r42 H1 locs1 hw hk1 hS => ?_)
        have hP := ub_keep hP hk1
        generalize H1 = H at hP hS ⊢
        generalize locs1 = locs at hS ⊢
        obtain ⟨f43, f44⟩ := hw
        have n46 : vp_in r42 320 := (iv_in (n := 320) f43 (by decide))
        refine th_ialdL hx hb hK hP hI 32 (mF 32 rfl) rfl rfl n46 dX8_throwOut_37 (fun y45 ey45 => ?_)
        have ey45 := ey45.trans (hKp.ei 32 _ rfl)
        refine lv_iadd hx hb dX8_throwOut_38 ?_
        refine lv_topi (fun y47 ey47 => ?_)
        refine lv_istore_n (lv' := [(3, .int y47), (4, .int v5_4), (0, .ref (ad 4)), (1, .int a0), (2, .int a1)]) hx hb dX8_throwOut_39 rfl hl (by decide) rfl (fun ls hl => ?_)
        obtain ⟨y48, ey48⟩ : ∃ y : Int32, y = v5_4 + (1 : Int32) := ⟨_, rfl⟩
        obtain ⟨ty48, iy48⟩ := ti_add (e := 1) (f := 20) i34 ln_1 ey48 (by decide)
        have ty48 : y48.toInt = v5_4.toInt + 1 := ty48
        have iy48 : 1 ≤ y48.toInt ∧ y48.toInt ≤ 20 := iy48
        refine lv_iinc (v := y48) (lv' := [(4, .int y48), (3, .int y47), (0, .ref (ad 4)), (1, .int a0), (2, .int a1)]) hx hb dX8_throwOut_40 hl (k := 1) rfl (by rw [ey48]; rfl) (by decide) rfl (fun ls hl => ?_)
        refine lv_goto (tgt := 5) hx hb dX8_throwOut_43 (by decide) ?_
        exact ih5 y48 y47 E40 _ _ _ (iv_w iy48 (by decide)) (by first | exact ms_su hx5_0 ty48 (by decide) | omega) hI hKp hP hS (lv_sub hl [0, 1, 2, 3, 4] rfl)
  exact hL5 (21) (0 : Int32) (0 : Int32) E _ _ _ (iv_w ln_0 (by decide)) (by have h9 := ln_0; first | exact ms_bu h9.1 (by decide) | omega) hI hKp hP hS (lv_sub hl [0, 1, 2, 3, 4] rfl)
def v_throwOutsIn : List Cond := .code yX8_throwOutsIn cX8_throwOutsIn 3 (some .int) :: vA
abbrev rm_throwOutsIn : Room := { frames := 4, cells := 0, slots := 0, locals := 160 }
def w_throwOutsIn : Nat → Nat → Bool := wl [19, 20] []
set_option maxHeartbeats 4000000 in
set_option maxRecDepth 100000 in
theorem q_throwOutsIn (l : Launch) (dC : Nat → ClassId) (dI : Nat → Nat → Nat) (cT : Nat → ClassId) (cf : Nat → Nat) (hC : CF cf) (ad : Nat → Nat) (E : Nat → va_E) (sz : Nat) (a0 : Int32) (hI0 : IXL cT (shC cf) (spC cf) (LC cf) ad E)  : Met l yX8_throwOutsIn v_throwOutsIn rm_throwOutsIn (va_Pc [.ref (ad 4), .int a0] (HWL dC dI (TYC cT) cf ad E sz)) (va_Qi (S := Nat → va_E) (fun r u => IXL cT (shC cf) (spC cf) (LC cf) ad u ∧ Kp w_throwOutsIn E u ∧ (True)) (HBL dC dI (LC cf) ad) (va_A (WL (LC cf) ad E) sz)) 0 0 (va_A (WL (LC cf) ad E) sz) := by
  obtain ⟨⟨hc0, hc1, hc2, hc3, hc4, hc5⟩, hcr⟩ := id hC
  refine Met.ofW (cc := cX8_throwOutsIn) (maxL := 3) (ret := (some .int)) (by decide) rfl ?_
  intro p e s m args below meth c s₁ B hml hv
  obtain ⟨hargs, hsz, hP, hK, hD0, hEV⟩ := hv
  subst hsz
  have hx := B.exec
  have hb := B.bytes
  have hr := B.returns
  have hts := atoms_spec (ws := v_throwOutsIn) B.pre
  have hown : s.vm.findClass RX8 = some m.cls := findClass_of_methodNamed B.named
  have hlocks := B.notSynchronized
  have hinX0 : ∀ w ∈ u_ws RX0 TX0 11, w ∈ v_throwOutsIn := fun w h => vA_in _ w (in_X0 w h)
  have hinX8 : ∀ w ∈ u_ws RX8 TX8 10, w ∈ v_throwOutsIn := fun w h => vA_in _ w (in_X8 w h)
  generalize hAe : va_A (WL (LC cf) ad E) s.heap.size = A at hEV ⊢
  have hA : ∀ q : Nat, s.heap.size ≤ q → A q := fun q h => by rw [← hAe]; exact Or.inr h
  have hD : va_D A (WL (LC cf) ad E) := by rw [← hAe]; exact hD0.self
  have hS : va_S A s.heap s.heap [] := va_S.rf
  have hI := hI0
  have hKp : Kp w_throwOutsIn E E := Kp.rf
  have hl := lv_entry ([.ref (ad 4), .int a0]) (n := 3) (Nat.le_of_ble_eq_true rfl)
  obtain ⟨Q, hQ⟩ : ∃ Q, Q = MQ below (va_Qi (S := Nat → va_E) (fun r u => IXL cT (shC cf) (spC cf) (LC cf) ad u ∧ Kp w_throwOutsIn E u ∧ (True)) (HBL dC dI (LC cf) ad) (A)) args s 0 0 (A) := ⟨_, rfl⟩
  rw [← hQ, show entryFrame m args 3 = _ from (congrArg (fun z => entryFrame m z 3) hargs).trans (lg_entry_eq _ _ _)]
  generalize (lg_sl ([.ref (ad 4), .int a0]) ++ List.replicate (3 - (lg_sl ([.ref (ad 4), .int a0])).length) Slot.unset).toArray = ls at hl ⊢
  have hl : lv_has ls 3 [(0, .ref (ad 4)), (1, .int a0)] := hl
  refine lv_aload_n hx hb dX8_throwOutsIn_0 rfl (lv_at hl 0 rfl) ?_
  refine th_getL (ci := 9) (C := RX8) (T := TX8) (N := 10) (v := .ref (ad 1)) hx hb hts hinX8 hown hK hP hI 4 (mF 4 rfl) rfl rfl 0 (Nat.le_of_ble_eq_true rfl) (hts _ (vA_in _ _ (in_19 _ (zs16 (zs0))))) (fun _ h9 => h9) (hI.fr 4 (mF 4 rfl) rfl (Nat.le_of_ble_eq_true rfl) 1 rfl) dX8_throwOutsIn_1 ?_
  refine th_vL (va_runV (As := []) (rest := []) ⟨hx, hb, hml, hown, hts⟩ (q_forget l dC dI cT cf hC ad E s.heap.size hI) (cwV 0 hts (gi_V (in_21 _ (zs16 (zs16 (zs1 (zs1 (zs0)))))) (in_6 _ (zs16 (zs16 (zs4 (zs1 (zs0)))))) (in_6 _ (zs16 (zs16 (zs4 (zs1 (zs1 (zs0))))))) (in_5 _ (zs4 (zs1 (zs1 (zs0))))) (in_5 _ (zs16 (zs4 (zs1 (zs1 (zs1 (zs0)))))))) rfl rfl rfl ⟨rfl, hz_yX0_forgetLetters_0⟩ ⟨Nat.le_of_ble_eq_true rfl, Nat.le_of_ble_eq_true rfl⟩) ⟨HWL_bl, va_recv hK hP (ci := 1) (q0 := posL 1 (LC cf)) rfl (hI.ob 1 (mF 1 rfl) rfl), (HWL_wi hP hK (WL_D hD) hS hA hEV)⟩ rfl rfl hl.1 rfl (lv_room (Nat.le_of_ble_eq_true rfl)) dX8_throwOutsIn_4 ⟨Nat.le_of_ble_eq_true rfl, Nat.le_of_ble_eq_true rfl⟩) (WL_D hD) hS hA (fun E2 H locs hw hP hS => ?_)
  obtain ⟨hI, kq3, hw⟩ := hw
  have hKb := hKp
  have hKp := hKp.tr kq3 (wl_sub rfl rfl)
  refine lv_aload_n hx hb dX8_throwOutsIn_7 rfl (lv_at hl 0 rfl) ?_
  refine th_getL (ci := 9) (C := RX8) (T := TX8) (N := 10) (v := .ref (ad 1)) hx hb hts hinX8 hown hK hP hI 4 (mF 4 rfl) rfl rfl 0 (Nat.le_of_ble_eq_true rfl) (hts _ (vA_in _ _ (in_19 _ (zs16 (zs0))))) (fun _ h9 => h9) (hI.fr 4 (mF 4 rfl) rfl (Nat.le_of_ble_eq_true rfl) 1 rfl) dX8_throwOutsIn_8 ?_
  refine th_getL (ci := 1) (C := RX0) (T := TX0) (N := 11) (v := .ref (ad 19)) hx hb hts hinX0 hown hK hP hI 1 (mF 1 rfl) rfl rfl 9 (Nat.le_of_ble_eq_true rfl) (hts _ (vA_in _ _ (in_21 _ (zs16 (zs16 (zs0)))))) (fun _ h9 => h9) (hI.fr 1 (mF 1 rfl) rfl (Nat.le_of_ble_eq_true rfl) 19 rfl) dX8_throwOutsIn_11 ?_
  refine lv_bipush (v := 7) hx hb dX8_throwOutsIn_14 (by decide) ?_
  refine lv_aload_n hx hb dX8_throwOutsIn_16 rfl (lv_at hl 0 rfl) ?_
  have j5 : 0 ≤ (xi (E 4) 2).toInt ∧ (xi (E 4) 2).toInt ≤ ((cf 2 : Nat) : Int) := hI0.iv 4 (mF 4 rfl) rfl (Nat.le_of_ble_eq_true rfl) rfl
  have i4 : 0 ≤ (xi (E 4) 2).toInt ∧ (xi (E 4) 2).toInt ≤ 20 := by omega
  refine th_getL (ci := 9) (C := RX8) (T := TX8) (N := 10) (v := .int (xi (E 4) 2)) hx hb hts hinX8 hown hK hP hI 4 (mF 4 rfl) rfl rfl 2 (Nat.le_of_ble_eq_true rfl) (hts _ (vA_in _ _ (in_20 _ (zs4 (zs4 (zs4 (zs0))))))) (fun _ h9 => h9) (th_v0L hKp hI0 4 (mF 4 rfl) rfl (Nat.le_of_ble_eq_true rfl) rfl rfl) dX8_throwOutsIn_17 ?_
  have n6 : vp_in (7 : Int32) 14 := (iv_in (n := 14) ln_7 (by decide))
  refine th_iastL hx hb hK hP (WL_D hD) hS hI 19 (mF 19 rfl) rfl rfl n6 (okI rfl (iv_w i4 (by decide))) dX8_throwOutsIn_20 (fun H locs E7 pw8 hI hP hS => ?_)
  have hKp := hKp.pw pw8 rfl
  refine lv_aload_n hx hb dX8_throwOutsIn_21 rfl (lv_at hl 0 rfl) ?_
  refine th_getL (ci := 9) (C := RX8) (T := TX8) (N := 10) (v := .ref (ad 1)) hx hb hts hinX8 hown hK hP hI 4 (mF 4 rfl) rfl rfl 0 (Nat.le_of_ble_eq_true rfl) (hts _ (vA_in _ _ (in_19 _ (zs16 (zs0))))) (fun _ h9 => h9) (hI.fr 4 (mF 4 rfl) rfl (Nat.le_of_ble_eq_true rfl) 1 rfl) dX8_throwOutsIn_22 ?_
  refine lv_aload_n hx hb dX8_throwOutsIn_25 rfl (lv_at hl 0 rfl) ?_
  refine th_getL (ci := 9) (C := RX8) (T := TX8) (N := 10) (v := .ref (ad 1)) hx hb hts hinX8 hown hK hP hI 4 (mF 4 rfl) rfl rfl 0 (Nat.le_of_ble_eq_true rfl) (hts _ (vA_in _ _ (in_19 _ (zs16 (zs0))))) (fun _ h9 => h9) (hI.fr 4 (mF 4 rfl) rfl (Nat.le_of_ble_eq_true rfl) 1 rfl) dX8_throwOutsIn_26 ?_
  refine lv_iload_n hx hb dX8_throwOutsIn_29 rfl (lv_at hl 1 rfl) ?_
  refine lv_iload_n hx hb dX8_throwOutsIn_30 rfl (lv_at hl 1 rfl) ?_
  refine th_riL (va_runV (As := [.int a0, .int a0]) (rest := [.ref (ad 1)]) ⟨hx, hb, hml, hown, hts⟩ (q_rulesOnC l dC dI cT cf hC ad E7 H.size a0 a0 hI) (cwV 2 hts (gi_V (in_21 _ (zs16 (zs16 (zs1 (zs1 (zs1 (zs0))))))) (in_6 _ (zs16 (zs4 (zs4 (zs4 (zs0)))))) (in_6 _ (zs16 (zs4 (zs4 (zs4 (zs1 (zs0))))))) (in_5 _ (zs4 (zs1 (zs1 (zs0))))) (in_6 _ (zs16 (zs4 (zs4 (zs4 (zs1 (zs1 (zs0))))))))) rfl rfl rfl ⟨rfl, hz_yX0_rulesOn_2⟩ ⟨Nat.le_of_ble_eq_true rfl, Nat.le_of_ble_eq_true rfl⟩) ⟨HWL_bl, va_recv hK hP (ci := 1) (q0 := posL 1 (LC cf)) rfl (hI.ob 1 (mF 1 rfl) rfl), (HWL_wi hP hK (WL_D hD) hS hA hEV)⟩ rfl rfl hl.1 rfl (lv_room (Nat.le_of_ble_eq_true rfl)) dX8_throwOutsIn_31 ⟨Nat.le_of_ble_eq_true rfl, Nat.le_of_ble_eq_true rfl⟩) hS hP (fun r9 H locs hw hP hS => ?_)
  obtain ⟨f10, f11⟩ := hw
  refine lv_bipush (v := 116) hx hb dX8_throwOutsIn_34 (by decide) ?_
  have z116 := ln_116
  refine th_iL (va_runV (As := [.int r9, .int 116]) (rest := []) ⟨hx, hb, hml, hown, hts⟩ (q_worthIn l dC dI cT cf hC ad E7 H.size r9 (116 : Int32) hI f10 (by omega)) (cwV 2 hts (gi_V (in_21 _ (zs16 (zs16 (zs4 (zs0))))) (in_16 _ (zs16 (zs4 (zs4 (zs1 (zs1 (zs0))))))) (in_16 _ (zs16 (zs4 (zs4 (zs1 (zs1 (zs1 (zs0)))))))) (in_5 _ (zs4 (zs1 (zs1 (zs0))))) (in_7 _ (zs16 (zs4 (zs4 (zs4 (zs0))))))) rfl rfl rfl ⟨rfl, hz_yX0_worthIn_2⟩ ⟨Nat.le_of_ble_eq_true rfl, Nat.le_of_ble_eq_true rfl⟩) ⟨HWL_bl, va_recv hK hP (ci := 1) (q0 := posL 1 (LC cf)) rfl (hI.ob 1 (mF 1 rfl) rfl), (HWL_wi hP hK (WL_D hD) hS hA hEV)⟩ rfl rfl hl.1 rfl (lv_room (Nat.le_of_ble_eq_true rfl)) dX8_throwOutsIn_36 ⟨Nat.le_of_ble_eq_true rfl, Nat.le_of_ble_eq_true rfl⟩) (WL_D hD) hS hA (fun r12 E13 H locs hw hP hS => ?_)
  obtain ⟨hI, kq14, hw⟩ := hw
  have hKb := hKp
  have hKp := hKp.tr kq14 (wl_sub rfl rfl)
  refine lv_istore_n (lv' := [(2, .int r12), (0, .ref (ad 4)), (1, .int a0)]) hx hb dX8_throwOutsIn_39 rfl hl (by decide) rfl (fun ls hl => ?_)
  refine lv_iload_n hx hb dX8_throwOutsIn_40 rfl (lv_at hl 0 rfl) ?_
  refine lv_iconst (v := 0) hx hb dX8_throwOutsIn_41 (by decide) ?_
  refine lv_iconst (v := 0) hx hb dX8_throwOutsIn_42 (by decide) ?_
  refine lv_aload_n hx hb dX8_throwOutsIn_43 rfl (lv_at hl 1 rfl) ?_
  refine th_getL (ci := 9) (C := RX8) (T := TX8) (N := 10) (v := .int (xi (E 4) 2)) hx hb hts hinX8 hown hK hP hI 4 (mF 4 rfl) rfl rfl 2 (Nat.le_of_ble_eq_true rfl) (hts _ (vA_in _ _ (in_20 _ (zs4 (zs4 (zs4 (zs0))))))) (fun _ h9 => h9) (th_v0L hKp hI0 4 (mF 4 rfl) rfl (Nat.le_of_ble_eq_true rfl) rfl rfl) dX8_throwOutsIn_44 ?_
  refine lv_iconst (v := 1) hx hb dX8_throwOutsIn_47 (by decide) ?_
  refine lv_isub hx hb dX8_throwOutsIn_48 ?_
  refine lv_topi (fun y15 ey15 => ?_)
  obtain ⟨ty15, iy15⟩ := ti_sub (e := (-1)) (f := 19) i4 ln_1 ey15 (by decide)
  have ty15 : y15.toInt = (xi (E 4) 2).toInt - 1 := ty15
  have iy15 : -1 ≤ y15.toInt ∧ y15.toInt ≤ 19 := iy15
  refine va_mmax hx hb (by rw [hml]; exact hl.1.symm) hown (hts _ (vA_in _ _ (in_21 _ (zs16 (zs16 (zs1 (zs0))))))) (hts _ (vA_in _ _ (in_0 _ (zs16 (zs16 (zs0)))))) (hts _ (vA_in _ _ (in_0 _ (zs16 (zs16 (zs1 (zs0))))))) (hts _ (vA_in _ _ (in_0 _ (zs16 (zs16 (zs1 (zs1 (zs0)))))))) (Nat.le_of_ble_eq_true rfl) (Nat.le_of_ble_eq_true rfl) (Nat.le_of_ble_eq_true rfl) (Nat.le_of_ble_eq_true rfl) dX8_throwOutsIn_49 ?_
  have z0 := ln_0
  refine lv_topi (fun y16 ey16 => ?_)
  obtain ⟨ty16, iy16⟩ := ti_max (e := 0) (f := 19) ln_0 iy15 ey16 (by decide)
  have iy16 : 0 ≤ y16.toInt ∧ y16.toInt ≤ 19 := iy16
  refine th_pi (va_runSN (As := [.int r12, .int 0, .int y16]) (rest := []) ⟨hx, hb, hml, hown, hts⟩ (q_cheld l r12 (0 : Int32) y16 (by omega)) ⟨va_cnB 3 hts (gi_0 (in_7 _ (zs16 (zs4 (zs4 (zs1 (zs1 (zs0)))))))) rfl rfl rfl (hEV.1.1 _ (List.mem_of_getElem? (i := 8) rfl)) (hts _ (vA_in _ _ (in_4 _ (zs16 (zs4 (zs1 (zs1 (zs1 (zs0))))))))) hz_yX12_held_3 ⟨Nat.le_of_ble_eq_true rfl, Nat.le_of_ble_eq_true rfl⟩, (hts _ (vA_in _ _ (in_7 _ (zs16 (zs4 (zs4 (zs1 (zs0)))))))), trivial⟩ ⟨fun _ _ _ _ q => q, fun _ _ _ => ⟨rfl, trivial⟩⟩ rfl rfl hl.1 rfl (lv_room (Nat.le_of_ble_eq_true rfl)) dX8_throwOutsIn_52 ⟨Nat.le_of_ble_eq_true rfl, Nat.le_of_ble_eq_true rfl⟩) hS (fun r17 H1 locs1 hw hk1 hS => ?_)
  have hP := ub_keep hP hk1
  generalize H1 = H at hP hS ⊢
  generalize locs1 = locs at hS ⊢
  obtain ⟨f18, f19⟩ := hw
  rw [hQ]
  exact W.iret (v := r17) hx hb hr (fun t ht hW => ⟨⟨r17, E13, rfl, ⟨hI, hKp, trivial⟩, by show va_P (dC, dI) vwCl (WL (LC cf) ad E13) t.heap; rw [ht]; exact hP⟩, hS.F ht⟩) hS.2.2 dX8_throwOutsIn_55
def v_meanBeside : List Cond := .code yX8_meanBeside cX8_meanBeside 7 (some .int) :: vA
abbrev rm_meanBeside : Room := { frames := 3, cells := 0, slots := 0, locals := 120 }
set_option maxHeartbeats 4000000 in
set_option maxRecDepth 100000 in
theorem q_meanBeside (l : Launch) (dC : Nat → ClassId) (dI : Nat → Nat → Nat) (cT : Nat → ClassId) (cf : Nat → Nat) (hC : CF cf) (ad : Nat → Nat) (E : Nat → va_E) (sz : Nat) (a0 : Int32) (a1 : Int32) (a2 : Int32) (hI0 : IXL cT (shC cf) (spC cf) (LC cf) ad E) (hh0 : 0 ≤ a1.toInt ∧ a1.toInt ≤ 15) : Met l yX8_meanBeside v_meanBeside rm_meanBeside (va_Pc [.ref (ad 4), .int a0, .int a1, .int a2] (HWL dC dI (TYC cT) cf ad E sz)) (va_Qi (S := Unit) (fun r _ => True) (fun _ _ => True) (fun _ => False)) 0 0 (fun _ => False) := by
  obtain ⟨⟨hc0, hc1, hc2, hc3, hc4, hc5⟩, hcr⟩ := id hC
  refine Met.ofW (cc := cX8_meanBeside) (maxL := 7) (ret := (some .int)) (by decide) rfl ?_
  intro p e s m args below meth c s₁ B hml hv
  obtain ⟨hargs, hsz, hP, hK, hD0, hEV⟩ := hv
  subst hsz
  have hx := B.exec
  have hb := B.bytes
  have hr := B.returns
  have hts := atoms_spec (ws := v_meanBeside) B.pre
  have hown : s.vm.findClass RX8 = some m.cls := findClass_of_methodNamed B.named
  have hlocks := B.notSynchronized
  have hinX0 : ∀ w ∈ u_ws RX0 TX0 11, w ∈ v_meanBeside := fun w h => vA_in _ w (in_X0 w h)
  have hinX8 : ∀ w ∈ u_ws RX8 TX8 10, w ∈ v_meanBeside := fun w h => vA_in _ w (in_X8 w h)
  have hS : va_S (fun _ : Nat => False) s.heap s.heap [] := va_S.rf
  have hD := hD0
  have hI := hI0
  have hKp : Kp (wl [] []) E E := Kp.rf
  have hl := lv_entry ([.ref (ad 4), .int a0, .int a1, .int a2]) (n := 7) (Nat.le_of_ble_eq_true rfl)
  obtain ⟨Q, hQ⟩ : ∃ Q, Q = MQ below (va_Qi (S := Unit) (fun r _ => True) (fun _ _ => True) (fun _ => False)) args s 0 0 (fun _ => False) := ⟨_, rfl⟩
  rw [← hQ, show entryFrame m args 7 = _ from (congrArg (fun z => entryFrame m z 7) hargs).trans (lg_entry_eq _ _ _)]
  generalize (lg_sl ([.ref (ad 4), .int a0, .int a1, .int a2]) ++ List.replicate (7 - (lg_sl ([.ref (ad 4), .int a0, .int a1, .int a2])).length) Slot.unset).toArray = ls at hl ⊢
  have hl : lv_has ls 7 [(0, .ref (ad 4)), (1, .int a0), (2, .int a1), (3, .int a2)] := hl
  refine lv_iconst (v := 0) hx hb dX8_meanBeside_0 (by decide) ?_
  refine lv_istore (lv' := [(4, .int 0), (0, .ref (ad 4)), (1, .int a0), (2, .int a1), (3, .int a2)]) hx hb dX8_meanBeside_1 hl (by decide) rfl (fun ls hl => ?_)
  refine lv_iconst (v := 0) hx hb dX8_meanBeside_3 (by decide) ?_
  refine lv_istore (lv' := [(5, .int 0), (4, .int 0), (0, .ref (ad 4)), (1, .int a0), (2, .int a1), (3, .int a2)]) hx hb dX8_meanBeside_4 hl (by decide) rfl (fun ls hl => ?_)
  refine lv_iconst (v := 0) hx hb dX8_meanBeside_6 (by decide) ?_
  refine lv_istore (lv' := [(6, .int 0), (5, .int 0), (4, .int 0), (0, .ref (ad 4)), (1, .int a0), (2, .int a1), (3, .int a2)]) hx hb dX8_meanBeside_7 hl (by decide) rfl (fun ls hl => ?_)
  have hL9 : ∀ d : Nat, ∀ (v9_6 : Int32) (v9_5 : Int32) (v9_4 : Int32) (H : Heap) (locs : List Loc) (ls : Array Slot), 0 ≤ v9_6.toInt ∧ v9_6.toInt ≤ 20 → 20 - v9_6.toInt < (d : Int) → va_P (dC, dI) vwCl (WL (LC cf) ad E) H → va_S (fun _ : Nat => False) s.heap H locs → lv_has ls 7 [(6, .int v9_6), (5, .int v9_5), (4, .int v9_4), (0, .ref (ad 4)), (1, .int a0), (2, .int a1), (3, .int a2)] → W p l e (headSpec v_meanBeside rm_meanBeside).room s m args below meth c H locs 0 0 Q (F0 m 9 ls []) := by
    intro d
    induction d with
    | zero =>
      intro v9_6 v9_5 v9_4 H locs ls hv9_6 hx9_0 hP hS hl
      exact absurd hx9_0 (by first | exact ms_zu hv9_6.2 | omega)
    | succ d ih9 =>
      intro v9_6 v9_5 v9_4 H locs ls hv9_6 hx9_0 hP hS hl
      refine lv_iload hx hb dX8_meanBeside_9 (lv_at hl 0 rfl) ?_
      refine lv_aload_n hx hb dX8_meanBeside_11 rfl (lv_at hl 3 rfl) ?_
      have j2 : 0 ≤ (xi (E 4) 2).toInt ∧ (xi (E 4) 2).toInt ≤ ((cf 2 : Nat) : Int) := hI0.iv 4 (mF 4 rfl) rfl (Nat.le_of_ble_eq_true rfl) rfl
      have i1 : 0 ≤ (xi (E 4) 2).toInt ∧ (xi (E 4) 2).toInt ≤ 20 := by omega
      refine th_getL (ci := 9) (C := RX8) (T := TX8) (N := 10) (v := .int (xi (E 4) 2)) hx hb hts hinX8 hown hK hP hI 4 (mF 4 rfl) rfl rfl 2 (Nat.le_of_ble_eq_true rfl) (hts _ (vA_in _ _ (in_20 _ (zs4 (zs4 (zs4 (zs0))))))) (fun _ h9 => h9) (th_v0L hKp hI0 4 (mF 4 rfl) rfl (Nat.le_of_ble_eq_true rfl) rfl rfl) dX8_meanBeside_12 ?_
      refine lv_icmp_ge (tgt := 75) hx hb dX8_meanBeside_15 (by decide) (fun c3 => ?_) (fun c3 => ?_)
      · --15 taken
        have t4 : (xi (E 4) 2).toInt ≤ v9_6.toInt := ti_le c3
        refine lv_iload hx hb dX8_meanBeside_75 (lv_at hl 1 rfl) ?_
        refine lv_if_ne (tgt := 84) hx hb dX8_meanBeside_77 (by decide) (fun c5 => ?_) (fun c5 => ?_)
        · --77 taken
          have t6 : ¬ v9_5.toInt = 0 := ti_ne c5
          refine lv_iload hx hb dX8_meanBeside_84 (lv_at hl 2 rfl) ?_
          refine lv_iload hx hb dX8_meanBeside_86 (lv_at hl 1 rfl) ?_
          refine lv_idiv hx hb dX8_meanBeside_88 (fun h9 => t6 (by rw [h9]; rfl)) ?_
          refine lv_topi (fun y7 ey7 => ?_)
          rw [hQ]
          exact W.iret (v := y7) hx hb hr (fun t ht hW => ⟨⟨y7, (), rfl, trivial, trivial⟩, hS.F ht⟩) hS.2.2 dX8_meanBeside_89
        · --77 not
          have t8 : v9_5.toInt = 0 := ti_eq c5
          have i9 : 0 ≤ v9_5.toInt ∧ v9_5.toInt ≤ 0 := iv_eqi t8 (iv_all _) (il_ 0) (by decide)
          refine lv_iconst (v := 0) hx hb dX8_meanBeside_80 (by decide) ?_
          refine lv_goto (tgt := 89) hx hb dX8_meanBeside_81 (by decide) ?_
          rw [hQ]
          exact W.iret (v := 0) hx hb hr (fun t ht hW => ⟨⟨0, (), rfl, trivial, trivial⟩, hS.F ht⟩) hS.2.2 dX8_meanBeside_89
      · --15 not
        have t10 : v9_6.toInt < (xi (E 4) 2).toInt := ti_nle c3
        have i11 : 0 ≤ v9_6.toInt ∧ v9_6.toInt ≤ 19 := iv_lt_l t10 hv9_6 i1 (by decide)
        have i12 : 1 ≤ (xi (E 4) 2).toInt ∧ (xi (E 4) 2).toInt ≤ 20 := iv_lt_r t10 hv9_6 i1 (by decide)
        refine lv_iload hx hb dX8_meanBeside_18 (lv_at hl 0 rfl) ?_
        refine lv_iload_n hx hb dX8_meanBeside_20 rfl (lv_at hl 4 rfl) ?_
        refine lv_icmp_eq (tgt := 69) hx hb dX8_meanBeside_21 (by decide) (fun c13 => ?_) (fun c13 => ?_)
        · --21 taken
          have t14 : v9_6.toInt = a0.toInt := ti_eq c13
          have i15 : 0 ≤ a0.toInt ∧ a0.toInt ≤ 19 := iv_eqi t14.symm (iv_all _) i11 (by decide)
          obtain ⟨y16, ey16⟩ : ∃ y : Int32, y = v9_6 + (1 : Int32) := ⟨_, rfl⟩
          obtain ⟨ty16, iy16⟩ := ti_add (e := 1) (f := 20) i11 ln_1 ey16 (by decide)
          have ty16 : y16.toInt = v9_6.toInt + 1 := ty16
          have iy16 : 1 ≤ y16.toInt ∧ y16.toInt ≤ 20 := iy16
          refine lv_iinc (v := y16) (lv' := [(6, .int y16), (5, .int v9_5), (4, .int v9_4), (0, .ref (ad 4)), (1, .int a0), (2, .int a1), (3, .int a2)]) hx hb dX8_meanBeside_69 hl (k := 0) rfl (by rw [ey16]; rfl) (by decide) rfl (fun ls hl => ?_)
          refine lv_goto (tgt := 9) hx hb dX8_meanBeside_72 (by decide) ?_
          exact ih9 y16 v9_5 v9_4 _ _ _ (iv_w iy16 (by decide)) (by first | exact ms_su hx9_0 ty16 (by decide) | omega) hP hS (lv_sub hl [0, 1, 2, 3, 4, 5, 6] rfl)
        · --21 not
          have t17 : ¬ v9_6.toInt = a0.toInt := ti_ne c13
          refine lv_aload_n hx hb dX8_meanBeside_24 rfl (lv_at hl 3 rfl) ?_
          refine th_getL (ci := 9) (C := RX8) (T := TX8) (N := 10) (v := .ref (ad 1)) hx hb hts hinX8 hown hK hP hI 4 (mF 4 rfl) rfl rfl 0 (Nat.le_of_ble_eq_true rfl) (hts _ (vA_in _ _ (in_19 _ (zs16 (zs0))))) (fun _ h9 => h9) (hI.fr 4 (mF 4 rfl) rfl (Nat.le_of_ble_eq_true rfl) 1 rfl) dX8_meanBeside_25 ?_
          refine th_getL (ci := 1) (C := RX0) (T := TX0) (N := 11) (v := .ref (ad 9)) hx hb hts hinX0 hown hK hP hI 1 (mF 1 rfl) rfl rfl 5 (Nat.le_of_ble_eq_true rfl) (hts _ (vA_in _ _ (in_20 _ (zs4 (zs4 (zs1 (zs1 (zs0)))))))) (fun _ h9 => h9) (hI.fr 1 (mF 1 rfl) rfl (Nat.le_of_ble_eq_true rfl) 9 rfl) dX8_meanBeside_28 ?_
          refine lv_iload hx hb dX8_meanBeside_31 (lv_at hl 0 rfl) ?_
          refine th_rrL (va_runV (As := [.int v9_6]) (rest := []) ⟨hx, hb, hml, hown, hts⟩ (q_get2 l dC dI cT cf hC ad E H.size v9_6 hI (by omega)) (cwV 1 hts (gi_V (in_20 _ (zs4 (zs4 (zs4 (zs1 (zs0)))))) (in_4 _ (zs16 (zs16 (zs4 (zs1 (zs1 (zs0))))))) (in_4 _ (zs16 (zs16 (zs4 (zs1 (zs1 (zs1 (zs0)))))))) (in_3 _ (zs16 (zs1 (zs1 (zs0))))) (in_3 _ (zs16 (zs16 (zs4 (zs1 (zs1 (zs1 (zs0))))))))) rfl rfl rfl ⟨rfl, hz_yJx4a65c_get_915e3_1⟩ ⟨Nat.le_of_ble_eq_true rfl, Nat.le_of_ble_eq_true rfl⟩) ⟨HWL_bl, va_recv hK hP (ci := 0) (q0 := posL 9 (LC cf)) rfl (hI.ob 9 (mF 9 rfl) rfl), (HWL_wiR hP hK (WL_D hD) hS hEV)⟩ rfl rfl hl.1 rfl (lv_room (Nat.le_of_ble_eq_true rfl)) dX8_meanBeside_33 ⟨Nat.le_of_ble_eq_true rfl, Nat.le_of_ble_eq_true rfl⟩) hS hP (fun r18 H locs hw hP hS => ?_)
          obtain rfl := hw
          have lv19 : v9_6.toNatClampNeg < cf 2 := by rw [tn_]; omega
          refine va_castS (cC := dC 6) hx hb hown (hts _ (vA_in _ _ (in_20 _ (zs4 (zs4 (zs1 (zs1 (zs1 (zs0))))))))) (hK.1 6 _ rfl).2 (va_recv hK hP (ci := 6) (q0 := posL (64 * (v9_6.toNatClampNeg + 1) + 6) (LC cf)) rfl (hI.ob (64 * (v9_6.toNatClampNeg + 1) + 6) (mP 6 v9_6.toNatClampNeg (by decide) lv19 (kl_le hC 2 (by decide))) (shC_p 6 v9_6.toNatClampNeg (by decide)))) dX8_meanBeside_36 ?_
          refine lv_iload_n hx hb dX8_meanBeside_39 rfl (lv_at hl 5 rfl) ?_
          refine lv_iload_n hx hb dX8_meanBeside_40 rfl (lv_at hl 6 rfl) ?_
          refine th_riL (va_runV (As := [.int a1, .int a2]) (rest := []) ⟨hx, hb, hml, hown, hts⟩ (q_isRedressedIn l dC dI cT cf hC ad E H.size a1 a2 v9_6.toNatClampNeg hI (by omega) hh0) (cwV 2 hts (gi_V (in_20 _ (zs4 (zs4 (zs4 (zs1 (zs1 (zs0))))))) (in_20 _ (zs4 (zs4 (zs4 (zs1 (zs1 (zs1 (zs0)))))))) (in_20 _ (zs16 (zs0))) (in_6 _ (zs16 (zs1 (zs0)))) (in_20 _ (zs16 (zs1 (zs0))))) rfl rfl rfl ⟨rfl, hz_yX5_isRedressedIn_2⟩ ⟨Nat.le_of_ble_eq_true rfl, Nat.le_of_ble_eq_true rfl⟩) ⟨HWL_bl, va_recv hK hP (ci := 6) (q0 := posL (64 * (v9_6.toNatClampNeg + 1) + 6) (LC cf)) rfl (hI.ob (64 * (v9_6.toNatClampNeg + 1) + 6) (mP 6 v9_6.toNatClampNeg (by decide) lv19 (kl_le hC 2 (by decide))) (shC_p 6 v9_6.toNatClampNeg (by decide))), (HWL_wiR hP hK (WL_D hD) hS hEV)⟩ rfl rfl hl.1 rfl (lv_room (Nat.le_of_ble_eq_true rfl)) dX8_meanBeside_41 ⟨Nat.le_of_ble_eq_true rfl, Nat.le_of_ble_eq_true rfl⟩) hS hP (fun r20 H locs hw hP hS => ?_)
          rcases hw with hw | hw
          · -- isRedressedIn, case 0
            obtain ⟨rfl, f21⟩ := hw
            refine lv_if_eq (tgt := 50) hx hb dX8_meanBeside_44 (by decide) (fun c22 => ?_) (fun c22 => ?_)
            · --44 taken
              exact absurd c22 (by decide)
            · --44 not
              refine lv_goto (tgt := 69) hx hb dX8_meanBeside_47 (by decide) ?_
              obtain ⟨y23, ey23⟩ : ∃ y : Int32, y = v9_6 + (1 : Int32) := ⟨_, rfl⟩
              obtain ⟨ty23, iy23⟩ := ti_add (e := 1) (f := 20) i11 ln_1 ey23 (by decide)
              have ty23 : y23.toInt = v9_6.toInt + 1 := ty23
              have iy23 : 1 ≤ y23.toInt ∧ y23.toInt ≤ 20 := iy23
              refine lv_iinc (v := y23) (lv' := [(6, .int y23), (5, .int v9_5), (4, .int v9_4), (0, .ref (ad 4)), (1, .int a0), (2, .int a1), (3, .int a2)]) hx hb dX8_meanBeside_69 hl (k := 0) rfl (by rw [ey23]; rfl) (by decide) rfl (fun ls hl => ?_)
              refine lv_goto (tgt := 9) hx hb dX8_meanBeside_72 (by decide) ?_
              exact ih9 y23 v9_5 v9_4 _ _ _ (iv_w iy23 (by decide)) (by first | exact ms_su hx9_0 ty23 (by decide) | omega) hP hS (lv_sub hl [0, 1, 2, 3, 4, 5, 6] rfl)
          · -- isRedressedIn, case 1
            obtain ⟨rfl, f24⟩ := hw
            refine lv_if_eq (tgt := 50) hx hb dX8_meanBeside_44 (by decide) (fun c25 => ?_) (fun c25 => ?_)
            · --44 taken
              refine lv_iload hx hb dX8_meanBeside_50 (lv_at hl 2 rfl) ?_
              refine lv_aload_n hx hb dX8_meanBeside_52 rfl (lv_at hl 3 rfl) ?_
              refine th_getL (ci := 9) (C := RX8) (T := TX8) (N := 10) (v := .ref (ad 31)) hx hb hts hinX8 hown hK hP hI 4 (mF 4 rfl) rfl rfl 3 (Nat.le_of_ble_eq_true rfl) (hts _ (vA_in _ _ (in_19 _ (zs4 (zs4 (zs0)))))) (fun _ h9 => h9) (hI.fr 4 (mF 4 rfl) rfl (Nat.le_of_ble_eq_true rfl) 31 rfl) dX8_meanBeside_53 ?_
              refine lv_iload hx hb dX8_meanBeside_56 (lv_at hl 0 rfl) ?_
              refine lv_iload_n hx hb dX8_meanBeside_58 rfl (lv_at hl 5 rfl) ?_
              refine th_pi (va_runSN (As := [.int v9_6, .int a1]) (rest := [.ref (ad 31), .int v9_4]) ⟨hx, hb, hml, hown, hts⟩ (q_ccell l v9_6 a1 i11 hh0) ⟨va_cnB 2 hts (gi_0 (in_10 _ (zs16 (zs4 (zs0))))) rfl rfl rfl (hEV.1.1 _ (List.mem_of_getElem? (i := 10) rfl)) (hts _ (vA_in _ _ (in_4 _ (zs16 (zs4 (zs1 (zs1 (zs1 (zs0))))))))) hz_yX12_cell_2 ⟨Nat.le_of_ble_eq_true rfl, Nat.le_of_ble_eq_true rfl⟩, (hts _ (vA_in _ _ (in_13 _ (zs1 (zs0))))), trivial⟩ ⟨fun _ _ _ _ q => q, fun _ _ _ => ⟨rfl, trivial⟩⟩ rfl rfl hl.1 rfl (lv_room (Nat.le_of_ble_eq_true rfl)) dX8_meanBeside_59 ⟨Nat.le_of_ble_eq_true rfl, Nat.le_of_ble_eq_true rfl⟩) hS (fun r26 H1 locs1 hw hk1 hS => ?_)
              have hP := ub_keep hP hk1
              generalize H1 = H at hP hS ⊢
              generalize locs1 = locs at hS ⊢
              obtain ⟨f27, f28⟩ := hw
              have n30 : vp_in r26 320 := (iv_in (n := 320) f27 (by decide))
              refine th_ialdL hx hb hK hP hI 31 (mF 31 rfl) rfl rfl n30 dX8_meanBeside_62 (fun y29 ey29 => ?_)
              have iy29 : 0 ≤ y29.toInt ∧ y29.toInt ≤ 10000 := hI.el 31 (mF 31 rfl) rfl n30 (fun _ => rfl) ey29
              have ey29 := ey29.trans (hKp.ei 31 _ rfl)
              refine lv_iadd hx hb dX8_meanBeside_63 ?_
              refine lv_topi (fun y31 ey31 => ?_)
              refine lv_istore (lv' := [(4, .int y31), (6, .int v9_6), (5, .int v9_5), (0, .ref (ad 4)), (1, .int a0), (2, .int a1), (3, .int a2)]) hx hb dX8_meanBeside_64 hl (by decide) rfl (fun ls hl => ?_)
              obtain ⟨y32, ey32⟩ : ∃ y : Int32, y = v9_5 + (1 : Int32) := ⟨_, rfl⟩
              refine lv_iinc (v := y32) (lv' := [(5, .int y32), (4, .int y31), (6, .int v9_6), (0, .ref (ad 4)), (1, .int a0), (2, .int a1), (3, .int a2)]) hx hb dX8_meanBeside_66 hl (k := 2) rfl (by rw [ey32]; rfl) (by decide) rfl (fun ls hl => ?_)
              obtain ⟨y33, ey33⟩ : ∃ y : Int32, y = v9_6 + (1 : Int32) := ⟨_, rfl⟩
              obtain ⟨ty33, iy33⟩ := ti_add (e := 1) (f := 20) i11 ln_1 ey33 (by decide)
              have ty33 : y33.toInt = v9_6.toInt + 1 := ty33
              have iy33 : 1 ≤ y33.toInt ∧ y33.toInt ≤ 20 := iy33
              refine lv_iinc (v := y33) (lv' := [(6, .int y33), (5, .int y32), (4, .int y31), (0, .ref (ad 4)), (1, .int a0), (2, .int a1), (3, .int a2)]) hx hb dX8_meanBeside_69 hl (k := 2) rfl (by rw [ey33]; rfl) (by decide) rfl (fun ls hl => ?_)
              refine lv_goto (tgt := 9) hx hb dX8_meanBeside_72 (by decide) ?_
              exact ih9 y33 y32 y31 _ _ _ (iv_w iy33 (by decide)) (by first | exact ms_su hx9_0 ty33 (by decide) | omega) hP hS (lv_sub hl [0, 1, 2, 3, 4, 5, 6] rfl)
            · --44 not
              exact absurd c25 (by decide)
  exact hL9 (21) (0 : Int32) (0 : Int32) (0 : Int32) _ _ _ (iv_w ln_0 (by decide)) (by have h9 := ln_0; first | exact ms_bu h9.1 (by decide) | omega) hP hS (lv_sub hl [0, 1, 2, 3, 4, 5, 6] rfl)
def v_tally : List Cond := .code yX8_tally cX8_tally 6 none :: vA
abbrev rm_tally : Room := { frames := 6, cells := 0, slots := 0, locals := 240 }
def w_tally : Nat → Nat → Bool := wl [19, 20, 26, 27, 28, 29, 30, 31, 32, 33, 34, 35] [(3, 6), (3, 7), (3, 8), (4, 2)]
set_option maxHeartbeats 4000000 in
set_option maxRecDepth 100000 in
theorem q_tally (l : Launch) (dC : Nat → ClassId) (dI : Nat → Nat → Nat) (cT : Nat → ClassId) (cf : Nat → Nat) (hC : CF cf) (ad : Nat → Nat) (E : Nat → va_E) (sz : Nat) (a0 : Int32) (hI0 : IXL cT (shC cf) (spC cf) (LC cf) ad E)  : Met l yX8_tally v_tally rm_tally (va_Pc [.ref (ad 4), .int a0] (HWL dC dI (TYC cT) cf ad E sz)) (va_Qv (S := Nat → va_E) (fun u => IXL cT (shC cf) (spC cf) (LC cf) ad u ∧ Kp w_tally E u ∧ (True)) (HBL dC dI (LC cf) ad) (va_A (WL (LC cf) ad E) sz)) 0 0 (va_A (WL (LC cf) ad E) sz) := by
  obtain ⟨⟨hc0, hc1, hc2, hc3, hc4, hc5⟩, hcr⟩ := id hC
  refine Met.ofW (cc := cX8_tally) (maxL := 6) (ret := none) (by decide) rfl ?_
  intro p e s m args below meth c s₁ B hml hv
  obtain ⟨hargs, hsz, hP, hK, hD0, hEV⟩ := hv
  subst hsz
  have hx := B.exec
  have hb := B.bytes
  have hr := B.returns
  have hts := atoms_spec (ws := v_tally) B.pre
  have hown : s.vm.findClass RX8 = some m.cls := findClass_of_methodNamed B.named
  have hlocks := B.notSynchronized
  have hinX0 : ∀ w ∈ u_ws RX0 TX0 11, w ∈ v_tally := fun w h => vA_in _ w (in_X0 w h)
  have hinX8 : ∀ w ∈ u_ws RX8 TX8 10, w ∈ v_tally := fun w h => vA_in _ w (in_X8 w h)
  have hinX9 : ∀ w ∈ u_ws RX9 TX9 9, w ∈ v_tally := fun w h => vA_in _ w (in_X9 w h)
  generalize hAe : va_A (WL (LC cf) ad E) s.heap.size = A at hEV ⊢
  have hA : ∀ q : Nat, s.heap.size ≤ q → A q := fun q h => by rw [← hAe]; exact Or.inr h
  have hD : va_D A (WL (LC cf) ad E) := by rw [← hAe]; exact hD0.self
  have hS : va_S A s.heap s.heap [] := va_S.rf
  have hI := hI0
  have hKp : Kp w_tally E E := Kp.rf
  have hl := lv_entry ([.ref (ad 4), .int a0]) (n := 6) (Nat.le_of_ble_eq_true rfl)
  obtain ⟨Q, hQ⟩ : ∃ Q, Q = MQ below (va_Qv (S := Nat → va_E) (fun u => IXL cT (shC cf) (spC cf) (LC cf) ad u ∧ Kp w_tally E u ∧ (True)) (HBL dC dI (LC cf) ad) (A)) args s 0 0 (A) := ⟨_, rfl⟩
  rw [← hQ, show entryFrame m args 6 = _ from (congrArg (fun z => entryFrame m z 6) hargs).trans (lg_entry_eq _ _ _)]
  generalize (lg_sl ([.ref (ad 4), .int a0]) ++ List.replicate (6 - (lg_sl ([.ref (ad 4), .int a0])).length) Slot.unset).toArray = ls at hl ⊢
  have hl : lv_has ls 6 [(0, .ref (ad 4)), (1, .int a0)] := hl
  refine lv_aload_n hx hb dX8_tally_0 rfl (lv_at hl 0 rfl) ?_
  refine lv_aload_n hx hb dX8_tally_1 rfl (lv_at hl 0 rfl) ?_
  refine th_getL (ci := 9) (C := RX8) (T := TX8) (N := 10) (v := .ref (ad 1)) hx hb hts hinX8 hown hK hP hI 4 (mF 4 rfl) rfl rfl 0 (Nat.le_of_ble_eq_true rfl) (hts _ (vA_in _ _ (in_19 _ (zs16 (zs0))))) (fun _ h9 => h9) (hI.fr 4 (mF 4 rfl) rfl (Nat.le_of_ble_eq_true rfl) 1 rfl) dX8_tally_2 ?_
  refine lv_iload_n hx hb dX8_tally_5 rfl (lv_at hl 1 rfl) ?_
  refine th_riL (va_runV (As := [.int a0]) (rest := [.ref (ad 4)]) ⟨hx, hb, hml, hown, hts⟩ (q_racesIn l dC dI cT cf hC ad E s.heap.size a0 hI) (cwV 1 hts (gi_V (in_20 _ (zs16 (zs4 (zs4 (zs1 (zs1 (zs1 (zs0)))))))) (in_20 _ (zs16 (zs4 (zs4 (zs4 (zs0)))))) (in_20 _ (zs16 (zs4 (zs4 (zs4 (zs1 (zs0))))))) (in_5 _ (zs4 (zs1 (zs1 (zs0))))) (in_7 _ (zs16 (zs4 (zs4 (zs1 (zs1 (zs1 (zs0))))))))) rfl rfl rfl ⟨rfl, hz_yX0_racesIn_1⟩ ⟨Nat.le_of_ble_eq_true rfl, Nat.le_of_ble_eq_true rfl⟩) ⟨HWL_bl, va_recv hK hP (ci := 1) (q0 := posL 1 (LC cf)) rfl (hI.ob 1 (mF 1 rfl) rfl), (HWL_wi hP hK (WL_D hD) hS hA hEV)⟩ rfl rfl hl.1 rfl (lv_room (Nat.le_of_ble_eq_true rfl)) dX8_tally_6 ⟨Nat.le_of_ble_eq_true rfl, Nat.le_of_ble_eq_true rfl⟩) hS hP (fun r1 H locs hw hP hS => ?_)
  obtain ⟨f2, f3⟩ := hw
  refine th_putL (ci := 9) (C := RX8) (T := TX8) (N := 10) (v := .int r1) (ty := .int) hx hb hts hinX8 tyX8 tyX8_ok nmX8 hown hK hP (WL_D hD) hS hI 4 (mF 4 rfl) rfl rfl 2 (Nat.le_of_ble_eq_true rfl) (hts _ (vA_in _ _ (in_20 _ (zs4 (zs4 (zs4 (zs0))))))) (fun _ h9 => h9) rfl (by decide +kernel) rfl rfl (okI (lo := 0) (hi := ((cf 2 : Nat) : Int)) rfl (by omega)) dX8_tally_9 (fun H locs E4 pw5 hI hP hS => ?_)
  have hKp := hKp.pw pw5 rfl
  refine lv_iconst (v := 0) hx hb dX8_tally_12 (by decide) ?_
  refine lv_istore_n (lv' := [(2, .int 0), (0, .ref (ad 4)), (1, .int a0)]) hx hb dX8_tally_13 rfl hl (by decide) rfl (fun ls hl => ?_)
  have hL14 : ∀ d : Nat, ∀ (v14_2 : Int32) (E14_ : Nat → va_E) (H : Heap) (locs : List Loc) (ls : Array Slot), 0 ≤ v14_2.toInt ∧ v14_2.toInt ≤ 16 → 16 - v14_2.toInt < (d : Int) → IXL cT (shC cf) (spC cf) (LC cf) ad E14_ → Kp w_tally E E14_ → xv (E14_ 4) 2 = .int r1 → va_P (dC, dI) vwCl (WL (LC cf) ad E14_) H → va_S A s.heap H locs → lv_has ls 6 [(2, .int v14_2), (0, .ref (ad 4)), (1, .int a0)] → W p l e (headSpec v_tally rm_tally).room s m args below meth c H locs 0 0 Q (F0 m 14 ls []) := by
    intro d
    induction d with
    | zero =>
      intro v14_2 E14_ H locs ls hv14_2 hx14_0 hI hKp hs14_4_2 hP hS hl
      exact absurd hx14_0 (by first | exact ms_zu hv14_2.2 | omega)
    | succ d ih14 =>
      intro v14_2 E14_ H locs ls hv14_2 hx14_0 hI hKp hs14_4_2 hP hS hl
      refine lv_iload_n hx hb dX8_tally_14 rfl (lv_at hl 0 rfl) ?_
      refine lv_bipush (v := 16) hx hb dX8_tally_15 (by decide) ?_
      refine lv_icmp_ge (tgt := 33) hx hb dX8_tally_17 (by decide) (fun c6 => ?_) (fun c6 => ?_)
      · --17 taken
        have t7 : (16 : Int) ≤ v14_2.toInt := ti_le c6
        have i8 : 16 ≤ v14_2.toInt ∧ v14_2.toInt ≤ 16 := iv_le_r t7 (il_ 16) hv14_2 (by decide)
        refine lv_iconst (v := 0) hx hb dX8_tally_33 (by decide) ?_
        refine lv_istore_n (lv' := [(2, .int 0), (0, .ref (ad 4)), (1, .int a0)]) hx hb dX8_tally_34 rfl hl (by decide) rfl (fun ls hl => ?_)
        have hL35 : ∀ d : Nat, ∀ (v35_2 : Int32) (E35_ : Nat → va_E) (H : Heap) (locs : List Loc) (ls : Array Slot), 0 ≤ v35_2.toInt ∧ v35_2.toInt ≤ 20 → 20 - v35_2.toInt < (d : Int) → IXL cT (shC cf) (spC cf) (LC cf) ad E35_ → Kp w_tally E E35_ → xv (E35_ 4) 2 = .int r1 → va_P (dC, dI) vwCl (WL (LC cf) ad E35_) H → va_S A s.heap H locs → lv_has ls 6 [(2, .int v35_2), (0, .ref (ad 4)), (1, .int a0)] → W p l e (headSpec v_tally rm_tally).room s m args below meth c H locs 0 0 Q (F0 m 35 ls []) := by
          intro d
          induction d with
          | zero =>
            intro v35_2 E35_ H locs ls hv35_2 hx35_0 hI hKp hs35_4_2 hP hS hl
            exact absurd hx35_0 (by first | exact ms_zu hv35_2.2 | omega)
          | succ d ih35 =>
            intro v35_2 E35_ H locs ls hv35_2 hx35_0 hI hKp hs35_4_2 hP hS hl
            refine lv_iload_n hx hb dX8_tally_35 rfl (lv_at hl 0 rfl) ?_
            refine lv_aload_n hx hb dX8_tally_36 rfl (lv_at hl 1 rfl) ?_
            refine th_getL (ci := 9) (C := RX8) (T := TX8) (N := 10) (v := .int r1) hx hb hts hinX8 hown hK hP hI 4 (mF 4 rfl) rfl rfl 2 (Nat.le_of_ble_eq_true rfl) (hts _ (vA_in _ _ (in_20 _ (zs4 (zs4 (zs4 (zs0))))))) (fun _ h9 => h9) hs35_4_2 dX8_tally_37 ?_
            refine lv_icmp_ge (tgt := 115) hx hb dX8_tally_40 (by decide) (fun c9 => ?_) (fun c9 => ?_)
            · --40 taken
              have t10 : r1.toInt ≤ v35_2.toInt := ti_le c9
              refine lv_aload_n hx hb dX8_tally_115 rfl (lv_at hl 1 rfl) ?_
              refine lv_iload_n hx hb dX8_tally_116 rfl (lv_at hl 2 rfl) ?_
              refine th_iL (va_runV (As := [.int a0]) (rest := []) ⟨hx, hb, hml, hown, hts⟩ (q_throwOutsIn l dC dI cT cf hC ad E35_ H.size a0 hI) (cwV 1 hts (gi_V (in_21 _ (zs16 (zs4 (zs4 (zs4 (zs0)))))) (in_21 _ (zs16 (zs4 (zs4 (zs4 (zs1 (zs0))))))) (in_21 _ (zs16 (zs4 (zs4 (zs4 (zs1 (zs1 (zs0)))))))) (in_18 _ (zs16 (zs16 (zs0)))) (in_21 _ (zs16 (zs4 (zs4 (zs4 (zs1 (zs1 (zs1 (zs0)))))))))) rfl rfl rfl ⟨rfl, hz_yX8_throwOutsIn_1⟩ ⟨Nat.le_of_ble_eq_true rfl, Nat.le_of_ble_eq_true rfl⟩) ⟨HWL_bl, va_recv hK hP (ci := 9) (q0 := posL 4 (LC cf)) rfl (hI.ob 4 (mF 4 rfl) rfl), (HWL_wi hP hK (WL_D hD) hS hA hEV)⟩ rfl rfl hl.1 rfl (lv_room (Nat.le_of_ble_eq_true rfl)) dX8_tally_117 ⟨Nat.le_of_ble_eq_true rfl, Nat.le_of_ble_eq_true rfl⟩) (WL_D hD) hS hA (fun r11 E12 H locs hw hP hS => ?_)
              obtain ⟨hI, kq13, hw⟩ := hw
              have hKb := hKp
              have hKp := hKp.tr kq13 (wl_sub rfl rfl)
              refine lv_istore_n (lv' := [(2, .int r11), (0, .ref (ad 4)), (1, .int a0)]) hx hb dX8_tally_120 rfl hl (by decide) rfl (fun ls hl => ?_)
              refine lv_iconst (v := 0) hx hb dX8_tally_121 (by decide) ?_
              refine lv_istore_n (lv' := [(3, .int 0), (2, .int r11), (0, .ref (ad 4)), (1, .int a0)]) hx hb dX8_tally_122 rfl hl (by decide) rfl (fun ls hl => ?_)
              have hL123 : ∀ d : Nat, ∀ (v123_3 : Int32) (E123_ : Nat → va_E) (H : Heap) (locs : List Loc) (ls : Array Slot), 0 ≤ v123_3.toInt ∧ v123_3.toInt ≤ 16 → 16 - v123_3.toInt < (d : Int) → IXL cT (shC cf) (spC cf) (LC cf) ad E123_ → Kp w_tally E E123_ → xv (E123_ 4) 2 = .int r1 → va_P (dC, dI) vwCl (WL (LC cf) ad E123_) H → va_S A s.heap H locs → lv_has ls 6 [(3, .int v123_3), (2, .int r11), (0, .ref (ad 4)), (1, .int a0)] → W p l e (headSpec v_tally rm_tally).room s m args below meth c H locs 0 0 Q (F0 m 123 ls []) := by
                intro d
                induction d with
                | zero =>
                  intro v123_3 E123_ H locs ls hv123_3 hx123_0 hI hKp hs123_4_2 hP hS hl
                  exact absurd hx123_0 (by first | exact ms_zu hv123_3.2 | omega)
                | succ d ih123 =>
                  intro v123_3 E123_ H locs ls hv123_3 hx123_0 hI hKp hs123_4_2 hP hS hl
                  refine lv_iload_n hx hb dX8_tally_123 rfl (lv_at hl 0 rfl) ?_
                  refine lv_aload_n hx hb dX8_tally_124 rfl (lv_at hl 2 rfl) ?_
                  refine th_getL (ci := 9) (C := RX8) (T := TX8) (N := 10) (v := .ref (ad 1)) hx hb hts hinX8 hown hK hP hI 4 (mF 4 rfl) rfl rfl 0 (Nat.le_of_ble_eq_true rfl) (hts _ (vA_in _ _ (in_19 _ (zs16 (zs0))))) (fun _ h9 => h9) (hI.fr 4 (mF 4 rfl) rfl (Nat.le_of_ble_eq_true rfl) 1 rfl) dX8_tally_125 ?_
                  have i14 : 0 ≤ (xi (E 1) 1).toInt ∧ (xi (E 1) 1).toInt ≤ 16 := hI0.iv 1 (mF 1 rfl) rfl (Nat.le_of_ble_eq_true rfl) rfl
                  refine th_getL (ci := 1) (C := RX0) (T := TX0) (N := 11) (v := .int (xi (E 1) 1)) hx hb hts hinX0 hown hK hP hI 1 (mF 1 rfl) rfl rfl 1 (Nat.le_of_ble_eq_true rfl) (hts _ (vA_in _ _ (in_21 _ (zs16 (zs4 (zs4 (zs1 (zs1 (zs0))))))))) (fun _ h9 => h9) (th_v0L hKp hI0 1 (mF 1 rfl) rfl (Nat.le_of_ble_eq_true rfl) rfl rfl) dX8_tally_128 ?_
                  refine lv_icmp_ge (tgt := 224) hx hb dX8_tally_131 (by decide) (fun c15 => ?_) (fun c15 => ?_)
                  · --131 taken
                    have t16 : (xi (E 1) 1).toInt ≤ v123_3.toInt := ti_le c15
                    rw [hQ]
                    exact W.vret hx hb hr (fun t ht hW => ⟨⟨E123_, rfl, ⟨hI, hKp, trivial⟩, by show va_P (dC, dI) vwCl (WL (LC cf) ad E123_) t.heap; rw [ht]; exact hP⟩, hS.F ht⟩) hS.2.2 dX8_tally_224
                  · --131 not
                    have t17 : v123_3.toInt < (xi (E 1) 1).toInt := ti_nle c15
                    have i18 : 0 ≤ v123_3.toInt ∧ v123_3.toInt ≤ 15 := iv_lt_l t17 hv123_3 i14 (by decide)
                    have i19 : 1 ≤ (xi (E 1) 1).toInt ∧ (xi (E 1) 1).toInt ≤ 16 := iv_lt_r t17 hv123_3 i14 (by decide)
                    refine lv_iconst (v := 0) hx hb dX8_tally_134 (by decide) ?_
                    refine lv_istore (lv' := [(4, .int 0), (3, .int v123_3), (2, .int r11), (0, .ref (ad 4)), (1, .int a0)]) hx hb dX8_tally_135 hl (by decide) rfl (fun ls hl => ?_)
                    have hL137 : ∀ d : Nat, ∀ (v137_4 : Int32) (E137_ : Nat → va_E) (H : Heap) (locs : List Loc) (ls : Array Slot), 0 ≤ v137_4.toInt ∧ v137_4.toInt ≤ 20 → 20 - v137_4.toInt < (d : Int) → IXL cT (shC cf) (spC cf) (LC cf) ad E137_ → Kp w_tally E E137_ → xv (E137_ 4) 2 = .int r1 → va_P (dC, dI) vwCl (WL (LC cf) ad E137_) H → va_S A s.heap H locs → lv_has ls 6 [(4, .int v137_4), (3, .int v123_3), (2, .int r11), (0, .ref (ad 4)), (1, .int a0)] → W p l e (headSpec v_tally rm_tally).room s m args below meth c H locs 0 0 Q (F0 m 137 ls []) := by
                      intro d
                      induction d with
                      | zero =>
                        intro v137_4 E137_ H locs ls hv137_4 hx137_0 hI hKp hs137_4_2 hP hS hl
                        exact absurd hx137_0 (by first | exact ms_zu hv137_4.2 | omega)
                      | succ d ih137 =>
                        intro v137_4 E137_ H locs ls hv137_4 hx137_0 hI hKp hs137_4_2 hP hS hl
                        refine lv_iload hx hb dX8_tally_137 (lv_at hl 0 rfl) ?_
                        refine lv_aload_n hx hb dX8_tally_139 rfl (lv_at hl 3 rfl) ?_
                        refine th_getL (ci := 9) (C := RX8) (T := TX8) (N := 10) (v := .int r1) hx hb hts hinX8 hown hK hP hI 4 (mF 4 rfl) rfl rfl 2 (Nat.le_of_ble_eq_true rfl) (hts _ (vA_in _ _ (in_20 _ (zs4 (zs4 (zs4 (zs0))))))) (fun _ h9 => h9) hs137_4_2 dX8_tally_140 ?_
                        refine lv_icmp_ge (tgt := 212) hx hb dX8_tally_143 (by decide) (fun c20 => ?_) (fun c20 => ?_)
                        · --143 taken
                          have t21 : r1.toInt ≤ v137_4.toInt := ti_le c20
                          refine lv_aload_n hx hb dX8_tally_212 rfl (lv_at hl 3 rfl) ?_
                          refine lv_iload_n hx hb dX8_tally_213 rfl (lv_at hl 1 rfl) ?_
                          refine lv_iload_n hx hb dX8_tally_214 rfl (lv_at hl 2 rfl) ?_
                          refine th_vL (va_runV (As := [.int v123_3, .int r11]) (rest := []) ⟨hx, hb, hml, hown, hts⟩ (q_throwOut l dC dI cT cf hC ad E137_ H.size v123_3 r11 hI i18) (cwV 2 hts (gi_V (in_21 _ (zs16 (zs16 (zs4 (zs1 (zs0)))))) (in_21 _ (zs16 (zs16 (zs4 (zs1 (zs1 (zs0))))))) (in_21 _ (zs16 (zs16 (zs4 (zs1 (zs1 (zs1 (zs0)))))))) (in_18 _ (zs16 (zs16 (zs0)))) (in_22 _ zs0)) rfl rfl rfl ⟨rfl, hz_yX8_throwOut_2⟩ ⟨Nat.le_of_ble_eq_true rfl, Nat.le_of_ble_eq_true rfl⟩) ⟨HWL_bl, va_recv hK hP (ci := 9) (q0 := posL 4 (LC cf)) rfl (hI.ob 4 (mF 4 rfl) rfl), (HWL_wi hP hK (WL_D hD) hS hA hEV)⟩ rfl rfl hl.1 rfl (lv_room (Nat.le_of_ble_eq_true rfl)) dX8_tally_215 ⟨Nat.le_of_ble_eq_true rfl, Nat.le_of_ble_eq_true rfl⟩) (WL_D hD) hS hA (fun E23 H locs hw hP hS => ?_)
                          obtain ⟨hI, kq24, hw⟩ := hw
                          have hKb := hKp
                          have hKp := hKp.tr kq24 (wl_sub rfl rfl)
                          obtain ⟨y25, ey25⟩ : ∃ y : Int32, y = v123_3 + (1 : Int32) := ⟨_, rfl⟩
                          obtain ⟨ty25, iy25⟩ := ti_add (e := 1) (f := 16) i18 ln_1 ey25 (by decide)
                          have ty25 : y25.toInt = v123_3.toInt + 1 := ty25
                          have iy25 : 1 ≤ y25.toInt ∧ y25.toInt ≤ 16 := iy25
                          refine lv_iinc (v := y25) (lv' := [(3, .int y25), (4, .int v137_4), (2, .int r11), (0, .ref (ad 4)), (1, .int a0)]) hx hb dX8_tally_218 hl (k := 1) rfl (by rw [ey25]; rfl) (by decide) rfl (fun ls hl => ?_)
                          refine lv_goto (tgt := 123) hx hb dX8_tally_221 (by decide) ?_
                          exact ih123 y25 E23 _ _ _ (iv_w iy25 (by decide)) (by first | exact ms_su hx123_0 ty25 (by decide) | omega) hI hKp ((kq24 4 2 rfl).trans hs137_4_2) hP hS (lv_sub hl [0, 2, 3, 4] rfl)
                        · --143 not
                          have t26 : v137_4.toInt < r1.toInt := ti_nle c20
                          have i27 : 0 ≤ v137_4.toInt ∧ v137_4.toInt ≤ 19 := iv_lt_l t26 hv137_4 f2 (by decide)
                          have i28 : 1 ≤ r1.toInt ∧ r1.toInt ≤ 20 := iv_lt_r t26 hv137_4 f2 (by decide)
                          refine lv_aload_n hx hb dX8_tally_146 rfl (lv_at hl 3 rfl) ?_
                          refine th_getL (ci := 9) (C := RX8) (T := TX8) (N := 10) (v := .ref (ad 1)) hx hb hts hinX8 hown hK hP hI 4 (mF 4 rfl) rfl rfl 0 (Nat.le_of_ble_eq_true rfl) (hts _ (vA_in _ _ (in_19 _ (zs16 (zs0))))) (fun _ h9 => h9) (hI.fr 4 (mF 4 rfl) rfl (Nat.le_of_ble_eq_true rfl) 1 rfl) dX8_tally_147 ?_
                          refine th_getL (ci := 1) (C := RX0) (T := TX0) (N := 11) (v := .ref (ad 9)) hx hb hts hinX0 hown hK hP hI 1 (mF 1 rfl) rfl rfl 5 (Nat.le_of_ble_eq_true rfl) (hts _ (vA_in _ _ (in_20 _ (zs4 (zs4 (zs1 (zs1 (zs0)))))))) (fun _ h9 => h9) (hI.fr 1 (mF 1 rfl) rfl (Nat.le_of_ble_eq_true rfl) 9 rfl) dX8_tally_150 ?_
                          refine lv_iload hx hb dX8_tally_153 (lv_at hl 0 rfl) ?_
                          refine th_rrL (va_runV (As := [.int v137_4]) (rest := []) ⟨hx, hb, hml, hown, hts⟩ (q_get2 l dC dI cT cf hC ad E137_ H.size v137_4 hI (by omega)) (cwV 1 hts (gi_V (in_20 _ (zs4 (zs4 (zs4 (zs1 (zs0)))))) (in_4 _ (zs16 (zs16 (zs4 (zs1 (zs1 (zs0))))))) (in_4 _ (zs16 (zs16 (zs4 (zs1 (zs1 (zs1 (zs0)))))))) (in_3 _ (zs16 (zs1 (zs1 (zs0))))) (in_3 _ (zs16 (zs16 (zs4 (zs1 (zs1 (zs1 (zs0))))))))) rfl rfl rfl ⟨rfl, hz_yJx4a65c_get_915e3_1⟩ ⟨Nat.le_of_ble_eq_true rfl, Nat.le_of_ble_eq_true rfl⟩) ⟨HWL_bl, va_recv hK hP (ci := 0) (q0 := posL 9 (LC cf)) rfl (hI.ob 9 (mF 9 rfl) rfl), (HWL_wi hP hK (WL_D hD) hS hA hEV)⟩ rfl rfl hl.1 rfl (lv_room (Nat.le_of_ble_eq_true rfl)) dX8_tally_155 ⟨Nat.le_of_ble_eq_true rfl, Nat.le_of_ble_eq_true rfl⟩) hS hP (fun r29 H locs hw hP hS => ?_)
                          obtain rfl := hw
                          have lv30 : v137_4.toNatClampNeg < cf 2 := by rw [tn_]; omega
                          refine va_castS (cC := dC 6) hx hb hown (hts _ (vA_in _ _ (in_20 _ (zs4 (zs4 (zs1 (zs1 (zs1 (zs0))))))))) (hK.1 6 _ rfl).2 (va_recv hK hP (ci := 6) (q0 := posL (64 * (v137_4.toNatClampNeg + 1) + 6) (LC cf)) rfl (hI.ob (64 * (v137_4.toNatClampNeg + 1) + 6) (mP 6 v137_4.toNatClampNeg (by decide) lv30 (kl_le hC 2 (by decide))) (shC_p 6 v137_4.toNatClampNeg (by decide)))) dX8_tally_158 ?_
                          refine lv_iload_n hx hb dX8_tally_161 rfl (lv_at hl 1 rfl) ?_
                          refine lv_iload_n hx hb dX8_tally_162 rfl (lv_at hl 4 rfl) ?_
                          refine th_riL (va_runV (As := [.int v123_3, .int a0]) (rest := []) ⟨hx, hb, hml, hown, hts⟩ (q_isRedressedIn l dC dI cT cf hC ad E137_ H.size v123_3 a0 v137_4.toNatClampNeg hI (by omega) i18) (cwV 2 hts (gi_V (in_20 _ (zs4 (zs4 (zs4 (zs1 (zs1 (zs0))))))) (in_20 _ (zs4 (zs4 (zs4 (zs1 (zs1 (zs1 (zs0)))))))) (in_20 _ (zs16 (zs0))) (in_6 _ (zs16 (zs1 (zs0)))) (in_20 _ (zs16 (zs1 (zs0))))) rfl rfl rfl ⟨rfl, hz_yX5_isRedressedIn_2⟩ ⟨Nat.le_of_ble_eq_true rfl, Nat.le_of_ble_eq_true rfl⟩) ⟨HWL_bl, va_recv hK hP (ci := 6) (q0 := posL (64 * (v137_4.toNatClampNeg + 1) + 6) (LC cf)) rfl (hI.ob (64 * (v137_4.toNatClampNeg + 1) + 6) (mP 6 v137_4.toNatClampNeg (by decide) lv30 (kl_le hC 2 (by decide))) (shC_p 6 v137_4.toNatClampNeg (by decide))), (HWL_wi hP hK (WL_D hD) hS hA hEV)⟩ rfl rfl hl.1 rfl (lv_room (Nat.le_of_ble_eq_true rfl)) dX8_tally_163 ⟨Nat.le_of_ble_eq_true rfl, Nat.le_of_ble_eq_true rfl⟩) hS hP (fun r31 H locs hw hP hS => ?_)
                          rcases hw with hw | hw
                          · -- isRedressedIn, case 0
                            obtain ⟨rfl, f32⟩ := hw
                            refine lv_istore (lv' := [(5, .int 1), (4, .int v137_4), (3, .int v123_3), (2, .int r11), (0, .ref (ad 4)), (1, .int a0)]) hx hb dX8_tally_166 hl (by decide) rfl (fun ls hl => ?_)
                            refine lv_aload_n hx hb dX8_tally_168 rfl (lv_at hl 4 rfl) ?_
                            refine th_getL (ci := 9) (C := RX8) (T := TX8) (N := 10) (v := .ref (ad 32)) hx hb hts hinX8 hown hK hP hI 4 (mF 4 rfl) rfl rfl 4 (Nat.le_of_ble_eq_true rfl) (hts _ (vA_in _ _ (in_19 _ (zs4 (zs4 (zs1 (zs0))))))) (fun _ h9 => h9) (hI.fr 4 (mF 4 rfl) rfl (Nat.le_of_ble_eq_true rfl) 32 rfl) dX8_tally_169 ?_
                            refine lv_iload hx hb dX8_tally_172 (lv_at hl 1 rfl) ?_
                            refine lv_iload_n hx hb dX8_tally_174 rfl (lv_at hl 2 rfl) ?_
                            refine th_pi (va_runSN (As := [.int v137_4, .int v123_3]) (rest := [.ref (ad 32)]) ⟨hx, hb, hml, hown, hts⟩ (q_ccell l v137_4 v123_3 i27 i18) ⟨va_cnB 2 hts (gi_0 (in_10 _ (zs16 (zs4 (zs0))))) rfl rfl rfl (hEV.1.1 _ (List.mem_of_getElem? (i := 10) rfl)) (hts _ (vA_in _ _ (in_4 _ (zs16 (zs4 (zs1 (zs1 (zs1 (zs0))))))))) hz_yX12_cell_2 ⟨Nat.le_of_ble_eq_true rfl, Nat.le_of_ble_eq_true rfl⟩, (hts _ (vA_in _ _ (in_13 _ (zs1 (zs0))))), trivial⟩ ⟨fun _ _ _ _ q => q, fun _ _ _ => ⟨rfl, trivial⟩⟩ rfl rfl hl.1 rfl (lv_room (Nat.le_of_ble_eq_true rfl)) dX8_tally_175 ⟨Nat.le_of_ble_eq_true rfl, Nat.le_of_ble_eq_true rfl⟩) hS (fun r33 H1 locs1 hw hk1 hS => ?_)
                            have hP := ub_keep hP hk1
                            generalize H1 = H at hP hS ⊢
                            generalize locs1 = locs at hS ⊢
                            obtain ⟨f34, f35⟩ := hw
                            refine lv_iload hx hb dX8_tally_178 (lv_at hl 0 rfl) ?_
                            refine lv_if_eq (tgt := 194) hx hb dX8_tally_180 (by decide) (fun c36 => ?_) (fun c36 => ?_)
                            · --180 taken
                              exact absurd c36 (by decide)
                            · --180 not
                              refine lv_aload_n hx hb dX8_tally_183 rfl (lv_at hl 4 rfl) ?_
                              refine lv_iload hx hb dX8_tally_184 (lv_at hl 1 rfl) ?_
                              refine lv_iload_n hx hb dX8_tally_186 rfl (lv_at hl 2 rfl) ?_
                              refine lv_iload_n hx hb dX8_tally_187 rfl (lv_at hl 5 rfl) ?_
                              refine th_riL (va_runV (As := [.int v137_4, .int v123_3, .int a0]) (rest := [.int r33, .ref (ad 32)]) ⟨hx, hb, hml, hown, hts⟩ (q_meanBeside l dC dI cT cf hC ad E137_ H.size v137_4 v123_3 a0 hI i18) (cwV 3 hts (gi_V (in_20 _ (zs16 (zs4 (zs4 (zs4 (zs1 (zs1 (zs0)))))))) (in_20 _ (zs16 (zs4 (zs4 (zs4 (zs1 (zs1 (zs1 (zs0))))))))) (in_20 _ (zs16 (zs16 (zs0)))) (in_18 _ (zs16 (zs16 (zs0)))) (in_20 _ (zs16 (zs16 (zs1 (zs0)))))) rfl rfl rfl ⟨rfl, hz_yX8_meanBeside_3⟩ ⟨Nat.le_of_ble_eq_true rfl, Nat.le_of_ble_eq_true rfl⟩) ⟨HWL_bl, va_recv hK hP (ci := 9) (q0 := posL 4 (LC cf)) rfl (hI.ob 4 (mF 4 rfl) rfl), (HWL_wi hP hK (WL_D hD) hS hA hEV)⟩ rfl rfl hl.1 rfl (lv_room (Nat.le_of_ble_eq_true rfl)) dX8_tally_188 ⟨Nat.le_of_ble_eq_true rfl, Nat.le_of_ble_eq_true rfl⟩) hS hP (fun r37 H locs hw hP hS => ?_)
                              refine lv_goto (tgt := 205) hx hb dX8_tally_191 (by decide) ?_
                              have n38 : vp_in r33 320 := (iv_in (n := 320) f34 (by decide))
                              refine th_iastL hx hb hK hP (WL_D hD) hS hI 32 (mF 32 rfl) rfl rfl n38 (okI rfl (iv_all _)) dX8_tally_205 (fun H locs E39 pw40 hI hP hS => ?_)
                              have hKp := hKp.pw pw40 rfl
                              obtain ⟨y41, ey41⟩ : ∃ y : Int32, y = v137_4 + (1 : Int32) := ⟨_, rfl⟩
                              obtain ⟨ty41, iy41⟩ := ti_add (e := 1) (f := 20) i27 ln_1 ey41 (by decide)
                              have ty41 : y41.toInt = v137_4.toInt + 1 := ty41
                              have iy41 : 1 ≤ y41.toInt ∧ y41.toInt ≤ 20 := iy41
                              refine lv_iinc (v := y41) (lv' := [(4, .int y41), (5, .int 1), (3, .int v123_3), (2, .int r11), (0, .ref (ad 4)), (1, .int a0)]) hx hb dX8_tally_206 hl (k := 1) rfl (by rw [ey41]; rfl) (by decide) rfl (fun ls hl => ?_)
                              refine lv_goto (tgt := 137) hx hb dX8_tally_209 (by decide) ?_
                              exact ih137 y41 E39 _ _ _ (iv_w iy41 (by decide)) (by first | exact ms_su hx137_0 ty41 (by decide) | omega) hI hKp ((pw40.2 4 2 (fun q9 => absurd q9.1 (Nat.ne_of_beq_eq_false rfl))).trans hs137_4_2) hP hS (lv_sub hl [0, 2, 3, 4, 5] rfl)
                          · -- isRedressedIn, case 1
                            obtain ⟨rfl, f42⟩ := hw
                            refine lv_istore (lv' := [(5, .int 0), (4, .int v137_4), (3, .int v123_3), (2, .int r11), (0, .ref (ad 4)), (1, .int a0)]) hx hb dX8_tally_166 hl (by decide) rfl (fun ls hl => ?_)
                            refine lv_aload_n hx hb dX8_tally_168 rfl (lv_at hl 4 rfl) ?_
                            refine th_getL (ci := 9) (C := RX8) (T := TX8) (N := 10) (v := .ref (ad 32)) hx hb hts hinX8 hown hK hP hI 4 (mF 4 rfl) rfl rfl 4 (Nat.le_of_ble_eq_true rfl) (hts _ (vA_in _ _ (in_19 _ (zs4 (zs4 (zs1 (zs0))))))) (fun _ h9 => h9) (hI.fr 4 (mF 4 rfl) rfl (Nat.le_of_ble_eq_true rfl) 32 rfl) dX8_tally_169 ?_
                            refine lv_iload hx hb dX8_tally_172 (lv_at hl 1 rfl) ?_
                            refine lv_iload_n hx hb dX8_tally_174 rfl (lv_at hl 2 rfl) ?_
                            refine th_pi (va_runSN (As := [.int v137_4, .int v123_3]) (rest := [.ref (ad 32)]) ⟨hx, hb, hml, hown, hts⟩ (q_ccell l v137_4 v123_3 i27 i18) ⟨va_cnB 2 hts (gi_0 (in_10 _ (zs16 (zs4 (zs0))))) rfl rfl rfl (hEV.1.1 _ (List.mem_of_getElem? (i := 10) rfl)) (hts _ (vA_in _ _ (in_4 _ (zs16 (zs4 (zs1 (zs1 (zs1 (zs0))))))))) hz_yX12_cell_2 ⟨Nat.le_of_ble_eq_true rfl, Nat.le_of_ble_eq_true rfl⟩, (hts _ (vA_in _ _ (in_13 _ (zs1 (zs0))))), trivial⟩ ⟨fun _ _ _ _ q => q, fun _ _ _ => ⟨rfl, trivial⟩⟩ rfl rfl hl.1 rfl (lv_room (Nat.le_of_ble_eq_true rfl)) dX8_tally_175 ⟨Nat.le_of_ble_eq_true rfl, Nat.le_of_ble_eq_true rfl⟩) hS (fun r43 H1 locs1 hw hk1 hS => ?_)
                            have hP := ub_keep hP hk1
                            generalize H1 = H at hP hS ⊢
                            generalize locs1 = locs at hS ⊢
                            obtain ⟨f44, f45⟩ := hw
                            refine lv_iload hx hb dX8_tally_178 (lv_at hl 0 rfl) ?_
                            refine lv_if_eq (tgt := 194) hx hb dX8_tally_180 (by decide) (fun c46 => ?_) (fun c46 => ?_)
                            · --180 taken
                              refine lv_aload_n hx hb dX8_tally_194 rfl (lv_at hl 4 rfl) ?_
                              refine th_getL (ci := 9) (C := RX8) (T := TX8) (N := 10) (v := .ref (ad 31)) hx hb hts hinX8 hown hK hP hI 4 (mF 4 rfl) rfl rfl 3 (Nat.le_of_ble_eq_true rfl) (hts _ (vA_in _ _ (in_19 _ (zs4 (zs4 (zs0)))))) (fun _ h9 => h9) (hI.fr 4 (mF 4 rfl) rfl (Nat.le_of_ble_eq_true rfl) 31 rfl) dX8_tally_195 ?_
                              refine lv_iload hx hb dX8_tally_198 (lv_at hl 1 rfl) ?_
                              refine lv_iload_n hx hb dX8_tally_200 rfl (lv_at hl 2 rfl) ?_
                              refine th_pi (va_runSN (As := [.int v137_4, .int v123_3]) (rest := [.ref (ad 31), .int r43, .ref (ad 32)]) ⟨hx, hb, hml, hown, hts⟩ (q_ccell l v137_4 v123_3 i27 i18) ⟨va_cnB 2 hts (gi_0 (in_10 _ (zs16 (zs4 (zs0))))) rfl rfl rfl (hEV.1.1 _ (List.mem_of_getElem? (i := 10) rfl)) (hts _ (vA_in _ _ (in_4 _ (zs16 (zs4 (zs1 (zs1 (zs1 (zs0))))))))) hz_yX12_cell_2 ⟨Nat.le_of_ble_eq_true rfl, Nat.le_of_ble_eq_true rfl⟩, (hts _ (vA_in _ _ (in_13 _ (zs1 (zs0))))), trivial⟩ ⟨fun _ _ _ _ q => q, fun _ _ _ => ⟨rfl, trivial⟩⟩ rfl rfl hl.1 rfl (lv_room (Nat.le_of_ble_eq_true rfl)) dX8_tally_201 ⟨Nat.le_of_ble_eq_true rfl, Nat.le_of_ble_eq_true rfl⟩) hS (fun r47 H1 locs1 hw hk1 hS => ?_)
                              have hP := ub_keep hP hk1
                              generalize H1 = H at hP hS ⊢
                              generalize locs1 = locs at hS ⊢
                              obtain ⟨f48, f49⟩ := hw
                              have n51 : vp_in r47 320 := (iv_in (n := 320) f48 (by decide))
                              refine th_ialdL hx hb hK hP hI 31 (mF 31 rfl) rfl rfl n51 dX8_tally_204 (fun y50 ey50 => ?_)
                              have iy50 : 0 ≤ y50.toInt ∧ y50.toInt ≤ 10000 := hI.el 31 (mF 31 rfl) rfl n51 (fun _ => rfl) ey50
                              have n52 : vp_in r43 320 := (iv_in (n := 320) f44 (by decide))
                              refine th_iastL hx hb hK hP (WL_D hD) hS hI 32 (mF 32 rfl) rfl rfl n52 (okI rfl (iv_w iy50 (by decide))) dX8_tally_205 (fun H locs E53 pw54 hI hP hS => ?_)
                              have hKp := hKp.pw pw54 rfl
                              obtain ⟨y55, ey55⟩ : ∃ y : Int32, y = v137_4 + (1 : Int32) := ⟨_, rfl⟩
                              obtain ⟨ty55, iy55⟩ := ti_add (e := 1) (f := 20) i27 ln_1 ey55 (by decide)
                              have ty55 : y55.toInt = v137_4.toInt + 1 := ty55
                              have iy55 : 1 ≤ y55.toInt ∧ y55.toInt ≤ 20 := iy55
                              refine lv_iinc (v := y55) (lv' := [(4, .int y55), (5, .int 0), (3, .int v123_3), (2, .int r11), (0, .ref (ad 4)), (1, .int a0)]) hx hb dX8_tally_206 hl (k := 1) rfl (by rw [ey55]; rfl) (by decide) rfl (fun ls hl => ?_)
                              refine lv_goto (tgt := 137) hx hb dX8_tally_209 (by decide) ?_
                              exact ih137 y55 E53 _ _ _ (iv_w iy55 (by decide)) (by first | exact ms_su hx137_0 ty55 (by decide) | omega) hI hKp ((pw54.2 4 2 (fun q9 => absurd q9.1 (Nat.ne_of_beq_eq_false rfl))).trans hs137_4_2) hP hS (lv_sub hl [0, 2, 3, 4, 5] rfl)
                            · --180 not
                              exact absurd c46 (by decide)
                    exact hL137 (21) (0 : Int32) E123_ _ _ _ (iv_w ln_0 (by decide)) (by have h9 := ln_0; first | exact ms_bu h9.1 (by decide) | omega) hI hKp hs123_4_2 hP hS (lv_sub hl [0, 1, 2, 3, 4] rfl)
              exact hL123 (17) (0 : Int32) E12 _ _ _ (iv_w ln_0 (by decide)) (by have h9 := ln_0; first | exact ms_bu h9.1 (by decide) | omega) hI hKp ((kq13 4 2 rfl).trans hs35_4_2) hP hS (lv_sub hl [0, 1, 2, 3] rfl)
            · --40 not
              have t56 : v35_2.toInt < r1.toInt := ti_nle c9
              have i57 : 0 ≤ v35_2.toInt ∧ v35_2.toInt ≤ 19 := iv_lt_l t56 hv35_2 f2 (by decide)
              have i58 : 1 ≤ r1.toInt ∧ r1.toInt ≤ 20 := iv_lt_r t56 hv35_2 f2 (by decide)
              refine lv_aload_n hx hb dX8_tally_43 rfl (lv_at hl 1 rfl) ?_
              refine th_getL (ci := 9) (C := RX8) (T := TX8) (N := 10) (v := .ref (ad 3)) hx hb hts hinX8 hown hK hP hI 4 (mF 4 rfl) rfl rfl 1 (Nat.le_of_ble_eq_true rfl) (hts _ (vA_in _ _ (in_19 _ (zs16 (zs1 (zs0)))))) (fun _ h9 => h9) (hI.fr 4 (mF 4 rfl) rfl (Nat.le_of_ble_eq_true rfl) 3 rfl) dX8_tally_44 ?_
              refine lv_iload_n hx hb dX8_tally_47 rfl (lv_at hl 0 rfl) ?_
              refine lv_iload_n hx hb dX8_tally_48 rfl (lv_at hl 2 rfl) ?_
              refine th_vL (va_runV (As := [.int v35_2, .int a0]) (rest := []) ⟨hx, hb, hml, hown, hts⟩ (q_readC l dC dI cT cf hC ad E35_ H.size v35_2 a0 hI i57 (by omega)) (cwV 2 hts (gi_V (in_20 _ (zs16 (zs1 (zs1 (zs1 (zs0)))))) (in_11 _ (zs16 (zs16 (zs1 (zs1 (zs1 (zs0))))))) (in_11 _ (zs16 (zs16 (zs4 (zs0))))) (in_11 _ (zs16 (zs16 (zs4 (zs1 (zs0)))))) (in_11 _ (zs16 (zs16 (zs4 (zs1 (zs1 (zs0)))))))) rfl rfl rfl ⟨rfl, hz_yX9_read_2⟩ ⟨Nat.le_of_ble_eq_true rfl, Nat.le_of_ble_eq_true rfl⟩) ⟨HWL_bl, va_recv hK hP (ci := 10) (q0 := posL 3 (LC cf)) rfl (hI.ob 3 (mF 3 rfl) rfl), (HWL_wi hP hK (WL_D hD) hS hA hEV)⟩ rfl rfl hl.1 rfl (lv_room (Nat.le_of_ble_eq_true rfl)) dX8_tally_49 ⟨Nat.le_of_ble_eq_true rfl, Nat.le_of_ble_eq_true rfl⟩) (WL_D hD) hS hA (fun E60 H locs hw hP hS => ?_)
              obtain ⟨hI, kq61, hw⟩ := hw
              have hKb := hKp
              have hKp := hKp.tr kq61 (wl_sub rfl rfl)
              obtain ⟨y62, ey62⟩ : ∃ y, xi (E60 3) 6 = y := ⟨_, rfl⟩
              have fy62 : xv (E60 3) 6 = .int y62 := (hI.fi 3 (mF 3 rfl) rfl (Nat.le_of_ble_eq_true rfl) rfl).trans (congrArg Value.int ey62)
              have i63 : -1 ≤ y62.toInt ∧ y62.toInt ≤ 15 := by rw [← ey62]; exact hI.iv 3 (mF 3 rfl) rfl (Nat.le_of_ble_eq_true rfl) rfl
              have f64 := hw
              try rw [(show xi (E60 3) 6 = y62 from vi_e fy62)] at f64
              refine lv_iconst (v := 0) hx hb dX8_tally_52 (by decide) ?_
              refine lv_istore_n (lv' := [(3, .int 0), (2, .int v35_2), (0, .ref (ad 4)), (1, .int a0)]) hx hb dX8_tally_53 rfl hl (by decide) rfl (fun ls hl => ?_)
              have hL54 : ∀ d : Nat, ∀ (w54_3_6 : Int32) (v54_3 : Int32) (E54_ : Nat → va_E) (H : Heap) (locs : List Loc) (ls : Array Slot), -1 ≤ w54_3_6.toInt ∧ w54_3_6.toInt ≤ 15 → 0 ≤ v54_3.toInt ∧ v54_3.toInt ≤ 16 → w54_3_6.toInt < ((cf 1 : Nat) : Int) → 16 - v54_3.toInt < (d : Int) → IXL cT (shC cf) (spC cf) (LC cf) ad E54_ → Kp w_tally E E54_ → xv (E54_ 3) 6 = .int w54_3_6 → xv (E54_ 4) 2 = .int r1 → va_P (dC, dI) vwCl (WL (LC cf) ad E54_) H → va_S A s.heap H locs → lv_has ls 6 [(3, .int v54_3), (2, .int v35_2), (0, .ref (ad 4)), (1, .int a0)] → W p l e (headSpec v_tally rm_tally).room s m args below meth c H locs 0 0 Q (F0 m 54 ls []) := by
                intro d
                induction d with
                | zero =>
                  intro w54_3_6 v54_3 E54_ H locs ls hw54_3_6 hv54_3 hx54_0 hx54_1 hI hKp hs54_3_6 hs54_4_2 hP hS hl
                  exact absurd hx54_1 (by first | exact ms_zu hv54_3.2 | omega)
                | succ d ih54 =>
                  intro w54_3_6 v54_3 E54_ H locs ls hw54_3_6 hv54_3 hx54_0 hx54_1 hI hKp hs54_3_6 hs54_4_2 hP hS hl
                  refine lv_iload_n hx hb dX8_tally_54 rfl (lv_at hl 0 rfl) ?_
                  refine lv_aload_n hx hb dX8_tally_55 rfl (lv_at hl 2 rfl) ?_
                  refine th_getL (ci := 9) (C := RX8) (T := TX8) (N := 10) (v := .ref (ad 1)) hx hb hts hinX8 hown hK hP hI 4 (mF 4 rfl) rfl rfl 0 (Nat.le_of_ble_eq_true rfl) (hts _ (vA_in _ _ (in_19 _ (zs16 (zs0))))) (fun _ h9 => h9) (hI.fr 4 (mF 4 rfl) rfl (Nat.le_of_ble_eq_true rfl) 1 rfl) dX8_tally_56 ?_
                  have i65 : 0 ≤ (xi (E 1) 1).toInt ∧ (xi (E 1) 1).toInt ≤ 16 := hI0.iv 1 (mF 1 rfl) rfl (Nat.le_of_ble_eq_true rfl) rfl
                  refine th_getL (ci := 1) (C := RX0) (T := TX0) (N := 11) (v := .int (xi (E 1) 1)) hx hb hts hinX0 hown hK hP hI 1 (mF 1 rfl) rfl rfl 1 (Nat.le_of_ble_eq_true rfl) (hts _ (vA_in _ _ (in_21 _ (zs16 (zs4 (zs4 (zs1 (zs1 (zs0))))))))) (fun _ h9 => h9) (th_v0L hKp hI0 1 (mF 1 rfl) rfl (Nat.le_of_ble_eq_true rfl) rfl rfl) dX8_tally_59 ?_
                  refine lv_icmp_ge (tgt := 109) hx hb dX8_tally_62 (by decide) (fun c66 => ?_) (fun c66 => ?_)
                  · --62 taken
                    have t67 : (xi (E 1) 1).toInt ≤ v54_3.toInt := ti_le c66
                    obtain ⟨y68, ey68⟩ : ∃ y : Int32, y = v35_2 + (1 : Int32) := ⟨_, rfl⟩
                    obtain ⟨ty68, iy68⟩ := ti_add (e := 1) (f := 20) i57 ln_1 ey68 (by decide)
                    have ty68 : y68.toInt = v35_2.toInt + 1 := ty68
                    have iy68 : 1 ≤ y68.toInt ∧ y68.toInt ≤ 20 := iy68
                    refine lv_iinc (v := y68) (lv' := [(2, .int y68), (3, .int v54_3), (0, .ref (ad 4)), (1, .int a0)]) hx hb dX8_tally_109 hl (k := 1) rfl (by rw [ey68]; rfl) (by decide) rfl (fun ls hl => ?_)
                    refine lv_goto (tgt := 35) hx hb dX8_tally_112 (by decide) ?_
                    exact ih35 y68 E54_ _ _ _ (iv_w iy68 (by decide)) (by first | exact ms_su hx35_0 ty68 (by decide) | omega) hI hKp hs54_4_2 hP hS (lv_sub hl [0, 2, 3] rfl)
                  · --62 not
                    have t69 : v54_3.toInt < (xi (E 1) 1).toInt := ti_nle c66
                    have i70 : 0 ≤ v54_3.toInt ∧ v54_3.toInt ≤ 15 := iv_lt_l t69 hv54_3 i65 (by decide)
                    have i71 : 1 ≤ (xi (E 1) 1).toInt ∧ (xi (E 1) 1).toInt ≤ 16 := iv_lt_r t69 hv54_3 i65 (by decide)
                    refine lv_aload_n hx hb dX8_tally_65 rfl (lv_at hl 2 rfl) ?_
                    refine th_getL (ci := 9) (C := RX8) (T := TX8) (N := 10) (v := .ref (ad 3)) hx hb hts hinX8 hown hK hP hI 4 (mF 4 rfl) rfl rfl 1 (Nat.le_of_ble_eq_true rfl) (hts _ (vA_in _ _ (in_19 _ (zs16 (zs1 (zs0)))))) (fun _ h9 => h9) (hI.fr 4 (mF 4 rfl) rfl (Nat.le_of_ble_eq_true rfl) 3 rfl) dX8_tally_66 ?_
                    refine th_getL (ci := 10) (C := RX9) (T := TX9) (N := 9) (v := .ref (ad 26)) hx hb hts hinX9 hown hK hP hI 3 (mF 3 rfl) rfl rfl 1 (Nat.le_of_ble_eq_true rfl) (hts _ (vA_in _ _ (in_21 _ (zs16 (zs4 (zs4 (zs1 (zs1 (zs1 (zs0)))))))))) (fun _ h9 => h9) (hI.fr 3 (mF 3 rfl) rfl (Nat.le_of_ble_eq_true rfl) 26 rfl) dX8_tally_69 ?_
                    refine lv_iload_n hx hb dX8_tally_72 rfl (lv_at hl 0 rfl) ?_
                    have n73 : vp_in v54_3 16 := (iv_in (n := 16) i70 (by decide))
                    refine th_ialdL hx hb hK hP hI 26 (mF 26 rfl) rfl rfl n73 dX8_tally_73 (fun y72 ey72 => ?_)
                    have iy72 : -1 ≤ y72.toInt ∧ y72.toInt ≤ 5 := hI.el 26 (mF 26 rfl) rfl n73 (fun _ => rfl) ey72
                    refine lv_iconst (v := -1) hx hb dX8_tally_74 (by decide) ?_
                    have hJ85 : ∀ (E85_ : Nat → va_E) (H : Heap) (locs : List Loc) (ls : Array Slot), IXL cT (shC cf) (spC cf) (LC cf) ad E85_ → Kp w_tally E E85_ → xv (E85_ 3) 6 = .int w54_3_6 → xv (E85_ 4) 2 = .int r1 → va_P (dC, dI) vwCl (WL (LC cf) ad E85_) H → va_S A s.heap H locs → lv_has ls 6 [(3, .int v54_3), (2, .int v35_2), (0, .ref (ad 4)), (1, .int a0)] → W p l e (headSpec v_tally rm_tally).room s m args below meth c H locs 0 0 Q (F0 m 85 ls []) := by
                      intro E85_ H locs ls hI hKp hs85_3_6 hs85_4_2 hP hS hl
                      refine lv_aload_n hx hb dX8_tally_85 rfl (lv_at hl 2 rfl) ?_
                      refine th_getL (ci := 9) (C := RX8) (T := TX8) (N := 10) (v := .ref (ad 31)) hx hb hts hinX8 hown hK hP hI 4 (mF 4 rfl) rfl rfl 3 (Nat.le_of_ble_eq_true rfl) (hts _ (vA_in _ _ (in_19 _ (zs4 (zs4 (zs0)))))) (fun _ h9 => h9) (hI.fr 4 (mF 4 rfl) rfl (Nat.le_of_ble_eq_true rfl) 31 rfl) dX8_tally_86 ?_
                      refine lv_iload_n hx hb dX8_tally_89 rfl (lv_at hl 1 rfl) ?_
                      refine lv_iload_n hx hb dX8_tally_90 rfl (lv_at hl 0 rfl) ?_
                      refine th_pi (va_runSN (As := [.int v35_2, .int v54_3]) (rest := [.ref (ad 31)]) ⟨hx, hb, hml, hown, hts⟩ (q_ccell l v35_2 v54_3 i57 i70) ⟨va_cnB 2 hts (gi_0 (in_10 _ (zs16 (zs4 (zs0))))) rfl rfl rfl (hEV.1.1 _ (List.mem_of_getElem? (i := 10) rfl)) (hts _ (vA_in _ _ (in_4 _ (zs16 (zs4 (zs1 (zs1 (zs1 (zs0))))))))) hz_yX12_cell_2 ⟨Nat.le_of_ble_eq_true rfl, Nat.le_of_ble_eq_true rfl⟩, (hts _ (vA_in _ _ (in_13 _ (zs1 (zs0))))), trivial⟩ ⟨fun _ _ _ _ q => q, fun _ _ _ => ⟨rfl, trivial⟩⟩ rfl rfl hl.1 rfl (lv_room (Nat.le_of_ble_eq_true rfl)) dX8_tally_91 ⟨Nat.le_of_ble_eq_true rfl, Nat.le_of_ble_eq_true rfl⟩) hS (fun r74 H1 locs1 hw hk1 hS => ?_)
                      have hP := ub_keep hP hk1
                      generalize H1 = H at hP hS ⊢
                      generalize locs1 = locs at hS ⊢
                      obtain ⟨f75, f76⟩ := hw
                      refine lv_aload_n hx hb dX8_tally_94 rfl (lv_at hl 2 rfl) ?_
                      refine th_getL (ci := 9) (C := RX8) (T := TX8) (N := 10) (v := .ref (ad 3)) hx hb hts hinX8 hown hK hP hI 4 (mF 4 rfl) rfl rfl 1 (Nat.le_of_ble_eq_true rfl) (hts _ (vA_in _ _ (in_19 _ (zs16 (zs1 (zs0)))))) (fun _ h9 => h9) (hI.fr 4 (mF 4 rfl) rfl (Nat.le_of_ble_eq_true rfl) 3 rfl) dX8_tally_95 ?_
                      refine lv_iload_n hx hb dX8_tally_98 rfl (lv_at hl 0 rfl) ?_
                      refine th_iL (va_runV (As := [.int v54_3]) (rest := [.int r74, .ref (ad 31)]) ⟨hx, hb, hml, hown, hts⟩ (q_plainPointsOf l dC dI cT cf hC ad E85_ H.size v54_3 hI i70 (by (try rw [(show xi (E85_ 3) 6 = w54_3_6 from vi_e hs85_3_6)]); omega)) (cwV 1 hts (gi_V (in_20 _ (zs16 (zs4 (zs0)))) (in_20 _ (zs16 (zs4 (zs1 (zs0))))) (in_20 _ (zs16 (zs4 (zs1 (zs1 (zs0)))))) (in_11 _ (zs16 (zs16 (zs4 (zs1 (zs0)))))) (in_20 _ (zs16 (zs4 (zs1 (zs1 (zs1 (zs0)))))))) rfl rfl rfl ⟨rfl, hz_yX9_plainPointsOf_1⟩ ⟨Nat.le_of_ble_eq_true rfl, Nat.le_of_ble_eq_true rfl⟩) ⟨HWL_bl, va_recv hK hP (ci := 10) (q0 := posL 3 (LC cf)) rfl (hI.ob 3 (mF 3 rfl) rfl), (HWL_wi hP hK (WL_D hD) hS hA hEV)⟩ rfl rfl hl.1 rfl (lv_room (Nat.le_of_ble_eq_true rfl)) dX8_tally_99 ⟨Nat.le_of_ble_eq_true rfl, Nat.le_of_ble_eq_true rfl⟩) (WL_D hD) hS hA (fun r77 E78 H locs hw hP hS => ?_)
                      obtain ⟨hI, kq79, hw⟩ := hw
                      have hKb := hKp
                      have hKp := hKp.tr kq79 (wl_sub rfl rfl)
                      have f80 := hw
                      have n81 : vp_in r74 320 := (iv_in (n := 320) f75 (by decide))
                      refine th_iastL hx hb hK hP (WL_D hD) hS hI 31 (mF 31 rfl) rfl rfl n81 (okI rfl f80) dX8_tally_102 (fun H locs E82 pw83 hI hP hS => ?_)
                      have hKp := hKp.pw pw83 rfl
                      obtain ⟨y84, ey84⟩ : ∃ y : Int32, y = v54_3 + (1 : Int32) := ⟨_, rfl⟩
                      obtain ⟨ty84, iy84⟩ := ti_add (e := 1) (f := 16) i70 ln_1 ey84 (by decide)
                      have ty84 : y84.toInt = v54_3.toInt + 1 := ty84
                      have iy84 : 1 ≤ y84.toInt ∧ y84.toInt ≤ 16 := iy84
                      refine lv_iinc (v := y84) (lv' := [(3, .int y84), (2, .int v35_2), (0, .ref (ad 4)), (1, .int a0)]) hx hb dX8_tally_103 hl (k := 0) rfl (by rw [ey84]; rfl) (by decide) rfl (fun ls hl => ?_)
                      refine lv_goto (tgt := 54) hx hb dX8_tally_106 (by decide) ?_
                      exact ih54 w54_3_6 y84 E82 _ _ _ hw54_3_6 (iv_w iy84 (by decide)) (by omega) (by first | exact ms_su hx54_1 ty84 (by decide) | omega) hI hKp ((pw83.2 3 6 (fun q9 => absurd q9.1 (Nat.ne_of_beq_eq_false rfl))).trans ((kq79 3 6 rfl).trans hs85_3_6)) ((pw83.2 4 2 (fun q9 => absurd q9.1 (Nat.ne_of_beq_eq_false rfl))).trans ((kq79 4 2 rfl).trans hs85_4_2)) hP hS (lv_sub hl [0, 1, 2, 3] rfl)
                    refine lv_icmp_eq (tgt := 85) hx hb dX8_tally_75 (by decide) (fun c85 => ?_) (fun c85 => ?_)
                    · --75 taken
                      have t86 : y72.toInt = -1 := ti_eq c85
                      have i87 : -1 ≤ y72.toInt ∧ y72.toInt ≤ -1 := iv_eqi t86 iy72 (il_ (-1)) (by decide)
                      exact hJ85 E54_ _ _ _ hI hKp hs54_3_6 hs54_4_2 hP hS (lv_sub hl [0, 1, 2, 3] rfl)
                    · --75 not
                      have t88 : ¬ y72.toInt = -1 := ti_ne c85
                      have i89 : 0 ≤ y72.toInt ∧ y72.toInt ≤ 5 := iv_ne_l t88 iy72 (il_ (-1))
                      refine lv_aload_n hx hb dX8_tally_78 rfl (lv_at hl 2 rfl) ?_
                      refine th_getL (ci := 9) (C := RX8) (T := TX8) (N := 10) (v := .ref (ad 34)) hx hb hts hinX8 hown hK hP hI 4 (mF 4 rfl) rfl rfl 6 (Nat.le_of_ble_eq_true rfl) (hts _ (vA_in _ _ (in_19 _ (zs4 (zs4 (zs4 (zs0))))))) (fun _ h9 => h9) (hI.fr 4 (mF 4 rfl) rfl (Nat.le_of_ble_eq_true rfl) 34 rfl) dX8_tally_79 ?_
                      refine lv_iload_n hx hb dX8_tally_82 rfl (lv_at hl 0 rfl) ?_
                      refine lv_iconst (v := 1) hx hb dX8_tally_83 (by decide) ?_
                      have n90 : vp_in v54_3 16 := (iv_in (n := 16) i70 (by decide))
                      refine th_zastL hx hb hK hP (WL_D hD) hS hI 34 (mF 34 rfl) rfl rfl n90 (iv_w ln_1 (by decide)) (okI rfl (iv_w ln_1 (by decide))) dX8_tally_84 (fun H locs E91 pw92 hI hP hS => ?_)
                      have hKp := hKp.pw pw92 rfl
                      exact hJ85 E91 _ _ _ hI hKp ((pw92.2 3 6 (fun q9 => absurd q9.1 (Nat.ne_of_beq_eq_false rfl))).trans hs54_3_6) ((pw92.2 4 2 (fun q9 => absurd q9.1 (Nat.ne_of_beq_eq_false rfl))).trans hs54_4_2) hP hS (lv_sub hl [0, 1, 2, 3] rfl)
              exact hL54 (17) y62 (0 : Int32) E60 _ _ _ i63 (iv_w ln_0 (by decide)) (by omega) (by have h9 := ln_0; first | exact ms_bu h9.1 (by decide) | omega) hI hKp fy62 ((kq61 4 2 rfl).trans hs35_4_2) hP hS (lv_sub hl [0, 1, 2, 3] rfl)
        exact hL35 (21) (0 : Int32) E14_ _ _ _ (iv_w ln_0 (by decide)) (by have h9 := ln_0; first | exact ms_bu h9.1 (by decide) | omega) hI hKp hs14_4_2 hP hS (lv_sub hl [0, 1, 2] rfl)
      · --17 not
        have t93 : v14_2.toInt < 16 := ti_nle c6
        have i94 : 0 ≤ v14_2.toInt ∧ v14_2.toInt ≤ 15 := iv_lt_l t93 hv14_2 (il_ 16) (by decide)
        refine lv_aload_n hx hb dX8_tally_20 rfl (lv_at hl 1 rfl) ?_
        refine th_getL (ci := 9) (C := RX8) (T := TX8) (N := 10) (v := .ref (ad 34)) hx hb hts hinX8 hown hK hP hI 4 (mF 4 rfl) rfl rfl 6 (Nat.le_of_ble_eq_true rfl) (hts _ (vA_in _ _ (in_19 _ (zs4 (zs4 (zs4 (zs0))))))) (fun _ h9 => h9) (hI.fr 4 (mF 4 rfl) rfl (Nat.le_of_ble_eq_true rfl) 34 rfl) dX8_tally_21 ?_
        refine lv_iload_n hx hb dX8_tally_24 rfl (lv_at hl 0 rfl) ?_
        refine lv_iconst (v := 0) hx hb dX8_tally_25 (by decide) ?_
        have n95 : vp_in v14_2 16 := (iv_in (n := 16) i94 (by decide))
        refine th_zastL hx hb hK hP (WL_D hD) hS hI 34 (mF 34 rfl) rfl rfl n95 (iv_w ln_0 (by decide)) (okI rfl (iv_w ln_0 (by decide))) dX8_tally_26 (fun H locs E96 pw97 hI hP hS => ?_)
        have hKp := hKp.pw pw97 rfl
        obtain ⟨y98, ey98⟩ : ∃ y : Int32, y = v14_2 + (1 : Int32) := ⟨_, rfl⟩
        obtain ⟨ty98, iy98⟩ := ti_add (e := 1) (f := 16) i94 ln_1 ey98 (by decide)
        have ty98 : y98.toInt = v14_2.toInt + 1 := ty98
        have iy98 : 1 ≤ y98.toInt ∧ y98.toInt ≤ 16 := iy98
        refine lv_iinc (v := y98) (lv' := [(2, .int y98), (0, .ref (ad 4)), (1, .int a0)]) hx hb dX8_tally_27 hl (k := 0) rfl (by rw [ey98]; rfl) (by decide) rfl (fun ls hl => ?_)
        refine lv_goto (tgt := 14) hx hb dX8_tally_30 (by decide) ?_
        exact ih14 y98 E96 _ _ _ (iv_w iy98 (by decide)) (by first | exact ms_su hx14_0 ty98 (by decide) | omega) hI hKp ((pw97.2 4 2 (fun q9 => absurd q9.1 (Nat.ne_of_beq_eq_false rfl))).trans hs14_4_2) hP hS (lv_sub hl [0, 1, 2] rfl)
  exact hL14 (17) (0 : Int32) E4 _ _ _ (iv_w ln_0 (by decide)) (by have h9 := ln_0; first | exact ms_bu h9.1 (by decide) | omega) hI hKp pw5.1 hP hS (lv_sub hl [0, 1, 2] rfl)
