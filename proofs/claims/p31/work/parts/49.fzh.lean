set_option maxRecDepth 100000 in
theorem zh_dX0_disqualifiedIn_0_0 : zc cX0_disqualifiedIn 0 [3, 62, 3, 54, 4, 21, 4, 42, 180, 0, 30, 182, 0, 56, 162, 0] = true := by decide +kernel
set_option maxRecDepth 100000 in
theorem zh_dX0_disqualifiedIn_14_16 : zc cX0_disqualifiedIn 16 [77, 42, 180, 0, 30, 21, 4, 182, 0, 69, 192, 0, 85, 58, 5, 25] = true := by decide +kernel
set_option maxRecDepth 100000 in
theorem zh_dX0_disqualifiedIn_31_32 : zc cX0_disqualifiedIn 32 [5, 180, 0, 140, 27, 159, 0, 6, 167, 0, 45, 25, 5, 28, 182, 0] = true := by decide +kernel
set_option maxRecDepth 100000 in
theorem zh_dX0_disqualifiedIn_46_48 : zc cX0_disqualifiedIn 48 [143, 54, 6, 21, 6, 4, 126, 153, 0, 13, 29, 4, 25, 5, 180, 0] = true := by decide +kernel
set_option maxRecDepth 100000 in
theorem zh_dX0_disqualifiedIn_62_64 : zc cX0_disqualifiedIn 64 [146, 120, 128, 62, 21, 6, 5, 126, 153, 0, 13, 29, 4, 25, 5, 180] = true := by decide +kernel
set_option maxRecDepth 100000 in
theorem zh_dX0_disqualifiedIn_79_80 : zc cX0_disqualifiedIn 80 [0, 149, 120, 128, 62, 132, 4, 1, 167, 255, 173, 29, 172] = true := by decide +kernel
set_option maxRecDepth 100000 in
theorem zh_dX0_disqualified_0_0 : zc cX0_disqualified 0 [3, 60, 3, 61, 28, 42, 180, 0, 21, 182, 0, 56, 162, 0, 24, 27] = true := by decide +kernel
set_option maxRecDepth 100000 in
theorem zh_dX0_disqualified_16_16 : zc cX0_disqualified 16 [42, 28, 42, 180, 0, 59, 182, 0, 152, 184, 0, 88, 96, 60, 132, 2] = true := by decide +kernel
set_option maxRecDepth 100000 in
theorem zh_dX0_disqualified_30_32 : zc cX0_disqualified 32 [1, 167, 255, 227, 27, 172] = true := by decide +kernel
set_option maxRecDepth 100000 in
theorem zh_dX4_guiltyIn_0_0 : zc cX4_guiltyIn 0 [42, 180, 0, 18, 2, 159, 0, 16, 42, 180, 0, 18, 27, 163, 0, 8] = true := by decide +kernel
set_option maxRecDepth 100000 in
theorem zh_dX4_guiltyIn_16_16 : zc cX4_guiltyIn 16 [42, 180, 0, 39, 172, 42, 180, 0, 15, 2, 159, 0, 13, 42, 180, 0] = true := by decide +kernel
set_option maxRecDepth 100000 in
theorem zh_dX4_guiltyIn_30_32 : zc cX4_guiltyIn 32 [15, 27, 163, 0, 5, 3, 172, 42, 180, 0, 9, 2, 159, 0, 18, 42] = true := by decide +kernel
set_option maxRecDepth 100000 in
theorem zh_dX4_guiltyIn_48_48 : zc cX4_guiltyIn 48 [180, 0, 9, 27, 163, 0, 10, 42, 180, 0, 36, 167, 0, 4, 3, 172] = true := by decide +kernel
set_option maxRecDepth 100000 in
theorem zh_dX9_readCodes_0_0 : zc cX9_readCodes 0 [42, 180, 0, 27, 180, 0, 31, 27, 182, 0, 37, 192, 0, 43, 78, 3] = true := by decide +kernel
set_option maxRecDepth 100000 in
theorem zh_dX9_readCodes_16_16 : zc cX9_readCodes 16 [54, 4, 21, 4, 16, 16, 162, 0, 31, 42, 180, 0, 9, 21, 4, 45] = true := by decide +kernel
set_option maxRecDepth 100000 in
theorem zh_dX9_readCodes_32_32 : zc cX9_readCodes 32 [21, 4, 28, 182, 0, 45, 153, 0, 7, 5, 167, 0, 4, 2, 79, 132] = true := by decide +kernel
set_option maxRecDepth 100000 in
theorem zh_dX9_readCodes_47_48 : zc cX9_readCodes 48 [4, 1, 167, 255, 224, 3, 54, 4, 21, 4, 42, 180, 0, 27, 180, 0] = true := by decide +kernel
set_option maxRecDepth 100000 in
theorem zh_dX9_readCodes_62_64 : zc cX9_readCodes 64 [49, 182, 0, 52, 162, 0, 77, 42, 180, 0, 27, 180, 0, 49, 21, 4] = true := by decide +kernel
set_option maxRecDepth 100000 in
theorem zh_dX9_readCodes_80_80 : zc cX9_readCodes 80 [182, 0, 37, 192, 0, 56, 58, 5, 25, 5, 180, 0, 58, 27, 160, 0] = true := by decide +kernel
set_option maxRecDepth 100000 in
theorem zh_dX9_readCodes_94_96 : zc cX9_readCodes 96 [45, 25, 5, 180, 0, 62, 28, 164, 0, 6, 167, 0, 33, 42, 180, 0] = true := by decide +kernel
set_option maxRecDepth 100000 in
theorem zh_dX9_readCodes_110_112 : zc cX9_readCodes 112 [9, 25, 5, 180, 0, 65, 25, 5, 180, 0, 68, 79, 42, 180, 0, 15] = true := by decide +kernel
set_option maxRecDepth 100000 in
theorem zh_dX9_readCodes_128_128 : zc cX9_readCodes 128 [25, 5, 180, 0, 65, 25, 5, 180, 0, 71, 79, 132, 4, 1, 167, 255] = true := by decide +kernel
set_option maxRecDepth 100000 in
theorem zh_dX9_readCodes_142_144 : zc cX9_readCodes 144 [170, 42, 180, 0, 27, 27, 28, 182, 0, 73, 54, 4, 3, 54, 5, 21] = true := by decide +kernel
set_option maxRecDepth 100000 in
theorem zh_dX9_readCodes_159_160 : zc cX9_readCodes 160 [5, 16, 16, 162, 0, 27, 21, 4, 21, 5, 122, 4, 126, 153, 0, 11] = true := by decide +kernel
set_option maxRecDepth 100000 in
theorem zh_dX9_readCodes_176_176 : zc cX9_readCodes 176 [42, 180, 0, 9, 21, 5, 8, 79, 132, 5, 1, 167, 255, 228, 177] = true := by decide +kernel
set_option maxRecDepth 100000 in
theorem zh_dX12_coded_0_0 : zc cX12_coded 0 [42, 180, 0, 10, 27, 29, 182, 0, 162, 153, 0, 14, 42, 180, 0, 10] = true := by decide +kernel
set_option maxRecDepth 100000 in
theorem zh_dX12_coded_16_16 : zc cX12_coded 16 [28, 182, 0, 66, 154, 0, 5, 2, 172, 42, 180, 0, 28, 27, 29, 182] = true := by decide +kernel
set_option maxRecDepth 100000 in
theorem zh_dX12_coded_31_32 : zc cX12_coded 32 [0, 165, 42, 180, 0, 28, 180, 0, 169, 28, 46, 172] = true := by decide +kernel
set_option maxRecDepth 100000 in
theorem zh_dX12_count_0_0 : zc cX12_count 0 [27, 170, 0, 0, 0, 0, 0, 165, 0, 0, 0, 0, 0, 0, 0, 10] = true := by decide +kernel
set_option maxRecDepth 100000 in
theorem zh_dX12_count_60_48 : zc cX12_count 48 [0, 0, 0, 141, 0, 0, 0, 149, 0, 0, 0, 157, 42, 180, 0, 10] = true := by decide +kernel
set_option maxRecDepth 100000 in
theorem zh_dX12_count_64_64 : zc cX12_count 64 [180, 0, 55, 172, 42, 180, 0, 10, 180, 0, 63, 172, 42, 180, 0, 10] = true := by decide +kernel
set_option maxRecDepth 100000 in
theorem zh_dX12_count_80_80 : zc cX12_count 80 [180, 0, 73, 182, 0, 77, 172, 42, 180, 0, 10, 180, 0, 113, 182, 0] = true := by decide +kernel
set_option maxRecDepth 100000 in
theorem zh_dX12_count_94_96 : zc cX12_count 96 [77, 172, 42, 180, 0, 10, 180, 0, 127, 182, 0, 77, 172, 42, 180, 0] = true := by decide +kernel
set_option maxRecDepth 100000 in
theorem zh_dX12_count_110_112 : zc cX12_count 112 [10, 180, 0, 154, 182, 0, 77, 172, 42, 180, 0, 10, 180, 0, 209, 182] = true := by decide +kernel
set_option maxRecDepth 100000 in
theorem zh_dX12_count_127_128 : zc cX12_count 128 [0, 77, 172, 42, 180, 0, 10, 180, 0, 220, 182, 0, 77, 172, 42, 180] = true := by decide +kernel
set_option maxRecDepth 100000 in
theorem zh_dX12_count_143_144 : zc cX12_count 144 [0, 19, 180, 0, 103, 172, 42, 180, 0, 10, 180, 0, 181, 172, 42, 180] = true := by decide +kernel
set_option maxRecDepth 100000 in
theorem zh_dX12_count_159_160 : zc cX12_count 160 [0, 10, 182, 1, 72, 172, 2, 172] = true := by decide +kernel
theorem dX0_disqualifiedIn_0 : decode cX0_disqualifiedIn 0 = .ok (.iconst 0, 1) := zo_3 (zi_at zh_dX0_disqualifiedIn_0_0 0 rfl)
theorem dX0_disqualifiedIn_1 : decode cX0_disqualifiedIn 1 = .ok (.istore_n 3, 1) := zo_62 (zi_at zh_dX0_disqualifiedIn_0_0 1 rfl)
theorem dX0_disqualifiedIn_2 : decode cX0_disqualifiedIn 2 = .ok (.iconst 0, 1) := zo_3 (zi_at zh_dX0_disqualifiedIn_0_0 2 rfl)
theorem dX0_disqualifiedIn_3 : decode cX0_disqualifiedIn 3 = .ok (.istore 4, 2) := zo_54 (zi_at zh_dX0_disqualifiedIn_0_0 3 rfl) (zi_at zh_dX0_disqualifiedIn_0_0 4 rfl)
theorem dX0_disqualifiedIn_5 : decode cX0_disqualifiedIn 5 = .ok (.iload 4, 2) := zo_21 (zi_at zh_dX0_disqualifiedIn_0_0 5 rfl) (zi_at zh_dX0_disqualifiedIn_0_0 6 rfl)
theorem dX0_disqualifiedIn_7 : decode cX0_disqualifiedIn 7 = .ok (.aload_n 0, 1) := zo_42 (zi_at zh_dX0_disqualifiedIn_0_0 7 rfl)
theorem dX0_disqualifiedIn_8 : decode cX0_disqualifiedIn 8 = .ok (.getfield 30, 3) := zo_180 (zi_at zh_dX0_disqualifiedIn_0_0 8 rfl) (zi_at zh_dX0_disqualifiedIn_0_0 9 rfl) (zi_at zh_dX0_disqualifiedIn_0_0 10 rfl) rfl
theorem dX0_disqualifiedIn_11 : decode cX0_disqualifiedIn 11 = .ok (.invokevirtual 56, 3) := zo_182 (zi_at zh_dX0_disqualifiedIn_0_0 11 rfl) (zi_at zh_dX0_disqualifiedIn_0_0 12 rfl) (zi_at zh_dX0_disqualifiedIn_0_0 13 rfl) rfl
theorem dX0_disqualifiedIn_14 : decode cX0_disqualifiedIn 14 = .ok (.if_icmp .ge 77, 3) := zo_162 (zi_at zh_dX0_disqualifiedIn_0_0 14 rfl) (zi_at zh_dX0_disqualifiedIn_0_0 15 rfl) (zi_at zh_dX0_disqualifiedIn_14_16 0 rfl) rfl
theorem dX0_disqualifiedIn_17 : decode cX0_disqualifiedIn 17 = .ok (.aload_n 0, 1) := zo_42 (zi_at zh_dX0_disqualifiedIn_14_16 1 rfl)
theorem dX0_disqualifiedIn_18 : decode cX0_disqualifiedIn 18 = .ok (.getfield 30, 3) := zo_180 (zi_at zh_dX0_disqualifiedIn_14_16 2 rfl) (zi_at zh_dX0_disqualifiedIn_14_16 3 rfl) (zi_at zh_dX0_disqualifiedIn_14_16 4 rfl) rfl
theorem dX0_disqualifiedIn_21 : decode cX0_disqualifiedIn 21 = .ok (.iload 4, 2) := zo_21 (zi_at zh_dX0_disqualifiedIn_14_16 5 rfl) (zi_at zh_dX0_disqualifiedIn_14_16 6 rfl)
theorem dX0_disqualifiedIn_23 : decode cX0_disqualifiedIn 23 = .ok (.invokevirtual 69, 3) := zo_182 (zi_at zh_dX0_disqualifiedIn_14_16 7 rfl) (zi_at zh_dX0_disqualifiedIn_14_16 8 rfl) (zi_at zh_dX0_disqualifiedIn_14_16 9 rfl) rfl
theorem dX0_disqualifiedIn_26 : decode cX0_disqualifiedIn 26 = .ok (.checkcast 85, 3) := zo_192 (zi_at zh_dX0_disqualifiedIn_14_16 10 rfl) (zi_at zh_dX0_disqualifiedIn_14_16 11 rfl) (zi_at zh_dX0_disqualifiedIn_14_16 12 rfl) rfl
theorem dX0_disqualifiedIn_29 : decode cX0_disqualifiedIn 29 = .ok (.astore 5, 2) := zo_58 (zi_at zh_dX0_disqualifiedIn_14_16 13 rfl) (zi_at zh_dX0_disqualifiedIn_14_16 14 rfl)
theorem dX0_disqualifiedIn_31 : decode cX0_disqualifiedIn 31 = .ok (.aload 5, 2) := zo_25 (zi_at zh_dX0_disqualifiedIn_14_16 15 rfl) (zi_at zh_dX0_disqualifiedIn_31_32 0 rfl)
theorem dX0_disqualifiedIn_33 : decode cX0_disqualifiedIn 33 = .ok (.getfield 140, 3) := zo_180 (zi_at zh_dX0_disqualifiedIn_31_32 1 rfl) (zi_at zh_dX0_disqualifiedIn_31_32 2 rfl) (zi_at zh_dX0_disqualifiedIn_31_32 3 rfl) rfl
theorem dX0_disqualifiedIn_36 : decode cX0_disqualifiedIn 36 = .ok (.iload_n 1, 1) := zo_27 (zi_at zh_dX0_disqualifiedIn_31_32 4 rfl)
theorem dX0_disqualifiedIn_37 : decode cX0_disqualifiedIn 37 = .ok (.if_icmp .eq 6, 3) := zo_159 (zi_at zh_dX0_disqualifiedIn_31_32 5 rfl) (zi_at zh_dX0_disqualifiedIn_31_32 6 rfl) (zi_at zh_dX0_disqualifiedIn_31_32 7 rfl) rfl
theorem dX0_disqualifiedIn_40 : decode cX0_disqualifiedIn 40 = .ok (.goto 45, 3) := zo_167 (zi_at zh_dX0_disqualifiedIn_31_32 8 rfl) (zi_at zh_dX0_disqualifiedIn_31_32 9 rfl) (zi_at zh_dX0_disqualifiedIn_31_32 10 rfl) rfl
theorem dX0_disqualifiedIn_43 : decode cX0_disqualifiedIn 43 = .ok (.aload 5, 2) := zo_25 (zi_at zh_dX0_disqualifiedIn_31_32 11 rfl) (zi_at zh_dX0_disqualifiedIn_31_32 12 rfl)
theorem dX0_disqualifiedIn_45 : decode cX0_disqualifiedIn 45 = .ok (.iload_n 2, 1) := zo_28 (zi_at zh_dX0_disqualifiedIn_31_32 13 rfl)
theorem dX0_disqualifiedIn_46 : decode cX0_disqualifiedIn 46 = .ok (.invokevirtual 143, 3) := zo_182 (zi_at zh_dX0_disqualifiedIn_31_32 14 rfl) (zi_at zh_dX0_disqualifiedIn_31_32 15 rfl) (zi_at zh_dX0_disqualifiedIn_46_48 0 rfl) rfl
theorem dX0_disqualifiedIn_49 : decode cX0_disqualifiedIn 49 = .ok (.istore 6, 2) := zo_54 (zi_at zh_dX0_disqualifiedIn_46_48 1 rfl) (zi_at zh_dX0_disqualifiedIn_46_48 2 rfl)
theorem dX0_disqualifiedIn_51 : decode cX0_disqualifiedIn 51 = .ok (.iload 6, 2) := zo_21 (zi_at zh_dX0_disqualifiedIn_46_48 3 rfl) (zi_at zh_dX0_disqualifiedIn_46_48 4 rfl)
theorem dX0_disqualifiedIn_53 : decode cX0_disqualifiedIn 53 = .ok (.iconst 1, 1) := zo_4 (zi_at zh_dX0_disqualifiedIn_46_48 5 rfl)
theorem dX0_disqualifiedIn_54 : decode cX0_disqualifiedIn 54 = .ok (.iand, 1) := zo_126 (zi_at zh_dX0_disqualifiedIn_46_48 6 rfl)
theorem dX0_disqualifiedIn_55 : decode cX0_disqualifiedIn 55 = .ok (.ifCond .eq 13, 3) := zo_153 (zi_at zh_dX0_disqualifiedIn_46_48 7 rfl) (zi_at zh_dX0_disqualifiedIn_46_48 8 rfl) (zi_at zh_dX0_disqualifiedIn_46_48 9 rfl) rfl
theorem dX0_disqualifiedIn_58 : decode cX0_disqualifiedIn 58 = .ok (.iload_n 3, 1) := zo_29 (zi_at zh_dX0_disqualifiedIn_46_48 10 rfl)
theorem dX0_disqualifiedIn_59 : decode cX0_disqualifiedIn 59 = .ok (.iconst 1, 1) := zo_4 (zi_at zh_dX0_disqualifiedIn_46_48 11 rfl)
theorem dX0_disqualifiedIn_60 : decode cX0_disqualifiedIn 60 = .ok (.aload 5, 2) := zo_25 (zi_at zh_dX0_disqualifiedIn_46_48 12 rfl) (zi_at zh_dX0_disqualifiedIn_46_48 13 rfl)
theorem dX0_disqualifiedIn_62 : decode cX0_disqualifiedIn 62 = .ok (.getfield 146, 3) := zo_180 (zi_at zh_dX0_disqualifiedIn_46_48 14 rfl) (zi_at zh_dX0_disqualifiedIn_46_48 15 rfl) (zi_at zh_dX0_disqualifiedIn_62_64 0 rfl) rfl
theorem dX0_disqualifiedIn_65 : decode cX0_disqualifiedIn 65 = .ok (.ishl, 1) := zo_120 (zi_at zh_dX0_disqualifiedIn_62_64 1 rfl)
theorem dX0_disqualifiedIn_66 : decode cX0_disqualifiedIn 66 = .ok (.ior, 1) := zo_128 (zi_at zh_dX0_disqualifiedIn_62_64 2 rfl)
theorem dX0_disqualifiedIn_67 : decode cX0_disqualifiedIn 67 = .ok (.istore_n 3, 1) := zo_62 (zi_at zh_dX0_disqualifiedIn_62_64 3 rfl)
theorem dX0_disqualifiedIn_68 : decode cX0_disqualifiedIn 68 = .ok (.iload 6, 2) := zo_21 (zi_at zh_dX0_disqualifiedIn_62_64 4 rfl) (zi_at zh_dX0_disqualifiedIn_62_64 5 rfl)
theorem dX0_disqualifiedIn_70 : decode cX0_disqualifiedIn 70 = .ok (.iconst 2, 1) := zo_5 (zi_at zh_dX0_disqualifiedIn_62_64 6 rfl)
theorem dX0_disqualifiedIn_71 : decode cX0_disqualifiedIn 71 = .ok (.iand, 1) := zo_126 (zi_at zh_dX0_disqualifiedIn_62_64 7 rfl)
theorem dX0_disqualifiedIn_72 : decode cX0_disqualifiedIn 72 = .ok (.ifCond .eq 13, 3) := zo_153 (zi_at zh_dX0_disqualifiedIn_62_64 8 rfl) (zi_at zh_dX0_disqualifiedIn_62_64 9 rfl) (zi_at zh_dX0_disqualifiedIn_62_64 10 rfl) rfl
theorem dX0_disqualifiedIn_75 : decode cX0_disqualifiedIn 75 = .ok (.iload_n 3, 1) := zo_29 (zi_at zh_dX0_disqualifiedIn_62_64 11 rfl)
theorem dX0_disqualifiedIn_76 : decode cX0_disqualifiedIn 76 = .ok (.iconst 1, 1) := zo_4 (zi_at zh_dX0_disqualifiedIn_62_64 12 rfl)
theorem dX0_disqualifiedIn_77 : decode cX0_disqualifiedIn 77 = .ok (.aload 5, 2) := zo_25 (zi_at zh_dX0_disqualifiedIn_62_64 13 rfl) (zi_at zh_dX0_disqualifiedIn_62_64 14 rfl)
theorem dX0_disqualifiedIn_79 : decode cX0_disqualifiedIn 79 = .ok (.getfield 149, 3) := zo_180 (zi_at zh_dX0_disqualifiedIn_62_64 15 rfl) (zi_at zh_dX0_disqualifiedIn_79_80 0 rfl) (zi_at zh_dX0_disqualifiedIn_79_80 1 rfl) rfl
theorem dX0_disqualifiedIn_82 : decode cX0_disqualifiedIn 82 = .ok (.ishl, 1) := zo_120 (zi_at zh_dX0_disqualifiedIn_79_80 2 rfl)
theorem dX0_disqualifiedIn_83 : decode cX0_disqualifiedIn 83 = .ok (.ior, 1) := zo_128 (zi_at zh_dX0_disqualifiedIn_79_80 3 rfl)
theorem dX0_disqualifiedIn_84 : decode cX0_disqualifiedIn 84 = .ok (.istore_n 3, 1) := zo_62 (zi_at zh_dX0_disqualifiedIn_79_80 4 rfl)
theorem dX0_disqualifiedIn_85 : decode cX0_disqualifiedIn 85 = .ok (.iinc 4 1, 3) := zo_132 (zi_at zh_dX0_disqualifiedIn_79_80 5 rfl) (zi_at zh_dX0_disqualifiedIn_79_80 6 rfl) (zi_at zh_dX0_disqualifiedIn_79_80 7 rfl) rfl
theorem dX0_disqualifiedIn_88 : decode cX0_disqualifiedIn 88 = .ok (.goto (-83), 3) := zo_167 (zi_at zh_dX0_disqualifiedIn_79_80 8 rfl) (zi_at zh_dX0_disqualifiedIn_79_80 9 rfl) (zi_at zh_dX0_disqualifiedIn_79_80 10 rfl) rfl
theorem dX0_disqualifiedIn_91 : decode cX0_disqualifiedIn 91 = .ok (.iload_n 3, 1) := zo_29 (zi_at zh_dX0_disqualifiedIn_79_80 11 rfl)
theorem dX0_disqualifiedIn_92 : decode cX0_disqualifiedIn 92 = .ok (.ireturn, 1) := zo_172 (zi_at zh_dX0_disqualifiedIn_79_80 12 rfl)
theorem dX0_disqualified_0 : decode cX0_disqualified 0 = .ok (.iconst 0, 1) := zo_3 (zi_at zh_dX0_disqualified_0_0 0 rfl)
theorem dX0_disqualified_1 : decode cX0_disqualified 1 = .ok (.istore_n 1, 1) := zo_60 (zi_at zh_dX0_disqualified_0_0 1 rfl)
theorem dX0_disqualified_2 : decode cX0_disqualified 2 = .ok (.iconst 0, 1) := zo_3 (zi_at zh_dX0_disqualified_0_0 2 rfl)
theorem dX0_disqualified_3 : decode cX0_disqualified 3 = .ok (.istore_n 2, 1) := zo_61 (zi_at zh_dX0_disqualified_0_0 3 rfl)
theorem dX0_disqualified_4 : decode cX0_disqualified 4 = .ok (.iload_n 2, 1) := zo_28 (zi_at zh_dX0_disqualified_0_0 4 rfl)
theorem dX0_disqualified_5 : decode cX0_disqualified 5 = .ok (.aload_n 0, 1) := zo_42 (zi_at zh_dX0_disqualified_0_0 5 rfl)
theorem dX0_disqualified_6 : decode cX0_disqualified 6 = .ok (.getfield 21, 3) := zo_180 (zi_at zh_dX0_disqualified_0_0 6 rfl) (zi_at zh_dX0_disqualified_0_0 7 rfl) (zi_at zh_dX0_disqualified_0_0 8 rfl) rfl
theorem dX0_disqualified_9 : decode cX0_disqualified 9 = .ok (.invokevirtual 56, 3) := zo_182 (zi_at zh_dX0_disqualified_0_0 9 rfl) (zi_at zh_dX0_disqualified_0_0 10 rfl) (zi_at zh_dX0_disqualified_0_0 11 rfl) rfl
theorem dX0_disqualified_12 : decode cX0_disqualified 12 = .ok (.if_icmp .ge 24, 3) := zo_162 (zi_at zh_dX0_disqualified_0_0 12 rfl) (zi_at zh_dX0_disqualified_0_0 13 rfl) (zi_at zh_dX0_disqualified_0_0 14 rfl) rfl
theorem dX0_disqualified_15 : decode cX0_disqualified 15 = .ok (.iload_n 1, 1) := zo_27 (zi_at zh_dX0_disqualified_0_0 15 rfl)
theorem dX0_disqualified_16 : decode cX0_disqualified 16 = .ok (.aload_n 0, 1) := zo_42 (zi_at zh_dX0_disqualified_16_16 0 rfl)
theorem dX0_disqualified_17 : decode cX0_disqualified 17 = .ok (.iload_n 2, 1) := zo_28 (zi_at zh_dX0_disqualified_16_16 1 rfl)
theorem dX0_disqualified_18 : decode cX0_disqualified 18 = .ok (.aload_n 0, 1) := zo_42 (zi_at zh_dX0_disqualified_16_16 2 rfl)
theorem dX0_disqualified_19 : decode cX0_disqualified 19 = .ok (.getfield 59, 3) := zo_180 (zi_at zh_dX0_disqualified_16_16 3 rfl) (zi_at zh_dX0_disqualified_16_16 4 rfl) (zi_at zh_dX0_disqualified_16_16 5 rfl) rfl
theorem dX0_disqualified_22 : decode cX0_disqualified 22 = .ok (.invokevirtual 152, 3) := zo_182 (zi_at zh_dX0_disqualified_16_16 6 rfl) (zi_at zh_dX0_disqualified_16_16 7 rfl) (zi_at zh_dX0_disqualified_16_16 8 rfl) rfl
theorem dX0_disqualified_25 : decode cX0_disqualified 25 = .ok (.invokestatic 88, 3) := zo_184 (zi_at zh_dX0_disqualified_16_16 9 rfl) (zi_at zh_dX0_disqualified_16_16 10 rfl) (zi_at zh_dX0_disqualified_16_16 11 rfl) rfl
theorem dX0_disqualified_28 : decode cX0_disqualified 28 = .ok (.iadd, 1) := zo_96 (zi_at zh_dX0_disqualified_16_16 12 rfl)
theorem dX0_disqualified_29 : decode cX0_disqualified 29 = .ok (.istore_n 1, 1) := zo_60 (zi_at zh_dX0_disqualified_16_16 13 rfl)
theorem dX0_disqualified_30 : decode cX0_disqualified 30 = .ok (.iinc 2 1, 3) := zo_132 (zi_at zh_dX0_disqualified_16_16 14 rfl) (zi_at zh_dX0_disqualified_16_16 15 rfl) (zi_at zh_dX0_disqualified_30_32 0 rfl) rfl
theorem dX0_disqualified_33 : decode cX0_disqualified 33 = .ok (.goto (-29), 3) := zo_167 (zi_at zh_dX0_disqualified_30_32 1 rfl) (zi_at zh_dX0_disqualified_30_32 2 rfl) (zi_at zh_dX0_disqualified_30_32 3 rfl) rfl
theorem dX0_disqualified_36 : decode cX0_disqualified 36 = .ok (.iload_n 1, 1) := zo_27 (zi_at zh_dX0_disqualified_30_32 4 rfl)
theorem dX0_disqualified_37 : decode cX0_disqualified 37 = .ok (.ireturn, 1) := zo_172 (zi_at zh_dX0_disqualified_30_32 5 rfl)
theorem dX4_guiltyIn_0 : decode cX4_guiltyIn 0 = .ok (.aload_n 0, 1) := zo_42 (zi_at zh_dX4_guiltyIn_0_0 0 rfl)
theorem dX4_guiltyIn_1 : decode cX4_guiltyIn 1 = .ok (.getfield 18, 3) := zo_180 (zi_at zh_dX4_guiltyIn_0_0 1 rfl) (zi_at zh_dX4_guiltyIn_0_0 2 rfl) (zi_at zh_dX4_guiltyIn_0_0 3 rfl) rfl
theorem dX4_guiltyIn_4 : decode cX4_guiltyIn 4 = .ok (.iconst (-1), 1) := zo_2 (zi_at zh_dX4_guiltyIn_0_0 4 rfl)
theorem dX4_guiltyIn_5 : decode cX4_guiltyIn 5 = .ok (.if_icmp .eq 16, 3) := zo_159 (zi_at zh_dX4_guiltyIn_0_0 5 rfl) (zi_at zh_dX4_guiltyIn_0_0 6 rfl) (zi_at zh_dX4_guiltyIn_0_0 7 rfl) rfl
theorem dX4_guiltyIn_8 : decode cX4_guiltyIn 8 = .ok (.aload_n 0, 1) := zo_42 (zi_at zh_dX4_guiltyIn_0_0 8 rfl)
theorem dX4_guiltyIn_9 : decode cX4_guiltyIn 9 = .ok (.getfield 18, 3) := zo_180 (zi_at zh_dX4_guiltyIn_0_0 9 rfl) (zi_at zh_dX4_guiltyIn_0_0 10 rfl) (zi_at zh_dX4_guiltyIn_0_0 11 rfl) rfl
theorem dX4_guiltyIn_12 : decode cX4_guiltyIn 12 = .ok (.iload_n 1, 1) := zo_27 (zi_at zh_dX4_guiltyIn_0_0 12 rfl)
theorem dX4_guiltyIn_13 : decode cX4_guiltyIn 13 = .ok (.if_icmp .gt 8, 3) := zo_163 (zi_at zh_dX4_guiltyIn_0_0 13 rfl) (zi_at zh_dX4_guiltyIn_0_0 14 rfl) (zi_at zh_dX4_guiltyIn_0_0 15 rfl) rfl
theorem dX4_guiltyIn_16 : decode cX4_guiltyIn 16 = .ok (.aload_n 0, 1) := zo_42 (zi_at zh_dX4_guiltyIn_16_16 0 rfl)
theorem dX4_guiltyIn_17 : decode cX4_guiltyIn 17 = .ok (.getfield 39, 3) := zo_180 (zi_at zh_dX4_guiltyIn_16_16 1 rfl) (zi_at zh_dX4_guiltyIn_16_16 2 rfl) (zi_at zh_dX4_guiltyIn_16_16 3 rfl) rfl
theorem dX4_guiltyIn_20 : decode cX4_guiltyIn 20 = .ok (.ireturn, 1) := zo_172 (zi_at zh_dX4_guiltyIn_16_16 4 rfl)
theorem dX4_guiltyIn_21 : decode cX4_guiltyIn 21 = .ok (.aload_n 0, 1) := zo_42 (zi_at zh_dX4_guiltyIn_16_16 5 rfl)
theorem dX4_guiltyIn_22 : decode cX4_guiltyIn 22 = .ok (.getfield 15, 3) := zo_180 (zi_at zh_dX4_guiltyIn_16_16 6 rfl) (zi_at zh_dX4_guiltyIn_16_16 7 rfl) (zi_at zh_dX4_guiltyIn_16_16 8 rfl) rfl
theorem dX4_guiltyIn_25 : decode cX4_guiltyIn 25 = .ok (.iconst (-1), 1) := zo_2 (zi_at zh_dX4_guiltyIn_16_16 9 rfl)
theorem dX4_guiltyIn_26 : decode cX4_guiltyIn 26 = .ok (.if_icmp .eq 13, 3) := zo_159 (zi_at zh_dX4_guiltyIn_16_16 10 rfl) (zi_at zh_dX4_guiltyIn_16_16 11 rfl) (zi_at zh_dX4_guiltyIn_16_16 12 rfl) rfl
theorem dX4_guiltyIn_29 : decode cX4_guiltyIn 29 = .ok (.aload_n 0, 1) := zo_42 (zi_at zh_dX4_guiltyIn_16_16 13 rfl)
theorem dX4_guiltyIn_30 : decode cX4_guiltyIn 30 = .ok (.getfield 15, 3) := zo_180 (zi_at zh_dX4_guiltyIn_16_16 14 rfl) (zi_at zh_dX4_guiltyIn_16_16 15 rfl) (zi_at zh_dX4_guiltyIn_30_32 0 rfl) rfl
theorem dX4_guiltyIn_33 : decode cX4_guiltyIn 33 = .ok (.iload_n 1, 1) := zo_27 (zi_at zh_dX4_guiltyIn_30_32 1 rfl)
theorem dX4_guiltyIn_34 : decode cX4_guiltyIn 34 = .ok (.if_icmp .gt 5, 3) := zo_163 (zi_at zh_dX4_guiltyIn_30_32 2 rfl) (zi_at zh_dX4_guiltyIn_30_32 3 rfl) (zi_at zh_dX4_guiltyIn_30_32 4 rfl) rfl
theorem dX4_guiltyIn_37 : decode cX4_guiltyIn 37 = .ok (.iconst 0, 1) := zo_3 (zi_at zh_dX4_guiltyIn_30_32 5 rfl)
theorem dX4_guiltyIn_38 : decode cX4_guiltyIn 38 = .ok (.ireturn, 1) := zo_172 (zi_at zh_dX4_guiltyIn_30_32 6 rfl)
theorem dX4_guiltyIn_39 : decode cX4_guiltyIn 39 = .ok (.aload_n 0, 1) := zo_42 (zi_at zh_dX4_guiltyIn_30_32 7 rfl)
theorem dX4_guiltyIn_40 : decode cX4_guiltyIn 40 = .ok (.getfield 9, 3) := zo_180 (zi_at zh_dX4_guiltyIn_30_32 8 rfl) (zi_at zh_dX4_guiltyIn_30_32 9 rfl) (zi_at zh_dX4_guiltyIn_30_32 10 rfl) rfl
theorem dX4_guiltyIn_43 : decode cX4_guiltyIn 43 = .ok (.iconst (-1), 1) := zo_2 (zi_at zh_dX4_guiltyIn_30_32 11 rfl)
theorem dX4_guiltyIn_44 : decode cX4_guiltyIn 44 = .ok (.if_icmp .eq 18, 3) := zo_159 (zi_at zh_dX4_guiltyIn_30_32 12 rfl) (zi_at zh_dX4_guiltyIn_30_32 13 rfl) (zi_at zh_dX4_guiltyIn_30_32 14 rfl) rfl
theorem dX4_guiltyIn_47 : decode cX4_guiltyIn 47 = .ok (.aload_n 0, 1) := zo_42 (zi_at zh_dX4_guiltyIn_30_32 15 rfl)
theorem dX4_guiltyIn_48 : decode cX4_guiltyIn 48 = .ok (.getfield 9, 3) := zo_180 (zi_at zh_dX4_guiltyIn_48_48 0 rfl) (zi_at zh_dX4_guiltyIn_48_48 1 rfl) (zi_at zh_dX4_guiltyIn_48_48 2 rfl) rfl
theorem dX4_guiltyIn_51 : decode cX4_guiltyIn 51 = .ok (.iload_n 1, 1) := zo_27 (zi_at zh_dX4_guiltyIn_48_48 3 rfl)
theorem dX4_guiltyIn_52 : decode cX4_guiltyIn 52 = .ok (.if_icmp .gt 10, 3) := zo_163 (zi_at zh_dX4_guiltyIn_48_48 4 rfl) (zi_at zh_dX4_guiltyIn_48_48 5 rfl) (zi_at zh_dX4_guiltyIn_48_48 6 rfl) rfl
theorem dX4_guiltyIn_55 : decode cX4_guiltyIn 55 = .ok (.aload_n 0, 1) := zo_42 (zi_at zh_dX4_guiltyIn_48_48 7 rfl)
theorem dX4_guiltyIn_56 : decode cX4_guiltyIn 56 = .ok (.getfield 36, 3) := zo_180 (zi_at zh_dX4_guiltyIn_48_48 8 rfl) (zi_at zh_dX4_guiltyIn_48_48 9 rfl) (zi_at zh_dX4_guiltyIn_48_48 10 rfl) rfl
theorem dX4_guiltyIn_59 : decode cX4_guiltyIn 59 = .ok (.goto 4, 3) := zo_167 (zi_at zh_dX4_guiltyIn_48_48 11 rfl) (zi_at zh_dX4_guiltyIn_48_48 12 rfl) (zi_at zh_dX4_guiltyIn_48_48 13 rfl) rfl
theorem dX4_guiltyIn_62 : decode cX4_guiltyIn 62 = .ok (.iconst 0, 1) := zo_3 (zi_at zh_dX4_guiltyIn_48_48 14 rfl)
theorem dX4_guiltyIn_63 : decode cX4_guiltyIn 63 = .ok (.ireturn, 1) := zo_172 (zi_at zh_dX4_guiltyIn_48_48 15 rfl)
theorem dX9_readCodes_0 : decode cX9_readCodes 0 = .ok (.aload_n 0, 1) := zo_42 (zi_at zh_dX9_readCodes_0_0 0 rfl)
theorem dX9_readCodes_1 : decode cX9_readCodes 1 = .ok (.getfield 27, 3) := zo_180 (zi_at zh_dX9_readCodes_0_0 1 rfl) (zi_at zh_dX9_readCodes_0_0 2 rfl) (zi_at zh_dX9_readCodes_0_0 3 rfl) rfl
theorem dX9_readCodes_4 : decode cX9_readCodes 4 = .ok (.getfield 31, 3) := zo_180 (zi_at zh_dX9_readCodes_0_0 4 rfl) (zi_at zh_dX9_readCodes_0_0 5 rfl) (zi_at zh_dX9_readCodes_0_0 6 rfl) rfl
theorem dX9_readCodes_7 : decode cX9_readCodes 7 = .ok (.iload_n 1, 1) := zo_27 (zi_at zh_dX9_readCodes_0_0 7 rfl)
theorem dX9_readCodes_8 : decode cX9_readCodes 8 = .ok (.invokevirtual 37, 3) := zo_182 (zi_at zh_dX9_readCodes_0_0 8 rfl) (zi_at zh_dX9_readCodes_0_0 9 rfl) (zi_at zh_dX9_readCodes_0_0 10 rfl) rfl
theorem dX9_readCodes_11 : decode cX9_readCodes 11 = .ok (.checkcast 43, 3) := zo_192 (zi_at zh_dX9_readCodes_0_0 11 rfl) (zi_at zh_dX9_readCodes_0_0 12 rfl) (zi_at zh_dX9_readCodes_0_0 13 rfl) rfl
theorem dX9_readCodes_14 : decode cX9_readCodes 14 = .ok (.astore_n 3, 1) := zo_78 (zi_at zh_dX9_readCodes_0_0 14 rfl)
theorem dX9_readCodes_15 : decode cX9_readCodes 15 = .ok (.iconst 0, 1) := zo_3 (zi_at zh_dX9_readCodes_0_0 15 rfl)
theorem dX9_readCodes_16 : decode cX9_readCodes 16 = .ok (.istore 4, 2) := zo_54 (zi_at zh_dX9_readCodes_16_16 0 rfl) (zi_at zh_dX9_readCodes_16_16 1 rfl)
theorem dX9_readCodes_18 : decode cX9_readCodes 18 = .ok (.iload 4, 2) := zo_21 (zi_at zh_dX9_readCodes_16_16 2 rfl) (zi_at zh_dX9_readCodes_16_16 3 rfl)
theorem dX9_readCodes_20 : decode cX9_readCodes 20 = .ok (.bipush 16, 2) := zo_16 (zi_at zh_dX9_readCodes_16_16 4 rfl) (zi_at zh_dX9_readCodes_16_16 5 rfl) rfl
theorem dX9_readCodes_22 : decode cX9_readCodes 22 = .ok (.if_icmp .ge 31, 3) := zo_162 (zi_at zh_dX9_readCodes_16_16 6 rfl) (zi_at zh_dX9_readCodes_16_16 7 rfl) (zi_at zh_dX9_readCodes_16_16 8 rfl) rfl
theorem dX9_readCodes_25 : decode cX9_readCodes 25 = .ok (.aload_n 0, 1) := zo_42 (zi_at zh_dX9_readCodes_16_16 9 rfl)
theorem dX9_readCodes_26 : decode cX9_readCodes 26 = .ok (.getfield 9, 3) := zo_180 (zi_at zh_dX9_readCodes_16_16 10 rfl) (zi_at zh_dX9_readCodes_16_16 11 rfl) (zi_at zh_dX9_readCodes_16_16 12 rfl) rfl
theorem dX9_readCodes_29 : decode cX9_readCodes 29 = .ok (.iload 4, 2) := zo_21 (zi_at zh_dX9_readCodes_16_16 13 rfl) (zi_at zh_dX9_readCodes_16_16 14 rfl)
theorem dX9_readCodes_31 : decode cX9_readCodes 31 = .ok (.aload_n 3, 1) := zo_45 (zi_at zh_dX9_readCodes_16_16 15 rfl)
theorem dX9_readCodes_32 : decode cX9_readCodes 32 = .ok (.iload 4, 2) := zo_21 (zi_at zh_dX9_readCodes_32_32 0 rfl) (zi_at zh_dX9_readCodes_32_32 1 rfl)
theorem dX9_readCodes_34 : decode cX9_readCodes 34 = .ok (.iload_n 2, 1) := zo_28 (zi_at zh_dX9_readCodes_32_32 2 rfl)
theorem dX9_readCodes_35 : decode cX9_readCodes 35 = .ok (.invokevirtual 45, 3) := zo_182 (zi_at zh_dX9_readCodes_32_32 3 rfl) (zi_at zh_dX9_readCodes_32_32 4 rfl) (zi_at zh_dX9_readCodes_32_32 5 rfl) rfl
theorem dX9_readCodes_38 : decode cX9_readCodes 38 = .ok (.ifCond .eq 7, 3) := zo_153 (zi_at zh_dX9_readCodes_32_32 6 rfl) (zi_at zh_dX9_readCodes_32_32 7 rfl) (zi_at zh_dX9_readCodes_32_32 8 rfl) rfl
theorem dX9_readCodes_41 : decode cX9_readCodes 41 = .ok (.iconst 2, 1) := zo_5 (zi_at zh_dX9_readCodes_32_32 9 rfl)
theorem dX9_readCodes_42 : decode cX9_readCodes 42 = .ok (.goto 4, 3) := zo_167 (zi_at zh_dX9_readCodes_32_32 10 rfl) (zi_at zh_dX9_readCodes_32_32 11 rfl) (zi_at zh_dX9_readCodes_32_32 12 rfl) rfl
theorem dX9_readCodes_45 : decode cX9_readCodes 45 = .ok (.iconst (-1), 1) := zo_2 (zi_at zh_dX9_readCodes_32_32 13 rfl)
theorem dX9_readCodes_46 : decode cX9_readCodes 46 = .ok (.iastore, 1) := zo_79 (zi_at zh_dX9_readCodes_32_32 14 rfl)
theorem dX9_readCodes_47 : decode cX9_readCodes 47 = .ok (.iinc 4 1, 3) := zo_132 (zi_at zh_dX9_readCodes_32_32 15 rfl) (zi_at zh_dX9_readCodes_47_48 0 rfl) (zi_at zh_dX9_readCodes_47_48 1 rfl) rfl
theorem dX9_readCodes_50 : decode cX9_readCodes 50 = .ok (.goto (-32), 3) := zo_167 (zi_at zh_dX9_readCodes_47_48 2 rfl) (zi_at zh_dX9_readCodes_47_48 3 rfl) (zi_at zh_dX9_readCodes_47_48 4 rfl) rfl
theorem dX9_readCodes_53 : decode cX9_readCodes 53 = .ok (.iconst 0, 1) := zo_3 (zi_at zh_dX9_readCodes_47_48 5 rfl)
theorem dX9_readCodes_54 : decode cX9_readCodes 54 = .ok (.istore 4, 2) := zo_54 (zi_at zh_dX9_readCodes_47_48 6 rfl) (zi_at zh_dX9_readCodes_47_48 7 rfl)
theorem dX9_readCodes_56 : decode cX9_readCodes 56 = .ok (.iload 4, 2) := zo_21 (zi_at zh_dX9_readCodes_47_48 8 rfl) (zi_at zh_dX9_readCodes_47_48 9 rfl)
theorem dX9_readCodes_58 : decode cX9_readCodes 58 = .ok (.aload_n 0, 1) := zo_42 (zi_at zh_dX9_readCodes_47_48 10 rfl)
theorem dX9_readCodes_59 : decode cX9_readCodes 59 = .ok (.getfield 27, 3) := zo_180 (zi_at zh_dX9_readCodes_47_48 11 rfl) (zi_at zh_dX9_readCodes_47_48 12 rfl) (zi_at zh_dX9_readCodes_47_48 13 rfl) rfl
theorem dX9_readCodes_62 : decode cX9_readCodes 62 = .ok (.getfield 49, 3) := zo_180 (zi_at zh_dX9_readCodes_47_48 14 rfl) (zi_at zh_dX9_readCodes_47_48 15 rfl) (zi_at zh_dX9_readCodes_62_64 0 rfl) rfl
theorem dX9_readCodes_65 : decode cX9_readCodes 65 = .ok (.invokevirtual 52, 3) := zo_182 (zi_at zh_dX9_readCodes_62_64 1 rfl) (zi_at zh_dX9_readCodes_62_64 2 rfl) (zi_at zh_dX9_readCodes_62_64 3 rfl) rfl
theorem dX9_readCodes_68 : decode cX9_readCodes 68 = .ok (.if_icmp .ge 77, 3) := zo_162 (zi_at zh_dX9_readCodes_62_64 4 rfl) (zi_at zh_dX9_readCodes_62_64 5 rfl) (zi_at zh_dX9_readCodes_62_64 6 rfl) rfl
theorem dX9_readCodes_71 : decode cX9_readCodes 71 = .ok (.aload_n 0, 1) := zo_42 (zi_at zh_dX9_readCodes_62_64 7 rfl)
theorem dX9_readCodes_72 : decode cX9_readCodes 72 = .ok (.getfield 27, 3) := zo_180 (zi_at zh_dX9_readCodes_62_64 8 rfl) (zi_at zh_dX9_readCodes_62_64 9 rfl) (zi_at zh_dX9_readCodes_62_64 10 rfl) rfl
theorem dX9_readCodes_75 : decode cX9_readCodes 75 = .ok (.getfield 49, 3) := zo_180 (zi_at zh_dX9_readCodes_62_64 11 rfl) (zi_at zh_dX9_readCodes_62_64 12 rfl) (zi_at zh_dX9_readCodes_62_64 13 rfl) rfl
theorem dX9_readCodes_78 : decode cX9_readCodes 78 = .ok (.iload 4, 2) := zo_21 (zi_at zh_dX9_readCodes_62_64 14 rfl) (zi_at zh_dX9_readCodes_62_64 15 rfl)
theorem dX9_readCodes_80 : decode cX9_readCodes 80 = .ok (.invokevirtual 37, 3) := zo_182 (zi_at zh_dX9_readCodes_80_80 0 rfl) (zi_at zh_dX9_readCodes_80_80 1 rfl) (zi_at zh_dX9_readCodes_80_80 2 rfl) rfl
theorem dX9_readCodes_83 : decode cX9_readCodes 83 = .ok (.checkcast 56, 3) := zo_192 (zi_at zh_dX9_readCodes_80_80 3 rfl) (zi_at zh_dX9_readCodes_80_80 4 rfl) (zi_at zh_dX9_readCodes_80_80 5 rfl) rfl
theorem dX9_readCodes_86 : decode cX9_readCodes 86 = .ok (.astore 5, 2) := zo_58 (zi_at zh_dX9_readCodes_80_80 6 rfl) (zi_at zh_dX9_readCodes_80_80 7 rfl)
theorem dX9_readCodes_88 : decode cX9_readCodes 88 = .ok (.aload 5, 2) := zo_25 (zi_at zh_dX9_readCodes_80_80 8 rfl) (zi_at zh_dX9_readCodes_80_80 9 rfl)
theorem dX9_readCodes_90 : decode cX9_readCodes 90 = .ok (.getfield 58, 3) := zo_180 (zi_at zh_dX9_readCodes_80_80 10 rfl) (zi_at zh_dX9_readCodes_80_80 11 rfl) (zi_at zh_dX9_readCodes_80_80 12 rfl) rfl
theorem dX9_readCodes_93 : decode cX9_readCodes 93 = .ok (.iload_n 1, 1) := zo_27 (zi_at zh_dX9_readCodes_80_80 13 rfl)
theorem dX9_readCodes_94 : decode cX9_readCodes 94 = .ok (.if_icmp .ne 45, 3) := zo_160 (zi_at zh_dX9_readCodes_80_80 14 rfl) (zi_at zh_dX9_readCodes_80_80 15 rfl) (zi_at zh_dX9_readCodes_94_96 0 rfl) rfl
theorem dX9_readCodes_97 : decode cX9_readCodes 97 = .ok (.aload 5, 2) := zo_25 (zi_at zh_dX9_readCodes_94_96 1 rfl) (zi_at zh_dX9_readCodes_94_96 2 rfl)
theorem dX9_readCodes_99 : decode cX9_readCodes 99 = .ok (.getfield 62, 3) := zo_180 (zi_at zh_dX9_readCodes_94_96 3 rfl) (zi_at zh_dX9_readCodes_94_96 4 rfl) (zi_at zh_dX9_readCodes_94_96 5 rfl) rfl
theorem dX9_readCodes_102 : decode cX9_readCodes 102 = .ok (.iload_n 2, 1) := zo_28 (zi_at zh_dX9_readCodes_94_96 6 rfl)
theorem dX9_readCodes_103 : decode cX9_readCodes 103 = .ok (.if_icmp .le 6, 3) := zo_164 (zi_at zh_dX9_readCodes_94_96 7 rfl) (zi_at zh_dX9_readCodes_94_96 8 rfl) (zi_at zh_dX9_readCodes_94_96 9 rfl) rfl
theorem dX9_readCodes_106 : decode cX9_readCodes 106 = .ok (.goto 33, 3) := zo_167 (zi_at zh_dX9_readCodes_94_96 10 rfl) (zi_at zh_dX9_readCodes_94_96 11 rfl) (zi_at zh_dX9_readCodes_94_96 12 rfl) rfl
theorem dX9_readCodes_109 : decode cX9_readCodes 109 = .ok (.aload_n 0, 1) := zo_42 (zi_at zh_dX9_readCodes_94_96 13 rfl)
theorem dX9_readCodes_110 : decode cX9_readCodes 110 = .ok (.getfield 9, 3) := zo_180 (zi_at zh_dX9_readCodes_94_96 14 rfl) (zi_at zh_dX9_readCodes_94_96 15 rfl) (zi_at zh_dX9_readCodes_110_112 0 rfl) rfl
theorem dX9_readCodes_113 : decode cX9_readCodes 113 = .ok (.aload 5, 2) := zo_25 (zi_at zh_dX9_readCodes_110_112 1 rfl) (zi_at zh_dX9_readCodes_110_112 2 rfl)
theorem dX9_readCodes_115 : decode cX9_readCodes 115 = .ok (.getfield 65, 3) := zo_180 (zi_at zh_dX9_readCodes_110_112 3 rfl) (zi_at zh_dX9_readCodes_110_112 4 rfl) (zi_at zh_dX9_readCodes_110_112 5 rfl) rfl
theorem dX9_readCodes_118 : decode cX9_readCodes 118 = .ok (.aload 5, 2) := zo_25 (zi_at zh_dX9_readCodes_110_112 6 rfl) (zi_at zh_dX9_readCodes_110_112 7 rfl)
theorem dX9_readCodes_120 : decode cX9_readCodes 120 = .ok (.getfield 68, 3) := zo_180 (zi_at zh_dX9_readCodes_110_112 8 rfl) (zi_at zh_dX9_readCodes_110_112 9 rfl) (zi_at zh_dX9_readCodes_110_112 10 rfl) rfl
theorem dX9_readCodes_123 : decode cX9_readCodes 123 = .ok (.iastore, 1) := zo_79 (zi_at zh_dX9_readCodes_110_112 11 rfl)
theorem dX9_readCodes_124 : decode cX9_readCodes 124 = .ok (.aload_n 0, 1) := zo_42 (zi_at zh_dX9_readCodes_110_112 12 rfl)
theorem dX9_readCodes_125 : decode cX9_readCodes 125 = .ok (.getfield 15, 3) := zo_180 (zi_at zh_dX9_readCodes_110_112 13 rfl) (zi_at zh_dX9_readCodes_110_112 14 rfl) (zi_at zh_dX9_readCodes_110_112 15 rfl) rfl
theorem dX9_readCodes_128 : decode cX9_readCodes 128 = .ok (.aload 5, 2) := zo_25 (zi_at zh_dX9_readCodes_128_128 0 rfl) (zi_at zh_dX9_readCodes_128_128 1 rfl)
theorem dX9_readCodes_130 : decode cX9_readCodes 130 = .ok (.getfield 65, 3) := zo_180 (zi_at zh_dX9_readCodes_128_128 2 rfl) (zi_at zh_dX9_readCodes_128_128 3 rfl) (zi_at zh_dX9_readCodes_128_128 4 rfl) rfl
theorem dX9_readCodes_133 : decode cX9_readCodes 133 = .ok (.aload 5, 2) := zo_25 (zi_at zh_dX9_readCodes_128_128 5 rfl) (zi_at zh_dX9_readCodes_128_128 6 rfl)
theorem dX9_readCodes_135 : decode cX9_readCodes 135 = .ok (.getfield 71, 3) := zo_180 (zi_at zh_dX9_readCodes_128_128 7 rfl) (zi_at zh_dX9_readCodes_128_128 8 rfl) (zi_at zh_dX9_readCodes_128_128 9 rfl) rfl
theorem dX9_readCodes_138 : decode cX9_readCodes 138 = .ok (.iastore, 1) := zo_79 (zi_at zh_dX9_readCodes_128_128 10 rfl)
theorem dX9_readCodes_139 : decode cX9_readCodes 139 = .ok (.iinc 4 1, 3) := zo_132 (zi_at zh_dX9_readCodes_128_128 11 rfl) (zi_at zh_dX9_readCodes_128_128 12 rfl) (zi_at zh_dX9_readCodes_128_128 13 rfl) rfl
theorem dX9_readCodes_142 : decode cX9_readCodes 142 = .ok (.goto (-86), 3) := zo_167 (zi_at zh_dX9_readCodes_128_128 14 rfl) (zi_at zh_dX9_readCodes_128_128 15 rfl) (zi_at zh_dX9_readCodes_142_144 0 rfl) rfl
theorem dX9_readCodes_145 : decode cX9_readCodes 145 = .ok (.aload_n 0, 1) := zo_42 (zi_at zh_dX9_readCodes_142_144 1 rfl)
theorem dX9_readCodes_146 : decode cX9_readCodes 146 = .ok (.getfield 27, 3) := zo_180 (zi_at zh_dX9_readCodes_142_144 2 rfl) (zi_at zh_dX9_readCodes_142_144 3 rfl) (zi_at zh_dX9_readCodes_142_144 4 rfl) rfl
theorem dX9_readCodes_149 : decode cX9_readCodes 149 = .ok (.iload_n 1, 1) := zo_27 (zi_at zh_dX9_readCodes_142_144 5 rfl)
theorem dX9_readCodes_150 : decode cX9_readCodes 150 = .ok (.iload_n 2, 1) := zo_28 (zi_at zh_dX9_readCodes_142_144 6 rfl)
theorem dX9_readCodes_151 : decode cX9_readCodes 151 = .ok (.invokevirtual 73, 3) := zo_182 (zi_at zh_dX9_readCodes_142_144 7 rfl) (zi_at zh_dX9_readCodes_142_144 8 rfl) (zi_at zh_dX9_readCodes_142_144 9 rfl) rfl
theorem dX9_readCodes_154 : decode cX9_readCodes 154 = .ok (.istore 4, 2) := zo_54 (zi_at zh_dX9_readCodes_142_144 10 rfl) (zi_at zh_dX9_readCodes_142_144 11 rfl)
theorem dX9_readCodes_156 : decode cX9_readCodes 156 = .ok (.iconst 0, 1) := zo_3 (zi_at zh_dX9_readCodes_142_144 12 rfl)
theorem dX9_readCodes_157 : decode cX9_readCodes 157 = .ok (.istore 5, 2) := zo_54 (zi_at zh_dX9_readCodes_142_144 13 rfl) (zi_at zh_dX9_readCodes_142_144 14 rfl)
theorem dX9_readCodes_159 : decode cX9_readCodes 159 = .ok (.iload 5, 2) := zo_21 (zi_at zh_dX9_readCodes_142_144 15 rfl) (zi_at zh_dX9_readCodes_159_160 0 rfl)
theorem dX9_readCodes_161 : decode cX9_readCodes 161 = .ok (.bipush 16, 2) := zo_16 (zi_at zh_dX9_readCodes_159_160 1 rfl) (zi_at zh_dX9_readCodes_159_160 2 rfl) rfl
theorem dX9_readCodes_163 : decode cX9_readCodes 163 = .ok (.if_icmp .ge 27, 3) := zo_162 (zi_at zh_dX9_readCodes_159_160 3 rfl) (zi_at zh_dX9_readCodes_159_160 4 rfl) (zi_at zh_dX9_readCodes_159_160 5 rfl) rfl
theorem dX9_readCodes_166 : decode cX9_readCodes 166 = .ok (.iload 4, 2) := zo_21 (zi_at zh_dX9_readCodes_159_160 6 rfl) (zi_at zh_dX9_readCodes_159_160 7 rfl)
theorem dX9_readCodes_168 : decode cX9_readCodes 168 = .ok (.iload 5, 2) := zo_21 (zi_at zh_dX9_readCodes_159_160 8 rfl) (zi_at zh_dX9_readCodes_159_160 9 rfl)
theorem dX9_readCodes_170 : decode cX9_readCodes 170 = .ok (.ishr, 1) := zo_122 (zi_at zh_dX9_readCodes_159_160 10 rfl)
theorem dX9_readCodes_171 : decode cX9_readCodes 171 = .ok (.iconst 1, 1) := zo_4 (zi_at zh_dX9_readCodes_159_160 11 rfl)
theorem dX9_readCodes_172 : decode cX9_readCodes 172 = .ok (.iand, 1) := zo_126 (zi_at zh_dX9_readCodes_159_160 12 rfl)
theorem dX9_readCodes_173 : decode cX9_readCodes 173 = .ok (.ifCond .eq 11, 3) := zo_153 (zi_at zh_dX9_readCodes_159_160 13 rfl) (zi_at zh_dX9_readCodes_159_160 14 rfl) (zi_at zh_dX9_readCodes_159_160 15 rfl) rfl
theorem dX9_readCodes_176 : decode cX9_readCodes 176 = .ok (.aload_n 0, 1) := zo_42 (zi_at zh_dX9_readCodes_176_176 0 rfl)
theorem dX9_readCodes_177 : decode cX9_readCodes 177 = .ok (.getfield 9, 3) := zo_180 (zi_at zh_dX9_readCodes_176_176 1 rfl) (zi_at zh_dX9_readCodes_176_176 2 rfl) (zi_at zh_dX9_readCodes_176_176 3 rfl) rfl
theorem dX9_readCodes_180 : decode cX9_readCodes 180 = .ok (.iload 5, 2) := zo_21 (zi_at zh_dX9_readCodes_176_176 4 rfl) (zi_at zh_dX9_readCodes_176_176 5 rfl)
theorem dX9_readCodes_182 : decode cX9_readCodes 182 = .ok (.iconst 5, 1) := zo_8 (zi_at zh_dX9_readCodes_176_176 6 rfl)
theorem dX9_readCodes_183 : decode cX9_readCodes 183 = .ok (.iastore, 1) := zo_79 (zi_at zh_dX9_readCodes_176_176 7 rfl)
theorem dX9_readCodes_184 : decode cX9_readCodes 184 = .ok (.iinc 5 1, 3) := zo_132 (zi_at zh_dX9_readCodes_176_176 8 rfl) (zi_at zh_dX9_readCodes_176_176 9 rfl) (zi_at zh_dX9_readCodes_176_176 10 rfl) rfl
theorem dX9_readCodes_187 : decode cX9_readCodes 187 = .ok (.goto (-28), 3) := zo_167 (zi_at zh_dX9_readCodes_176_176 11 rfl) (zi_at zh_dX9_readCodes_176_176 12 rfl) (zi_at zh_dX9_readCodes_176_176 13 rfl) rfl
theorem dX9_readCodes_190 : decode cX9_readCodes 190 = .ok (.return_, 1) := zo_177 (zi_at zh_dX9_readCodes_176_176 14 rfl)
theorem dX12_coded_0 : decode cX12_coded 0 = .ok (.aload_n 0, 1) := zo_42 (zi_at zh_dX12_coded_0_0 0 rfl)
theorem dX12_coded_1 : decode cX12_coded 1 = .ok (.getfield 10, 3) := zo_180 (zi_at zh_dX12_coded_0_0 1 rfl) (zi_at zh_dX12_coded_0_0 2 rfl) (zi_at zh_dX12_coded_0_0 3 rfl) rfl
theorem dX12_coded_4 : decode cX12_coded 4 = .ok (.iload_n 1, 1) := zo_27 (zi_at zh_dX12_coded_0_0 4 rfl)
theorem dX12_coded_5 : decode cX12_coded 5 = .ok (.iload_n 3, 1) := zo_29 (zi_at zh_dX12_coded_0_0 5 rfl)
theorem dX12_coded_6 : decode cX12_coded 6 = .ok (.invokevirtual 162, 3) := zo_182 (zi_at zh_dX12_coded_0_0 6 rfl) (zi_at zh_dX12_coded_0_0 7 rfl) (zi_at zh_dX12_coded_0_0 8 rfl) rfl
theorem dX12_coded_9 : decode cX12_coded 9 = .ok (.ifCond .eq 14, 3) := zo_153 (zi_at zh_dX12_coded_0_0 9 rfl) (zi_at zh_dX12_coded_0_0 10 rfl) (zi_at zh_dX12_coded_0_0 11 rfl) rfl
theorem dX12_coded_12 : decode cX12_coded 12 = .ok (.aload_n 0, 1) := zo_42 (zi_at zh_dX12_coded_0_0 12 rfl)
theorem dX12_coded_13 : decode cX12_coded 13 = .ok (.getfield 10, 3) := zo_180 (zi_at zh_dX12_coded_0_0 13 rfl) (zi_at zh_dX12_coded_0_0 14 rfl) (zi_at zh_dX12_coded_0_0 15 rfl) rfl
theorem dX12_coded_16 : decode cX12_coded 16 = .ok (.iload_n 2, 1) := zo_28 (zi_at zh_dX12_coded_16_16 0 rfl)
theorem dX12_coded_17 : decode cX12_coded 17 = .ok (.invokevirtual 66, 3) := zo_182 (zi_at zh_dX12_coded_16_16 1 rfl) (zi_at zh_dX12_coded_16_16 2 rfl) (zi_at zh_dX12_coded_16_16 3 rfl) rfl
theorem dX12_coded_20 : decode cX12_coded 20 = .ok (.ifCond .ne 5, 3) := zo_154 (zi_at zh_dX12_coded_16_16 4 rfl) (zi_at zh_dX12_coded_16_16 5 rfl) (zi_at zh_dX12_coded_16_16 6 rfl) rfl
theorem dX12_coded_23 : decode cX12_coded 23 = .ok (.iconst (-1), 1) := zo_2 (zi_at zh_dX12_coded_16_16 7 rfl)
theorem dX12_coded_24 : decode cX12_coded 24 = .ok (.ireturn, 1) := zo_172 (zi_at zh_dX12_coded_16_16 8 rfl)
theorem dX12_coded_25 : decode cX12_coded 25 = .ok (.aload_n 0, 1) := zo_42 (zi_at zh_dX12_coded_16_16 9 rfl)
theorem dX12_coded_26 : decode cX12_coded 26 = .ok (.getfield 28, 3) := zo_180 (zi_at zh_dX12_coded_16_16 10 rfl) (zi_at zh_dX12_coded_16_16 11 rfl) (zi_at zh_dX12_coded_16_16 12 rfl) rfl
theorem dX12_coded_29 : decode cX12_coded 29 = .ok (.iload_n 1, 1) := zo_27 (zi_at zh_dX12_coded_16_16 13 rfl)
theorem dX12_coded_30 : decode cX12_coded 30 = .ok (.iload_n 3, 1) := zo_29 (zi_at zh_dX12_coded_16_16 14 rfl)
theorem dX12_coded_31 : decode cX12_coded 31 = .ok (.invokevirtual 165, 3) := zo_182 (zi_at zh_dX12_coded_16_16 15 rfl) (zi_at zh_dX12_coded_31_32 0 rfl) (zi_at zh_dX12_coded_31_32 1 rfl) rfl
theorem dX12_coded_34 : decode cX12_coded 34 = .ok (.aload_n 0, 1) := zo_42 (zi_at zh_dX12_coded_31_32 2 rfl)
theorem dX12_coded_35 : decode cX12_coded 35 = .ok (.getfield 28, 3) := zo_180 (zi_at zh_dX12_coded_31_32 3 rfl) (zi_at zh_dX12_coded_31_32 4 rfl) (zi_at zh_dX12_coded_31_32 5 rfl) rfl
theorem dX12_coded_38 : decode cX12_coded 38 = .ok (.getfield 169, 3) := zo_180 (zi_at zh_dX12_coded_31_32 6 rfl) (zi_at zh_dX12_coded_31_32 7 rfl) (zi_at zh_dX12_coded_31_32 8 rfl) rfl
theorem dX12_coded_41 : decode cX12_coded 41 = .ok (.iload_n 2, 1) := zo_28 (zi_at zh_dX12_coded_31_32 9 rfl)
theorem dX12_coded_42 : decode cX12_coded 42 = .ok (.iaload, 1) := zo_46 (zi_at zh_dX12_coded_31_32 10 rfl)
theorem dX12_coded_43 : decode cX12_coded 43 = .ok (.ireturn, 1) := zo_172 (zi_at zh_dX12_coded_31_32 11 rfl)
theorem dX12_count_0 : decode cX12_count 0 = .ok (.iload_n 1, 1) := zo_27 (zi_at zh_dX12_count_0_0 0 rfl)
theorem dX12_count_1 : decode cX12_count 1 = .ok (.tableswitch 165 0 10 #[59, 67, 75, 86, 97, 108, 119, 130, 141, 149, 157], 59) := by decide +kernel
theorem dX12_count_60 : decode cX12_count 60 = .ok (.aload_n 0, 1) := zo_42 (zi_at zh_dX12_count_60_48 12 rfl)
theorem dX12_count_61 : decode cX12_count 61 = .ok (.getfield 10, 3) := zo_180 (zi_at zh_dX12_count_60_48 13 rfl) (zi_at zh_dX12_count_60_48 14 rfl) (zi_at zh_dX12_count_60_48 15 rfl) rfl
theorem dX12_count_64 : decode cX12_count 64 = .ok (.getfield 55, 3) := zo_180 (zi_at zh_dX12_count_64_64 0 rfl) (zi_at zh_dX12_count_64_64 1 rfl) (zi_at zh_dX12_count_64_64 2 rfl) rfl
theorem dX12_count_67 : decode cX12_count 67 = .ok (.ireturn, 1) := zo_172 (zi_at zh_dX12_count_64_64 3 rfl)
theorem dX12_count_68 : decode cX12_count 68 = .ok (.aload_n 0, 1) := zo_42 (zi_at zh_dX12_count_64_64 4 rfl)
theorem dX12_count_69 : decode cX12_count 69 = .ok (.getfield 10, 3) := zo_180 (zi_at zh_dX12_count_64_64 5 rfl) (zi_at zh_dX12_count_64_64 6 rfl) (zi_at zh_dX12_count_64_64 7 rfl) rfl
theorem dX12_count_72 : decode cX12_count 72 = .ok (.getfield 63, 3) := zo_180 (zi_at zh_dX12_count_64_64 8 rfl) (zi_at zh_dX12_count_64_64 9 rfl) (zi_at zh_dX12_count_64_64 10 rfl) rfl
theorem dX12_count_75 : decode cX12_count 75 = .ok (.ireturn, 1) := zo_172 (zi_at zh_dX12_count_64_64 11 rfl)
theorem dX12_count_76 : decode cX12_count 76 = .ok (.aload_n 0, 1) := zo_42 (zi_at zh_dX12_count_64_64 12 rfl)
theorem dX12_count_77 : decode cX12_count 77 = .ok (.getfield 10, 3) := zo_180 (zi_at zh_dX12_count_64_64 13 rfl) (zi_at zh_dX12_count_64_64 14 rfl) (zi_at zh_dX12_count_64_64 15 rfl) rfl
theorem dX12_count_80 : decode cX12_count 80 = .ok (.getfield 73, 3) := zo_180 (zi_at zh_dX12_count_80_80 0 rfl) (zi_at zh_dX12_count_80_80 1 rfl) (zi_at zh_dX12_count_80_80 2 rfl) rfl
theorem dX12_count_83 : decode cX12_count 83 = .ok (.invokevirtual 77, 3) := zo_182 (zi_at zh_dX12_count_80_80 3 rfl) (zi_at zh_dX12_count_80_80 4 rfl) (zi_at zh_dX12_count_80_80 5 rfl) rfl
theorem dX12_count_86 : decode cX12_count 86 = .ok (.ireturn, 1) := zo_172 (zi_at zh_dX12_count_80_80 6 rfl)
theorem dX12_count_87 : decode cX12_count 87 = .ok (.aload_n 0, 1) := zo_42 (zi_at zh_dX12_count_80_80 7 rfl)
theorem dX12_count_88 : decode cX12_count 88 = .ok (.getfield 10, 3) := zo_180 (zi_at zh_dX12_count_80_80 8 rfl) (zi_at zh_dX12_count_80_80 9 rfl) (zi_at zh_dX12_count_80_80 10 rfl) rfl
theorem dX12_count_91 : decode cX12_count 91 = .ok (.getfield 113, 3) := zo_180 (zi_at zh_dX12_count_80_80 11 rfl) (zi_at zh_dX12_count_80_80 12 rfl) (zi_at zh_dX12_count_80_80 13 rfl) rfl
theorem dX12_count_94 : decode cX12_count 94 = .ok (.invokevirtual 77, 3) := zo_182 (zi_at zh_dX12_count_80_80 14 rfl) (zi_at zh_dX12_count_80_80 15 rfl) (zi_at zh_dX12_count_94_96 0 rfl) rfl
theorem dX12_count_97 : decode cX12_count 97 = .ok (.ireturn, 1) := zo_172 (zi_at zh_dX12_count_94_96 1 rfl)
theorem dX12_count_98 : decode cX12_count 98 = .ok (.aload_n 0, 1) := zo_42 (zi_at zh_dX12_count_94_96 2 rfl)
theorem dX12_count_99 : decode cX12_count 99 = .ok (.getfield 10, 3) := zo_180 (zi_at zh_dX12_count_94_96 3 rfl) (zi_at zh_dX12_count_94_96 4 rfl) (zi_at zh_dX12_count_94_96 5 rfl) rfl
theorem dX12_count_102 : decode cX12_count 102 = .ok (.getfield 127, 3) := zo_180 (zi_at zh_dX12_count_94_96 6 rfl) (zi_at zh_dX12_count_94_96 7 rfl) (zi_at zh_dX12_count_94_96 8 rfl) rfl
theorem dX12_count_105 : decode cX12_count 105 = .ok (.invokevirtual 77, 3) := zo_182 (zi_at zh_dX12_count_94_96 9 rfl) (zi_at zh_dX12_count_94_96 10 rfl) (zi_at zh_dX12_count_94_96 11 rfl) rfl
theorem dX12_count_108 : decode cX12_count 108 = .ok (.ireturn, 1) := zo_172 (zi_at zh_dX12_count_94_96 12 rfl)
theorem dX12_count_109 : decode cX12_count 109 = .ok (.aload_n 0, 1) := zo_42 (zi_at zh_dX12_count_94_96 13 rfl)
theorem dX12_count_110 : decode cX12_count 110 = .ok (.getfield 10, 3) := zo_180 (zi_at zh_dX12_count_94_96 14 rfl) (zi_at zh_dX12_count_94_96 15 rfl) (zi_at zh_dX12_count_110_112 0 rfl) rfl
theorem dX12_count_113 : decode cX12_count 113 = .ok (.getfield 154, 3) := zo_180 (zi_at zh_dX12_count_110_112 1 rfl) (zi_at zh_dX12_count_110_112 2 rfl) (zi_at zh_dX12_count_110_112 3 rfl) rfl
theorem dX12_count_116 : decode cX12_count 116 = .ok (.invokevirtual 77, 3) := zo_182 (zi_at zh_dX12_count_110_112 4 rfl) (zi_at zh_dX12_count_110_112 5 rfl) (zi_at zh_dX12_count_110_112 6 rfl) rfl
theorem dX12_count_119 : decode cX12_count 119 = .ok (.ireturn, 1) := zo_172 (zi_at zh_dX12_count_110_112 7 rfl)
theorem dX12_count_120 : decode cX12_count 120 = .ok (.aload_n 0, 1) := zo_42 (zi_at zh_dX12_count_110_112 8 rfl)
theorem dX12_count_121 : decode cX12_count 121 = .ok (.getfield 10, 3) := zo_180 (zi_at zh_dX12_count_110_112 9 rfl) (zi_at zh_dX12_count_110_112 10 rfl) (zi_at zh_dX12_count_110_112 11 rfl) rfl
theorem dX12_count_124 : decode cX12_count 124 = .ok (.getfield 209, 3) := zo_180 (zi_at zh_dX12_count_110_112 12 rfl) (zi_at zh_dX12_count_110_112 13 rfl) (zi_at zh_dX12_count_110_112 14 rfl) rfl
theorem dX12_count_127 : decode cX12_count 127 = .ok (.invokevirtual 77, 3) := zo_182 (zi_at zh_dX12_count_110_112 15 rfl) (zi_at zh_dX12_count_127_128 0 rfl) (zi_at zh_dX12_count_127_128 1 rfl) rfl
theorem dX12_count_130 : decode cX12_count 130 = .ok (.ireturn, 1) := zo_172 (zi_at zh_dX12_count_127_128 2 rfl)
theorem dX12_count_131 : decode cX12_count 131 = .ok (.aload_n 0, 1) := zo_42 (zi_at zh_dX12_count_127_128 3 rfl)
theorem dX12_count_132 : decode cX12_count 132 = .ok (.getfield 10, 3) := zo_180 (zi_at zh_dX12_count_127_128 4 rfl) (zi_at zh_dX12_count_127_128 5 rfl) (zi_at zh_dX12_count_127_128 6 rfl) rfl
theorem dX12_count_135 : decode cX12_count 135 = .ok (.getfield 220, 3) := zo_180 (zi_at zh_dX12_count_127_128 7 rfl) (zi_at zh_dX12_count_127_128 8 rfl) (zi_at zh_dX12_count_127_128 9 rfl) rfl
theorem dX12_count_138 : decode cX12_count 138 = .ok (.invokevirtual 77, 3) := zo_182 (zi_at zh_dX12_count_127_128 10 rfl) (zi_at zh_dX12_count_127_128 11 rfl) (zi_at zh_dX12_count_127_128 12 rfl) rfl
theorem dX12_count_141 : decode cX12_count 141 = .ok (.ireturn, 1) := zo_172 (zi_at zh_dX12_count_127_128 13 rfl)
theorem dX12_count_142 : decode cX12_count 142 = .ok (.aload_n 0, 1) := zo_42 (zi_at zh_dX12_count_127_128 14 rfl)
theorem dX12_count_143 : decode cX12_count 143 = .ok (.getfield 19, 3) := zo_180 (zi_at zh_dX12_count_127_128 15 rfl) (zi_at zh_dX12_count_143_144 0 rfl) (zi_at zh_dX12_count_143_144 1 rfl) rfl
theorem dX12_count_146 : decode cX12_count 146 = .ok (.getfield 103, 3) := zo_180 (zi_at zh_dX12_count_143_144 2 rfl) (zi_at zh_dX12_count_143_144 3 rfl) (zi_at zh_dX12_count_143_144 4 rfl) rfl
theorem dX12_count_149 : decode cX12_count 149 = .ok (.ireturn, 1) := zo_172 (zi_at zh_dX12_count_143_144 5 rfl)
theorem dX12_count_150 : decode cX12_count 150 = .ok (.aload_n 0, 1) := zo_42 (zi_at zh_dX12_count_143_144 6 rfl)
theorem dX12_count_151 : decode cX12_count 151 = .ok (.getfield 10, 3) := zo_180 (zi_at zh_dX12_count_143_144 7 rfl) (zi_at zh_dX12_count_143_144 8 rfl) (zi_at zh_dX12_count_143_144 9 rfl) rfl
theorem dX12_count_154 : decode cX12_count 154 = .ok (.getfield 181, 3) := zo_180 (zi_at zh_dX12_count_143_144 10 rfl) (zi_at zh_dX12_count_143_144 11 rfl) (zi_at zh_dX12_count_143_144 12 rfl) rfl
theorem dX12_count_157 : decode cX12_count 157 = .ok (.ireturn, 1) := zo_172 (zi_at zh_dX12_count_143_144 13 rfl)
theorem dX12_count_158 : decode cX12_count 158 = .ok (.aload_n 0, 1) := zo_42 (zi_at zh_dX12_count_143_144 14 rfl)
theorem dX12_count_159 : decode cX12_count 159 = .ok (.getfield 10, 3) := zo_180 (zi_at zh_dX12_count_143_144 15 rfl) (zi_at zh_dX12_count_159_160 0 rfl) (zi_at zh_dX12_count_159_160 1 rfl) rfl
theorem dX12_count_162 : decode cX12_count 162 = .ok (.invokevirtual 328, 3) := zo_182 (zi_at zh_dX12_count_159_160 2 rfl) (zi_at zh_dX12_count_159_160 3 rfl) (zi_at zh_dX12_count_159_160 4 rfl) rfl
theorem dX12_count_165 : decode cX12_count 165 = .ok (.ireturn, 1) := zo_172 (zi_at zh_dX12_count_159_160 5 rfl)
theorem dX12_count_166 : decode cX12_count 166 = .ok (.iconst (-1), 1) := zo_2 (zi_at zh_dX12_count_159_160 6 rfl)
theorem dX12_count_167 : decode cX12_count 167 = .ok (.ireturn, 1) := zo_172 (zi_at zh_dX12_count_159_160 7 rfl)
theorem hz_yX4_guiltyIn_1 : yX4_guiltyIn.cls ≠ "java/lang/invoke/MethodHandle" ∧ yX4_guiltyIn.cls ≠ "java/lang/invoke/VarHandle" ∧ (parseMethodDescriptor yX4_guiltyIn.desc).map (fun d => d.parameters.length) = some 1 := by decide +kernel
theorem hz_yX0_disqualifiedIn_2 : yX0_disqualifiedIn.cls ≠ "java/lang/invoke/MethodHandle" ∧ yX0_disqualifiedIn.cls ≠ "java/lang/invoke/VarHandle" ∧ (parseMethodDescriptor yX0_disqualifiedIn.desc).map (fun d => d.parameters.length) = some 2 := by decide +kernel
theorem hz_yX0_isCounted_2 : yX0_isCounted.cls ≠ "java/lang/invoke/MethodHandle" ∧ yX0_isCounted.cls ≠ "java/lang/invoke/VarHandle" ∧ (parseMethodDescriptor yX0_isCounted.desc).map (fun d => d.parameters.length) = some 2 := by decide +kernel
theorem hz_yX9_readCodes_2 : yX9_readCodes.cls ≠ "java/lang/invoke/MethodHandle" ∧ yX9_readCodes.cls ≠ "java/lang/invoke/VarHandle" ∧ (parseMethodDescriptor yX9_readCodes.desc).map (fun d => d.parameters.length) = some 2 := by decide +kernel
theorem hz_yX0_disqualified_0 : yX0_disqualified.cls ≠ "java/lang/invoke/MethodHandle" ∧ yX0_disqualified.cls ≠ "java/lang/invoke/VarHandle" ∧ (parseMethodDescriptor yX0_disqualified.desc).map (fun d => d.parameters.length) = some 0 := by decide +kernel

def v_guiltyInX : List Cond := .code yX4_guiltyIn cX4_guiltyIn 2 (some .int) :: vA
abbrev rm_guiltyInX : Room := { frames := 0, cells := 0, slots := 0, locals := 0 }
set_option maxHeartbeats 4000000 in
set_option maxRecDepth 100000 in
theorem q_guiltyInX (l : Launch) (dC : Nat → ClassId) (dI : Nat → Nat → Nat) (cT : Nat → ClassId) (cf : Nat → Nat) (hC : CF cf) (ad : Nat → Nat) (E : Nat → va_E) (sz : Nat) (a0 : Int32) (i : Nat) (hI0 : IXL cT (shC cf) (spC cf) (LC cf) ad E) (hh0 : i < cf 5) : Met l yX4_guiltyIn v_guiltyInX rm_guiltyInX (va_Pc [.ref (ad (64 * (i + 1) + 14)), .int a0] (HWL dC dI (TYC cT) cf ad E sz)) (va_Qi (S := Unit) (fun r _ => (0 ≤ r.toInt ∧ r.toInt ≤ 3) ∧ (r.toInt = gC E i a0.toInt)) (fun _ _ => True) (fun _ => False)) 0 0 (fun _ => False) := by
  obtain ⟨⟨hc0, hc1, hc2, hc3, hc4, hc5⟩, hcr⟩ := id hC
  refine Met.ofW (cc := cX4_guiltyIn) (maxL := 2) (ret := (some .int)) (by decide) rfl ?_
  intro p e s m args below meth c s₁ B hml hv
  obtain ⟨hargs, hsz, hP, hK, hD0, hEV⟩ := hv
  subst hsz
  have hx := B.exec
  have hb := B.bytes
  have hr := B.returns
  have hts := atoms_spec (ws := v_guiltyInX) B.pre
  have hown : s.vm.findClass RX4 = some m.cls := findClass_of_methodNamed B.named
  have hlocks := B.notSynchronized
  have hinX4 : ∀ w ∈ u_ws RX4 TX4 10, w ∈ v_guiltyInX := fun w h => vA_in _ w (in_X4 w h)
  have hS : va_S (fun _ : Nat => False) s.heap s.heap [] := va_S.rf
  have hD := hD0
  have hI := hI0
  have hKp : Kp (wl [] []) E E := Kp.rf
  have hl := lv_entry ([.ref (ad (64 * (i + 1) + 14)), .int a0]) (n := 2) (Nat.le_of_ble_eq_true rfl)
  obtain ⟨Q, hQ⟩ : ∃ Q, Q = MQ below (va_Qi (S := Unit) (fun r _ => (0 ≤ r.toInt ∧ r.toInt ≤ 3) ∧ (r.toInt = gC E i a0.toInt)) (fun _ _ => True) (fun _ => False)) args s 0 0 (fun _ => False) := ⟨_, rfl⟩
  rw [← hQ, show entryFrame m args 2 = _ from (congrArg (fun z => entryFrame m z 2) hargs).trans (lg_entry_eq _ _ _)]
  generalize (lg_sl ([.ref (ad (64 * (i + 1) + 14)), .int a0]) ++ List.replicate (2 - (lg_sl ([.ref (ad (64 * (i + 1) + 14)), .int a0])).length) Slot.unset).toArray = ls at hl ⊢
  have hl : lv_has ls 2 [(0, .ref (ad (64 * (i + 1) + 14))), (1, .int a0)] := hl
  refine lv_aload_n hx hb dX4_guiltyIn_0 rfl (lv_at hl 0 rfl) ?_
  have i1 : -1 ≤ (xi (E (64 * (i + 1) + 14)) 8).toInt ∧ (xi (E (64 * (i + 1) + 14)) 8).toInt ≤ 400 := hI0.iv (64 * (i + 1) + 14) (mP 14 i (by decide) hh0 (kl_le hC 5 (by decide))) (shC_p 14 i (by decide)) (Nat.le_of_ble_eq_true rfl) (spC_p 14 i (by decide) 8)
  refine th_getL (ci := 5) (C := RX4) (T := TX4) (N := 10) (v := .int (xi (E (64 * (i + 1) + 14)) 8)) hx hb hts hinX4 hown hK hP hI (64 * (i + 1) + 14) (mP 14 i (by decide) hh0 (kl_le hC 5 (by decide))) (shC_p 14 i (by decide)) rfl 8 (Nat.le_of_ble_eq_true rfl) (hts _ (vA_in _ _ (in_5 _ (zs16 (zs1 (zs1 (zs0))))))) (fun _ h9 => h9) (th_v0L hKp hI0 (64 * (i + 1) + 14) (mP 14 i (by decide) hh0 (kl_le hC 5 (by decide))) (shC_p 14 i (by decide)) (Nat.le_of_ble_eq_true rfl) (spC_p 14 i (by decide) 8) (wl_p rfl rfl (by omega))) dX4_guiltyIn_1 ?_
  refine lv_iconst (v := -1) hx hb dX4_guiltyIn_4 (by decide) ?_
  refine lv_icmp_eq (tgt := 21) hx hb dX4_guiltyIn_5 (by decide) (fun c2 => ?_) (fun c2 => ?_)
  · --5 taken
    have t3 : (xi (E (64 * (i + 1) + 14)) 8).toInt = -1 := ti_eq c2
    have i4 : -1 ≤ (xi (E (64 * (i + 1) + 14)) 8).toInt ∧ (xi (E (64 * (i + 1) + 14)) 8).toInt ≤ -1 := iv_eqi t3 i1 (il_ (-1)) (by decide)
    refine lv_aload_n hx hb dX4_guiltyIn_21 rfl (lv_at hl 0 rfl) ?_
    have i5 : -1 ≤ (xi (E (64 * (i + 1) + 14)) 7).toInt ∧ (xi (E (64 * (i + 1) + 14)) 7).toInt ≤ 400 := hI0.iv (64 * (i + 1) + 14) (mP 14 i (by decide) hh0 (kl_le hC 5 (by decide))) (shC_p 14 i (by decide)) (Nat.le_of_ble_eq_true rfl) (spC_p 14 i (by decide) 7)
    refine th_getL (ci := 5) (C := RX4) (T := TX4) (N := 10) (v := .int (xi (E (64 * (i + 1) + 14)) 7)) hx hb hts hinX4 hown hK hP hI (64 * (i + 1) + 14) (mP 14 i (by decide) hh0 (kl_le hC 5 (by decide))) (shC_p 14 i (by decide)) rfl 7 (Nat.le_of_ble_eq_true rfl) (hts _ (vA_in _ _ (in_5 _ (zs16 (zs4 (zs0)))))) (fun _ h9 => h9) (th_v0L hKp hI0 (64 * (i + 1) + 14) (mP 14 i (by decide) hh0 (kl_le hC 5 (by decide))) (shC_p 14 i (by decide)) (Nat.le_of_ble_eq_true rfl) (spC_p 14 i (by decide) 7) (wl_p rfl rfl (by omega))) dX4_guiltyIn_22 ?_
    refine lv_iconst (v := -1) hx hb dX4_guiltyIn_25 (by decide) ?_
    refine lv_icmp_eq (tgt := 39) hx hb dX4_guiltyIn_26 (by decide) (fun c6 => ?_) (fun c6 => ?_)
    · --26 taken
      have t7 : (xi (E (64 * (i + 1) + 14)) 7).toInt = -1 := ti_eq c6
      have i8 : -1 ≤ (xi (E (64 * (i + 1) + 14)) 7).toInt ∧ (xi (E (64 * (i + 1) + 14)) 7).toInt ≤ -1 := iv_eqi t7 i5 (il_ (-1)) (by decide)
      refine lv_aload_n hx hb dX4_guiltyIn_39 rfl (lv_at hl 0 rfl) ?_
      have i9 : -1 ≤ (xi (E (64 * (i + 1) + 14)) 5).toInt ∧ (xi (E (64 * (i + 1) + 14)) 5).toInt ≤ 400 := hI0.iv (64 * (i + 1) + 14) (mP 14 i (by decide) hh0 (kl_le hC 5 (by decide))) (shC_p 14 i (by decide)) (Nat.le_of_ble_eq_true rfl) (spC_p 14 i (by decide) 5)
      refine th_getL (ci := 5) (C := RX4) (T := TX4) (N := 10) (v := .int (xi (E (64 * (i + 1) + 14)) 5)) hx hb hts hinX4 hown hK hP hI (64 * (i + 1) + 14) (mP 14 i (by decide) hh0 (kl_le hC 5 (by decide))) (shC_p 14 i (by decide)) rfl 5 (Nat.le_of_ble_eq_true rfl) (hts _ (vA_in _ _ (in_5 _ (zs16 (zs4 (zs1 (zs0))))))) (fun _ h9 => h9) (th_v0L hKp hI0 (64 * (i + 1) + 14) (mP 14 i (by decide) hh0 (kl_le hC 5 (by decide))) (shC_p 14 i (by decide)) (Nat.le_of_ble_eq_true rfl) (spC_p 14 i (by decide) 5) (wl_p rfl rfl (by omega))) dX4_guiltyIn_40 ?_
      refine lv_iconst (v := -1) hx hb dX4_guiltyIn_43 (by decide) ?_
      refine lv_icmp_eq (tgt := 62) hx hb dX4_guiltyIn_44 (by decide) (fun c10 => ?_) (fun c10 => ?_)
      · --44 taken
        have t11 : (xi (E (64 * (i + 1) + 14)) 5).toInt = -1 := ti_eq c10
        have i12 : -1 ≤ (xi (E (64 * (i + 1) + 14)) 5).toInt ∧ (xi (E (64 * (i + 1) + 14)) 5).toInt ≤ -1 := iv_eqi t11 i9 (il_ (-1)) (by decide)
        refine lv_iconst (v := 0) hx hb dX4_guiltyIn_62 (by decide) ?_
        rw [hQ]
        exact W.iret (v := 0) hx hb hr (fun t ht hW => ⟨⟨0, (), rfl, ⟨(iv_w ln_0 (by decide)), (by have h9 : 0 = gC E i a0.toInt := gCe_4 (e := pA E i) (q := a0.toInt) (show ¬ (¬ (xi (E (64 * (i + 1) + 14)) 8).toInt = -1 ∧ (xi (E (64 * (i + 1) + 14)) 8).toInt ≤ a0.toInt) by omega) (show ¬ (¬ (xi (E (64 * (i + 1) + 14)) 7).toInt = -1 ∧ (xi (E (64 * (i + 1) + 14)) 7).toInt ≤ a0.toInt) by omega) (show ¬ (¬ (xi (E (64 * (i + 1) + 14)) 5).toInt = -1 ∧ (xi (E (64 * (i + 1) + 14)) 5).toInt ≤ a0.toInt) by omega); have z9 := ln_0; omega)⟩, trivial⟩, hS.F ht⟩) hS.2.2 dX4_guiltyIn_63
      · --44 not
        have t13 : ¬ (xi (E (64 * (i + 1) + 14)) 5).toInt = -1 := ti_ne c10
        have i14 : 0 ≤ (xi (E (64 * (i + 1) + 14)) 5).toInt ∧ (xi (E (64 * (i + 1) + 14)) 5).toInt ≤ 400 := iv_ne_l t13 i9 (il_ (-1))
        refine lv_aload_n hx hb dX4_guiltyIn_47 rfl (lv_at hl 0 rfl) ?_
        refine th_getL (ci := 5) (C := RX4) (T := TX4) (N := 10) (v := .int (xi (E (64 * (i + 1) + 14)) 5)) hx hb hts hinX4 hown hK hP hI (64 * (i + 1) + 14) (mP 14 i (by decide) hh0 (kl_le hC 5 (by decide))) (shC_p 14 i (by decide)) rfl 5 (Nat.le_of_ble_eq_true rfl) (hts _ (vA_in _ _ (in_5 _ (zs16 (zs4 (zs1 (zs0))))))) (fun _ h9 => h9) (th_v0L hKp hI0 (64 * (i + 1) + 14) (mP 14 i (by decide) hh0 (kl_le hC 5 (by decide))) (shC_p 14 i (by decide)) (Nat.le_of_ble_eq_true rfl) (spC_p 14 i (by decide) 5) (wl_p rfl rfl (by omega))) dX4_guiltyIn_48 ?_
        refine lv_iload_n hx hb dX4_guiltyIn_51 rfl (lv_at hl 1 rfl) ?_
        refine lv_icmp_gt (tgt := 62) hx hb dX4_guiltyIn_52 (by decide) (fun c15 => ?_) (fun c15 => ?_)
        · --52 taken
          have t16 : a0.toInt < (xi (E (64 * (i + 1) + 14)) 5).toInt := ti_lt c15
          have i17 : -2147483648 ≤ a0.toInt ∧ a0.toInt ≤ 399 := iv_lt_l t16 (iv_all _) i14 (by decide)
          refine lv_iconst (v := 0) hx hb dX4_guiltyIn_62 (by decide) ?_
          rw [hQ]
          exact W.iret (v := 0) hx hb hr (fun t ht hW => ⟨⟨0, (), rfl, ⟨(iv_w ln_0 (by decide)), (by have h9 : 0 = gC E i a0.toInt := gCe_4 (e := pA E i) (q := a0.toInt) (show ¬ (¬ (xi (E (64 * (i + 1) + 14)) 8).toInt = -1 ∧ (xi (E (64 * (i + 1) + 14)) 8).toInt ≤ a0.toInt) by omega) (show ¬ (¬ (xi (E (64 * (i + 1) + 14)) 7).toInt = -1 ∧ (xi (E (64 * (i + 1) + 14)) 7).toInt ≤ a0.toInt) by omega) (show ¬ (¬ (xi (E (64 * (i + 1) + 14)) 5).toInt = -1 ∧ (xi (E (64 * (i + 1) + 14)) 5).toInt ≤ a0.toInt) by omega); have z9 := ln_0; omega)⟩, trivial⟩, hS.F ht⟩) hS.2.2 dX4_guiltyIn_63
        · --52 not
          have t18 : (xi (E (64 * (i + 1) + 14)) 5).toInt ≤ a0.toInt := ti_nlt c15
          have i19 : 0 ≤ a0.toInt ∧ a0.toInt ≤ 2147483647 := iv_le_r t18 i14 (iv_all _) (by decide)
          refine lv_aload_n hx hb dX4_guiltyIn_55 rfl (lv_at hl 0 rfl) ?_
          have i20 : 0 ≤ (xi (E (64 * (i + 1) + 14)) 6).toInt ∧ (xi (E (64 * (i + 1) + 14)) 6).toInt ≤ 3 := hI0.iv (64 * (i + 1) + 14) (mP 14 i (by decide) hh0 (kl_le hC 5 (by decide))) (shC_p 14 i (by decide)) (Nat.le_of_ble_eq_true rfl) (spC_p 14 i (by decide) 6)
          refine th_getL (ci := 5) (C := RX4) (T := TX4) (N := 10) (v := .int (xi (E (64 * (i + 1) + 14)) 6)) hx hb hts hinX4 hown hK hP hI (64 * (i + 1) + 14) (mP 14 i (by decide) hh0 (kl_le hC 5 (by decide))) (shC_p 14 i (by decide)) rfl 6 (Nat.le_of_ble_eq_true rfl) (hts _ (vA_in _ _ (in_5 _ (zs16 (zs4 (zs1 (zs1 (zs0)))))))) (fun _ h9 => h9) (th_v0L hKp hI0 (64 * (i + 1) + 14) (mP 14 i (by decide) hh0 (kl_le hC 5 (by decide))) (shC_p 14 i (by decide)) (Nat.le_of_ble_eq_true rfl) (spC_p 14 i (by decide) 6) (wl_p rfl rfl (by omega))) dX4_guiltyIn_56 ?_
          refine lv_goto (tgt := 63) hx hb dX4_guiltyIn_59 (by decide) ?_
          rw [hQ]
          exact W.iret (v := (xi (E (64 * (i + 1) + 14)) 6)) hx hb hr (fun t ht hW => ⟨⟨(xi (E (64 * (i + 1) + 14)) 6), (), rfl, ⟨i20, (by have h9 : (xi (E (64 * (i + 1) + 14)) 6).toInt = gC E i a0.toInt := gCe_3 (e := pA E i) (q := a0.toInt) (show ¬ (¬ (xi (E (64 * (i + 1) + 14)) 8).toInt = -1 ∧ (xi (E (64 * (i + 1) + 14)) 8).toInt ≤ a0.toInt) by omega) (show ¬ (¬ (xi (E (64 * (i + 1) + 14)) 7).toInt = -1 ∧ (xi (E (64 * (i + 1) + 14)) 7).toInt ≤ a0.toInt) by omega) (show ¬ (xi (E (64 * (i + 1) + 14)) 5).toInt = -1 ∧ (xi (E (64 * (i + 1) + 14)) 5).toInt ≤ a0.toInt from ⟨by omega, by omega⟩); omega)⟩, trivial⟩, hS.F ht⟩) hS.2.2 dX4_guiltyIn_63
    · --26 not
      have t21 : ¬ (xi (E (64 * (i + 1) + 14)) 7).toInt = -1 := ti_ne c6
      have i22 : 0 ≤ (xi (E (64 * (i + 1) + 14)) 7).toInt ∧ (xi (E (64 * (i + 1) + 14)) 7).toInt ≤ 400 := iv_ne_l t21 i5 (il_ (-1))
      refine lv_aload_n hx hb dX4_guiltyIn_29 rfl (lv_at hl 0 rfl) ?_
      refine th_getL (ci := 5) (C := RX4) (T := TX4) (N := 10) (v := .int (xi (E (64 * (i + 1) + 14)) 7)) hx hb hts hinX4 hown hK hP hI (64 * (i + 1) + 14) (mP 14 i (by decide) hh0 (kl_le hC 5 (by decide))) (shC_p 14 i (by decide)) rfl 7 (Nat.le_of_ble_eq_true rfl) (hts _ (vA_in _ _ (in_5 _ (zs16 (zs4 (zs0)))))) (fun _ h9 => h9) (th_v0L hKp hI0 (64 * (i + 1) + 14) (mP 14 i (by decide) hh0 (kl_le hC 5 (by decide))) (shC_p 14 i (by decide)) (Nat.le_of_ble_eq_true rfl) (spC_p 14 i (by decide) 7) (wl_p rfl rfl (by omega))) dX4_guiltyIn_30 ?_
      refine lv_iload_n hx hb dX4_guiltyIn_33 rfl (lv_at hl 1 rfl) ?_
      refine lv_icmp_gt (tgt := 39) hx hb dX4_guiltyIn_34 (by decide) (fun c23 => ?_) (fun c23 => ?_)
      · --34 taken
        have t24 : a0.toInt < (xi (E (64 * (i + 1) + 14)) 7).toInt := ti_lt c23
        have i25 : -2147483648 ≤ a0.toInt ∧ a0.toInt ≤ 399 := iv_lt_l t24 (iv_all _) i22 (by decide)
        refine lv_aload_n hx hb dX4_guiltyIn_39 rfl (lv_at hl 0 rfl) ?_
        have i26 : -1 ≤ (xi (E (64 * (i + 1) + 14)) 5).toInt ∧ (xi (E (64 * (i + 1) + 14)) 5).toInt ≤ 400 := hI0.iv (64 * (i + 1) + 14) (mP 14 i (by decide) hh0 (kl_le hC 5 (by decide))) (shC_p 14 i (by decide)) (Nat.le_of_ble_eq_true rfl) (spC_p 14 i (by decide) 5)
        refine th_getL (ci := 5) (C := RX4) (T := TX4) (N := 10) (v := .int (xi (E (64 * (i + 1) + 14)) 5)) hx hb hts hinX4 hown hK hP hI (64 * (i + 1) + 14) (mP 14 i (by decide) hh0 (kl_le hC 5 (by decide))) (shC_p 14 i (by decide)) rfl 5 (Nat.le_of_ble_eq_true rfl) (hts _ (vA_in _ _ (in_5 _ (zs16 (zs4 (zs1 (zs0))))))) (fun _ h9 => h9) (th_v0L hKp hI0 (64 * (i + 1) + 14) (mP 14 i (by decide) hh0 (kl_le hC 5 (by decide))) (shC_p 14 i (by decide)) (Nat.le_of_ble_eq_true rfl) (spC_p 14 i (by decide) 5) (wl_p rfl rfl (by omega))) dX4_guiltyIn_40 ?_
        refine lv_iconst (v := -1) hx hb dX4_guiltyIn_43 (by decide) ?_
        refine lv_icmp_eq (tgt := 62) hx hb dX4_guiltyIn_44 (by decide) (fun c27 => ?_) (fun c27 => ?_)
        · --44 taken
          have t28 : (xi (E (64 * (i + 1) + 14)) 5).toInt = -1 := ti_eq c27
          have i29 : -1 ≤ (xi (E (64 * (i + 1) + 14)) 5).toInt ∧ (xi (E (64 * (i + 1) + 14)) 5).toInt ≤ -1 := iv_eqi t28 i26 (il_ (-1)) (by decide)
          refine lv_iconst (v := 0) hx hb dX4_guiltyIn_62 (by decide) ?_
          rw [hQ]
          exact W.iret (v := 0) hx hb hr (fun t ht hW => ⟨⟨0, (), rfl, ⟨(iv_w ln_0 (by decide)), (by have h9 : 0 = gC E i a0.toInt := gCe_4 (e := pA E i) (q := a0.toInt) (show ¬ (¬ (xi (E (64 * (i + 1) + 14)) 8).toInt = -1 ∧ (xi (E (64 * (i + 1) + 14)) 8).toInt ≤ a0.toInt) by omega) (show ¬ (¬ (xi (E (64 * (i + 1) + 14)) 7).toInt = -1 ∧ (xi (E (64 * (i + 1) + 14)) 7).toInt ≤ a0.toInt) by omega) (show ¬ (¬ (xi (E (64 * (i + 1) + 14)) 5).toInt = -1 ∧ (xi (E (64 * (i + 1) + 14)) 5).toInt ≤ a0.toInt) by omega); have z9 := ln_0; omega)⟩, trivial⟩, hS.F ht⟩) hS.2.2 dX4_guiltyIn_63
        · --44 not
          have t30 : ¬ (xi (E (64 * (i + 1) + 14)) 5).toInt = -1 := ti_ne c27
          have i31 : 0 ≤ (xi (E (64 * (i + 1) + 14)) 5).toInt ∧ (xi (E (64 * (i + 1) + 14)) 5).toInt ≤ 400 := iv_ne_l t30 i26 (il_ (-1))
          refine lv_aload_n hx hb dX4_guiltyIn_47 rfl (lv_at hl 0 rfl) ?_
          refine th_getL (ci := 5) (C := RX4) (T := TX4) (N := 10) (v := .int (xi (E (64 * (i + 1) + 14)) 5)) hx hb hts hinX4 hown hK hP hI (64 * (i + 1) + 14) (mP 14 i (by decide) hh0 (kl_le hC 5 (by decide))) (shC_p 14 i (by decide)) rfl 5 (Nat.le_of_ble_eq_true rfl) (hts _ (vA_in _ _ (in_5 _ (zs16 (zs4 (zs1 (zs0))))))) (fun _ h9 => h9) (th_v0L hKp hI0 (64 * (i + 1) + 14) (mP 14 i (by decide) hh0 (kl_le hC 5 (by decide))) (shC_p 14 i (by decide)) (Nat.le_of_ble_eq_true rfl) (spC_p 14 i (by decide) 5) (wl_p rfl rfl (by omega))) dX4_guiltyIn_48 ?_
          refine lv_iload_n hx hb dX4_guiltyIn_51 rfl (lv_at hl 1 rfl) ?_
          refine lv_icmp_gt (tgt := 62) hx hb dX4_guiltyIn_52 (by decide) (fun c32 => ?_) (fun c32 => ?_)
          · --52 taken
            have t33 : a0.toInt < (xi (E (64 * (i + 1) + 14)) 5).toInt := ti_lt c32
            refine lv_iconst (v := 0) hx hb dX4_guiltyIn_62 (by decide) ?_
            rw [hQ]
            exact W.iret (v := 0) hx hb hr (fun t ht hW => ⟨⟨0, (), rfl, ⟨(iv_w ln_0 (by decide)), (by have h9 : 0 = gC E i a0.toInt := gCe_4 (e := pA E i) (q := a0.toInt) (show ¬ (¬ (xi (E (64 * (i + 1) + 14)) 8).toInt = -1 ∧ (xi (E (64 * (i + 1) + 14)) 8).toInt ≤ a0.toInt) by omega) (show ¬ (¬ (xi (E (64 * (i + 1) + 14)) 7).toInt = -1 ∧ (xi (E (64 * (i + 1) + 14)) 7).toInt ≤ a0.toInt) by omega) (show ¬ (¬ (xi (E (64 * (i + 1) + 14)) 5).toInt = -1 ∧ (xi (E (64 * (i + 1) + 14)) 5).toInt ≤ a0.toInt) by omega); have z9 := ln_0; omega)⟩, trivial⟩, hS.F ht⟩) hS.2.2 dX4_guiltyIn_63
          · --52 not
            have t34 : (xi (E (64 * (i + 1) + 14)) 5).toInt ≤ a0.toInt := ti_nlt c32
            have i35 : 0 ≤ (xi (E (64 * (i + 1) + 14)) 5).toInt ∧ (xi (E (64 * (i + 1) + 14)) 5).toInt ≤ 399 := iv_le_l t34 i31 i25 (by decide)
            have i36 : 0 ≤ a0.toInt ∧ a0.toInt ≤ 399 := iv_le_r t34 i31 i25 (by decide)
            refine lv_aload_n hx hb dX4_guiltyIn_55 rfl (lv_at hl 0 rfl) ?_
            have i37 : 0 ≤ (xi (E (64 * (i + 1) + 14)) 6).toInt ∧ (xi (E (64 * (i + 1) + 14)) 6).toInt ≤ 3 := hI0.iv (64 * (i + 1) + 14) (mP 14 i (by decide) hh0 (kl_le hC 5 (by decide))) (shC_p 14 i (by decide)) (Nat.le_of_ble_eq_true rfl) (spC_p 14 i (by decide) 6)
            refine th_getL (ci := 5) (C := RX4) (T := TX4) (N := 10) (v := .int (xi (E (64 * (i + 1) + 14)) 6)) hx hb hts hinX4 hown hK hP hI (64 * (i + 1) + 14) (mP 14 i (by decide) hh0 (kl_le hC 5 (by decide))) (shC_p 14 i (by decide)) rfl 6 (Nat.le_of_ble_eq_true rfl) (hts _ (vA_in _ _ (in_5 _ (zs16 (zs4 (zs1 (zs1 (zs0)))))))) (fun _ h9 => h9) (th_v0L hKp hI0 (64 * (i + 1) + 14) (mP 14 i (by decide) hh0 (kl_le hC 5 (by decide))) (shC_p 14 i (by decide)) (Nat.le_of_ble_eq_true rfl) (spC_p 14 i (by decide) 6) (wl_p rfl rfl (by omega))) dX4_guiltyIn_56 ?_
            refine lv_goto (tgt := 63) hx hb dX4_guiltyIn_59 (by decide) ?_
            rw [hQ]
            exact W.iret (v := (xi (E (64 * (i + 1) + 14)) 6)) hx hb hr (fun t ht hW => ⟨⟨(xi (E (64 * (i + 1) + 14)) 6), (), rfl, ⟨i37, (by have h9 : (xi (E (64 * (i + 1) + 14)) 6).toInt = gC E i a0.toInt := gCe_3 (e := pA E i) (q := a0.toInt) (show ¬ (¬ (xi (E (64 * (i + 1) + 14)) 8).toInt = -1 ∧ (xi (E (64 * (i + 1) + 14)) 8).toInt ≤ a0.toInt) by omega) (show ¬ (¬ (xi (E (64 * (i + 1) + 14)) 7).toInt = -1 ∧ (xi (E (64 * (i + 1) + 14)) 7).toInt ≤ a0.toInt) by omega) (show ¬ (xi (E (64 * (i + 1) + 14)) 5).toInt = -1 ∧ (xi (E (64 * (i + 1) + 14)) 5).toInt ≤ a0.toInt from ⟨by omega, by omega⟩); omega)⟩, trivial⟩, hS.F ht⟩) hS.2.2 dX4_guiltyIn_63
      · --34 not
        have t38 : (xi (E (64 * (i + 1) + 14)) 7).toInt ≤ a0.toInt := ti_nlt c23
        have i39 : 0 ≤ a0.toInt ∧ a0.toInt ≤ 2147483647 := iv_le_r t38 i22 (iv_all _) (by decide)
        refine lv_iconst (v := 0) hx hb dX4_guiltyIn_37 (by decide) ?_
        rw [hQ]
        exact W.iret (v := 0) hx hb hr (fun t ht hW => ⟨⟨0, (), rfl, ⟨(iv_w ln_0 (by decide)), (by have h9 : 0 = gC E i a0.toInt := gCe_2 (e := pA E i) (q := a0.toInt) (show ¬ (¬ (xi (E (64 * (i + 1) + 14)) 8).toInt = -1 ∧ (xi (E (64 * (i + 1) + 14)) 8).toInt ≤ a0.toInt) by omega) (show ¬ (xi (E (64 * (i + 1) + 14)) 7).toInt = -1 ∧ (xi (E (64 * (i + 1) + 14)) 7).toInt ≤ a0.toInt from ⟨by omega, by omega⟩); have z9 := ln_0; omega)⟩, trivial⟩, hS.F ht⟩) hS.2.2 dX4_guiltyIn_38
  · --5 not
    have t40 : ¬ (xi (E (64 * (i + 1) + 14)) 8).toInt = -1 := ti_ne c2
    have i41 : 0 ≤ (xi (E (64 * (i + 1) + 14)) 8).toInt ∧ (xi (E (64 * (i + 1) + 14)) 8).toInt ≤ 400 := iv_ne_l t40 i1 (il_ (-1))
    refine lv_aload_n hx hb dX4_guiltyIn_8 rfl (lv_at hl 0 rfl) ?_
    refine th_getL (ci := 5) (C := RX4) (T := TX4) (N := 10) (v := .int (xi (E (64 * (i + 1) + 14)) 8)) hx hb hts hinX4 hown hK hP hI (64 * (i + 1) + 14) (mP 14 i (by decide) hh0 (kl_le hC 5 (by decide))) (shC_p 14 i (by decide)) rfl 8 (Nat.le_of_ble_eq_true rfl) (hts _ (vA_in _ _ (in_5 _ (zs16 (zs1 (zs1 (zs0))))))) (fun _ h9 => h9) (th_v0L hKp hI0 (64 * (i + 1) + 14) (mP 14 i (by decide) hh0 (kl_le hC 5 (by decide))) (shC_p 14 i (by decide)) (Nat.le_of_ble_eq_true rfl) (spC_p 14 i (by decide) 8) (wl_p rfl rfl (by omega))) dX4_guiltyIn_9 ?_
    refine lv_iload_n hx hb dX4_guiltyIn_12 rfl (lv_at hl 1 rfl) ?_
    refine lv_icmp_gt (tgt := 21) hx hb dX4_guiltyIn_13 (by decide) (fun c42 => ?_) (fun c42 => ?_)
    · --13 taken
      have t43 : a0.toInt < (xi (E (64 * (i + 1) + 14)) 8).toInt := ti_lt c42
      have i44 : -2147483648 ≤ a0.toInt ∧ a0.toInt ≤ 399 := iv_lt_l t43 (iv_all _) i41 (by decide)
      refine lv_aload_n hx hb dX4_guiltyIn_21 rfl (lv_at hl 0 rfl) ?_
      have i45 : -1 ≤ (xi (E (64 * (i + 1) + 14)) 7).toInt ∧ (xi (E (64 * (i + 1) + 14)) 7).toInt ≤ 400 := hI0.iv (64 * (i + 1) + 14) (mP 14 i (by decide) hh0 (kl_le hC 5 (by decide))) (shC_p 14 i (by decide)) (Nat.le_of_ble_eq_true rfl) (spC_p 14 i (by decide) 7)
      refine th_getL (ci := 5) (C := RX4) (T := TX4) (N := 10) (v := .int (xi (E (64 * (i + 1) + 14)) 7)) hx hb hts hinX4 hown hK hP hI (64 * (i + 1) + 14) (mP 14 i (by decide) hh0 (kl_le hC 5 (by decide))) (shC_p 14 i (by decide)) rfl 7 (Nat.le_of_ble_eq_true rfl) (hts _ (vA_in _ _ (in_5 _ (zs16 (zs4 (zs0)))))) (fun _ h9 => h9) (th_v0L hKp hI0 (64 * (i + 1) + 14) (mP 14 i (by decide) hh0 (kl_le hC 5 (by decide))) (shC_p 14 i (by decide)) (Nat.le_of_ble_eq_true rfl) (spC_p 14 i (by decide) 7) (wl_p rfl rfl (by omega))) dX4_guiltyIn_22 ?_
      refine lv_iconst (v := -1) hx hb dX4_guiltyIn_25 (by decide) ?_
      refine lv_icmp_eq (tgt := 39) hx hb dX4_guiltyIn_26 (by decide) (fun c46 => ?_) (fun c46 => ?_)
      · --26 taken
        have t47 : (xi (E (64 * (i + 1) + 14)) 7).toInt = -1 := ti_eq c46
        have i48 : -1 ≤ (xi (E (64 * (i + 1) + 14)) 7).toInt ∧ (xi (E (64 * (i + 1) + 14)) 7).toInt ≤ -1 := iv_eqi t47 i45 (il_ (-1)) (by decide)
        refine lv_aload_n hx hb dX4_guiltyIn_39 rfl (lv_at hl 0 rfl) ?_
        have i49 : -1 ≤ (xi (E (64 * (i + 1) + 14)) 5).toInt ∧ (xi (E (64 * (i + 1) + 14)) 5).toInt ≤ 400 := hI0.iv (64 * (i + 1) + 14) (mP 14 i (by decide) hh0 (kl_le hC 5 (by decide))) (shC_p 14 i (by decide)) (Nat.le_of_ble_eq_true rfl) (spC_p 14 i (by decide) 5)
        refine th_getL (ci := 5) (C := RX4) (T := TX4) (N := 10) (v := .int (xi (E (64 * (i + 1) + 14)) 5)) hx hb hts hinX4 hown hK hP hI (64 * (i + 1) + 14) (mP 14 i (by decide) hh0 (kl_le hC 5 (by decide))) (shC_p 14 i (by decide)) rfl 5 (Nat.le_of_ble_eq_true rfl) (hts _ (vA_in _ _ (in_5 _ (zs16 (zs4 (zs1 (zs0))))))) (fun _ h9 => h9) (th_v0L hKp hI0 (64 * (i + 1) + 14) (mP 14 i (by decide) hh0 (kl_le hC 5 (by decide))) (shC_p 14 i (by decide)) (Nat.le_of_ble_eq_true rfl) (spC_p 14 i (by decide) 5) (wl_p rfl rfl (by omega))) dX4_guiltyIn_40 ?_
        refine lv_iconst (v := -1) hx hb dX4_guiltyIn_43 (by decide) ?_
        refine lv_icmp_eq (tgt := 62) hx hb dX4_guiltyIn_44 (by decide) (fun c50 => ?_) (fun c50 => ?_)
        · --44 taken
          have t51 : (xi (E (64 * (i + 1) + 14)) 5).toInt = -1 := ti_eq c50
          have i52 : -1 ≤ (xi (E (64 * (i + 1) + 14)) 5).toInt ∧ (xi (E (64 * (i + 1) + 14)) 5).toInt ≤ -1 := iv_eqi t51 i49 (il_ (-1)) (by decide)
          refine lv_iconst (v := 0) hx hb dX4_guiltyIn_62 (by decide) ?_
          rw [hQ]
          exact W.iret (v := 0) hx hb hr (fun t ht hW => ⟨⟨0, (), rfl, ⟨(iv_w ln_0 (by decide)), (by have h9 : 0 = gC E i a0.toInt := gCe_4 (e := pA E i) (q := a0.toInt) (show ¬ (¬ (xi (E (64 * (i + 1) + 14)) 8).toInt = -1 ∧ (xi (E (64 * (i + 1) + 14)) 8).toInt ≤ a0.toInt) by omega) (show ¬ (¬ (xi (E (64 * (i + 1) + 14)) 7).toInt = -1 ∧ (xi (E (64 * (i + 1) + 14)) 7).toInt ≤ a0.toInt) by omega) (show ¬ (¬ (xi (E (64 * (i + 1) + 14)) 5).toInt = -1 ∧ (xi (E (64 * (i + 1) + 14)) 5).toInt ≤ a0.toInt) by omega); have z9 := ln_0; omega)⟩, trivial⟩, hS.F ht⟩) hS.2.2 dX4_guiltyIn_63
        · --44 not
          have t53 : ¬ (xi (E (64 * (i + 1) + 14)) 5).toInt = -1 := ti_ne c50
          have i54 : 0 ≤ (xi (E (64 * (i + 1) + 14)) 5).toInt ∧ (xi (E (64 * (i + 1) + 14)) 5).toInt ≤ 400 := iv_ne_l t53 i49 (il_ (-1))
          refine lv_aload_n hx hb dX4_guiltyIn_47 rfl (lv_at hl 0 rfl) ?_
          refine th_getL (ci := 5) (C := RX4) (T := TX4) (N := 10) (v := .int (xi (E (64 * (i + 1) + 14)) 5)) hx hb hts hinX4 hown hK hP hI (64 * (i + 1) + 14) (mP 14 i (by decide) hh0 (kl_le hC 5 (by decide))) (shC_p 14 i (by decide)) rfl 5 (Nat.le_of_ble_eq_true rfl) (hts _ (vA_in _ _ (in_5 _ (zs16 (zs4 (zs1 (zs0))))))) (fun _ h9 => h9) (th_v0L hKp hI0 (64 * (i + 1) + 14) (mP 14 i (by decide) hh0 (kl_le hC 5 (by decide))) (shC_p 14 i (by decide)) (Nat.le_of_ble_eq_true rfl) (spC_p 14 i (by decide) 5) (wl_p rfl rfl (by omega))) dX4_guiltyIn_48 ?_
          refine lv_iload_n hx hb dX4_guiltyIn_51 rfl (lv_at hl 1 rfl) ?_
          refine lv_icmp_gt (tgt := 62) hx hb dX4_guiltyIn_52 (by decide) (fun c55 => ?_) (fun c55 => ?_)
          · --52 taken
            have t56 : a0.toInt < (xi (E (64 * (i + 1) + 14)) 5).toInt := ti_lt c55
            refine lv_iconst (v := 0) hx hb dX4_guiltyIn_62 (by decide) ?_
            rw [hQ]
            exact W.iret (v := 0) hx hb hr (fun t ht hW => ⟨⟨0, (), rfl, ⟨(iv_w ln_0 (by decide)), (by have h9 : 0 = gC E i a0.toInt := gCe_4 (e := pA E i) (q := a0.toInt) (show ¬ (¬ (xi (E (64 * (i + 1) + 14)) 8).toInt = -1 ∧ (xi (E (64 * (i + 1) + 14)) 8).toInt ≤ a0.toInt) by omega) (show ¬ (¬ (xi (E (64 * (i + 1) + 14)) 7).toInt = -1 ∧ (xi (E (64 * (i + 1) + 14)) 7).toInt ≤ a0.toInt) by omega) (show ¬ (¬ (xi (E (64 * (i + 1) + 14)) 5).toInt = -1 ∧ (xi (E (64 * (i + 1) + 14)) 5).toInt ≤ a0.toInt) by omega); have z9 := ln_0; omega)⟩, trivial⟩, hS.F ht⟩) hS.2.2 dX4_guiltyIn_63
          · --52 not
            have t57 : (xi (E (64 * (i + 1) + 14)) 5).toInt ≤ a0.toInt := ti_nlt c55
            have i58 : 0 ≤ (xi (E (64 * (i + 1) + 14)) 5).toInt ∧ (xi (E (64 * (i + 1) + 14)) 5).toInt ≤ 399 := iv_le_l t57 i54 i44 (by decide)
            have i59 : 0 ≤ a0.toInt ∧ a0.toInt ≤ 399 := iv_le_r t57 i54 i44 (by decide)
            refine lv_aload_n hx hb dX4_guiltyIn_55 rfl (lv_at hl 0 rfl) ?_
            have i60 : 0 ≤ (xi (E (64 * (i + 1) + 14)) 6).toInt ∧ (xi (E (64 * (i + 1) + 14)) 6).toInt ≤ 3 := hI0.iv (64 * (i + 1) + 14) (mP 14 i (by decide) hh0 (kl_le hC 5 (by decide))) (shC_p 14 i (by decide)) (Nat.le_of_ble_eq_true rfl) (spC_p 14 i (by decide) 6)
            refine th_getL (ci := 5) (C := RX4) (T := TX4) (N := 10) (v := .int (xi (E (64 * (i + 1) + 14)) 6)) hx hb hts hinX4 hown hK hP hI (64 * (i + 1) + 14) (mP 14 i (by decide) hh0 (kl_le hC 5 (by decide))) (shC_p 14 i (by decide)) rfl 6 (Nat.le_of_ble_eq_true rfl) (hts _ (vA_in _ _ (in_5 _ (zs16 (zs4 (zs1 (zs1 (zs0)))))))) (fun _ h9 => h9) (th_v0L hKp hI0 (64 * (i + 1) + 14) (mP 14 i (by decide) hh0 (kl_le hC 5 (by decide))) (shC_p 14 i (by decide)) (Nat.le_of_ble_eq_true rfl) (spC_p 14 i (by decide) 6) (wl_p rfl rfl (by omega))) dX4_guiltyIn_56 ?_
            refine lv_goto (tgt := 63) hx hb dX4_guiltyIn_59 (by decide) ?_
            rw [hQ]
            exact W.iret (v := (xi (E (64 * (i + 1) + 14)) 6)) hx hb hr (fun t ht hW => ⟨⟨(xi (E (64 * (i + 1) + 14)) 6), (), rfl, ⟨i60, (by have h9 : (xi (E (64 * (i + 1) + 14)) 6).toInt = gC E i a0.toInt := gCe_3 (e := pA E i) (q := a0.toInt) (show ¬ (¬ (xi (E (64 * (i + 1) + 14)) 8).toInt = -1 ∧ (xi (E (64 * (i + 1) + 14)) 8).toInt ≤ a0.toInt) by omega) (show ¬ (¬ (xi (E (64 * (i + 1) + 14)) 7).toInt = -1 ∧ (xi (E (64 * (i + 1) + 14)) 7).toInt ≤ a0.toInt) by omega) (show ¬ (xi (E (64 * (i + 1) + 14)) 5).toInt = -1 ∧ (xi (E (64 * (i + 1) + 14)) 5).toInt ≤ a0.toInt from ⟨by omega, by omega⟩); omega)⟩, trivial⟩, hS.F ht⟩) hS.2.2 dX4_guiltyIn_63
      · --26 not
        have t61 : ¬ (xi (E (64 * (i + 1) + 14)) 7).toInt = -1 := ti_ne c46
        have i62 : 0 ≤ (xi (E (64 * (i + 1) + 14)) 7).toInt ∧ (xi (E (64 * (i + 1) + 14)) 7).toInt ≤ 400 := iv_ne_l t61 i45 (il_ (-1))
        refine lv_aload_n hx hb dX4_guiltyIn_29 rfl (lv_at hl 0 rfl) ?_
        refine th_getL (ci := 5) (C := RX4) (T := TX4) (N := 10) (v := .int (xi (E (64 * (i + 1) + 14)) 7)) hx hb hts hinX4 hown hK hP hI (64 * (i + 1) + 14) (mP 14 i (by decide) hh0 (kl_le hC 5 (by decide))) (shC_p 14 i (by decide)) rfl 7 (Nat.le_of_ble_eq_true rfl) (hts _ (vA_in _ _ (in_5 _ (zs16 (zs4 (zs0)))))) (fun _ h9 => h9) (th_v0L hKp hI0 (64 * (i + 1) + 14) (mP 14 i (by decide) hh0 (kl_le hC 5 (by decide))) (shC_p 14 i (by decide)) (Nat.le_of_ble_eq_true rfl) (spC_p 14 i (by decide) 7) (wl_p rfl rfl (by omega))) dX4_guiltyIn_30 ?_
        refine lv_iload_n hx hb dX4_guiltyIn_33 rfl (lv_at hl 1 rfl) ?_
        refine lv_icmp_gt (tgt := 39) hx hb dX4_guiltyIn_34 (by decide) (fun c63 => ?_) (fun c63 => ?_)
        · --34 taken
          have t64 : a0.toInt < (xi (E (64 * (i + 1) + 14)) 7).toInt := ti_lt c63
          refine lv_aload_n hx hb dX4_guiltyIn_39 rfl (lv_at hl 0 rfl) ?_
          have i65 : -1 ≤ (xi (E (64 * (i + 1) + 14)) 5).toInt ∧ (xi (E (64 * (i + 1) + 14)) 5).toInt ≤ 400 := hI0.iv (64 * (i + 1) + 14) (mP 14 i (by decide) hh0 (kl_le hC 5 (by decide))) (shC_p 14 i (by decide)) (Nat.le_of_ble_eq_true rfl) (spC_p 14 i (by decide) 5)
          refine th_getL (ci := 5) (C := RX4) (T := TX4) (N := 10) (v := .int (xi (E (64 * (i + 1) + 14)) 5)) hx hb hts hinX4 hown hK hP hI (64 * (i + 1) + 14) (mP 14 i (by decide) hh0 (kl_le hC 5 (by decide))) (shC_p 14 i (by decide)) rfl 5 (Nat.le_of_ble_eq_true rfl) (hts _ (vA_in _ _ (in_5 _ (zs16 (zs4 (zs1 (zs0))))))) (fun _ h9 => h9) (th_v0L hKp hI0 (64 * (i + 1) + 14) (mP 14 i (by decide) hh0 (kl_le hC 5 (by decide))) (shC_p 14 i (by decide)) (Nat.le_of_ble_eq_true rfl) (spC_p 14 i (by decide) 5) (wl_p rfl rfl (by omega))) dX4_guiltyIn_40 ?_
          refine lv_iconst (v := -1) hx hb dX4_guiltyIn_43 (by decide) ?_
          refine lv_icmp_eq (tgt := 62) hx hb dX4_guiltyIn_44 (by decide) (fun c66 => ?_) (fun c66 => ?_)
          · --44 taken
            have t67 : (xi (E (64 * (i + 1) + 14)) 5).toInt = -1 := ti_eq c66
            have i68 : -1 ≤ (xi (E (64 * (i + 1) + 14)) 5).toInt ∧ (xi (E (64 * (i + 1) + 14)) 5).toInt ≤ -1 := iv_eqi t67 i65 (il_ (-1)) (by decide)
            refine lv_iconst (v := 0) hx hb dX4_guiltyIn_62 (by decide) ?_
            rw [hQ]
            exact W.iret (v := 0) hx hb hr (fun t ht hW => ⟨⟨0, (), rfl, ⟨(iv_w ln_0 (by decide)), (by have h9 : 0 = gC E i a0.toInt := gCe_4 (e := pA E i) (q := a0.toInt) (show ¬ (¬ (xi (E (64 * (i + 1) + 14)) 8).toInt = -1 ∧ (xi (E (64 * (i + 1) + 14)) 8).toInt ≤ a0.toInt) by omega) (show ¬ (¬ (xi (E (64 * (i + 1) + 14)) 7).toInt = -1 ∧ (xi (E (64 * (i + 1) + 14)) 7).toInt ≤ a0.toInt) by omega) (show ¬ (¬ (xi (E (64 * (i + 1) + 14)) 5).toInt = -1 ∧ (xi (E (64 * (i + 1) + 14)) 5).toInt ≤ a0.toInt) by omega); have z9 := ln_0; omega)⟩, trivial⟩, hS.F ht⟩) hS.2.2 dX4_guiltyIn_63
          · --44 not
            have t69 : ¬ (xi (E (64 * (i + 1) + 14)) 5).toInt = -1 := ti_ne c66
            have i70 : 0 ≤ (xi (E (64 * (i + 1) + 14)) 5).toInt ∧ (xi (E (64 * (i + 1) + 14)) 5).toInt ≤ 400 := iv_ne_l t69 i65 (il_ (-1))
            refine lv_aload_n hx hb dX4_guiltyIn_47 rfl (lv_at hl 0 rfl) ?_
            refine th_getL (ci := 5) (C := RX4) (T := TX4) (N := 10) (v := .int (xi (E (64 * (i + 1) + 14)) 5)) hx hb hts hinX4 hown hK hP hI (64 * (i + 1) + 14) (mP 14 i (by decide) hh0 (kl_le hC 5 (by decide))) (shC_p 14 i (by decide)) rfl 5 (Nat.le_of_ble_eq_true rfl) (hts _ (vA_in _ _ (in_5 _ (zs16 (zs4 (zs1 (zs0))))))) (fun _ h9 => h9) (th_v0L hKp hI0 (64 * (i + 1) + 14) (mP 14 i (by decide) hh0 (kl_le hC 5 (by decide))) (shC_p 14 i (by decide)) (Nat.le_of_ble_eq_true rfl) (spC_p 14 i (by decide) 5) (wl_p rfl rfl (by omega))) dX4_guiltyIn_48 ?_
            refine lv_iload_n hx hb dX4_guiltyIn_51 rfl (lv_at hl 1 rfl) ?_
            refine lv_icmp_gt (tgt := 62) hx hb dX4_guiltyIn_52 (by decide) (fun c71 => ?_) (fun c71 => ?_)
            · --52 taken
              have t72 : a0.toInt < (xi (E (64 * (i + 1) + 14)) 5).toInt := ti_lt c71
              refine lv_iconst (v := 0) hx hb dX4_guiltyIn_62 (by decide) ?_
              rw [hQ]
              exact W.iret (v := 0) hx hb hr (fun t ht hW => ⟨⟨0, (), rfl, ⟨(iv_w ln_0 (by decide)), (by have h9 : 0 = gC E i a0.toInt := gCe_4 (e := pA E i) (q := a0.toInt) (show ¬ (¬ (xi (E (64 * (i + 1) + 14)) 8).toInt = -1 ∧ (xi (E (64 * (i + 1) + 14)) 8).toInt ≤ a0.toInt) by omega) (show ¬ (¬ (xi (E (64 * (i + 1) + 14)) 7).toInt = -1 ∧ (xi (E (64 * (i + 1) + 14)) 7).toInt ≤ a0.toInt) by omega) (show ¬ (¬ (xi (E (64 * (i + 1) + 14)) 5).toInt = -1 ∧ (xi (E (64 * (i + 1) + 14)) 5).toInt ≤ a0.toInt) by omega); have z9 := ln_0; omega)⟩, trivial⟩, hS.F ht⟩) hS.2.2 dX4_guiltyIn_63
            · --52 not
              have t73 : (xi (E (64 * (i + 1) + 14)) 5).toInt ≤ a0.toInt := ti_nlt c71
              have i74 : 0 ≤ (xi (E (64 * (i + 1) + 14)) 5).toInt ∧ (xi (E (64 * (i + 1) + 14)) 5).toInt ≤ 399 := iv_le_l t73 i70 i44 (by decide)
              have i75 : 0 ≤ a0.toInt ∧ a0.toInt ≤ 399 := iv_le_r t73 i70 i44 (by decide)
              refine lv_aload_n hx hb dX4_guiltyIn_55 rfl (lv_at hl 0 rfl) ?_
              have i76 : 0 ≤ (xi (E (64 * (i + 1) + 14)) 6).toInt ∧ (xi (E (64 * (i + 1) + 14)) 6).toInt ≤ 3 := hI0.iv (64 * (i + 1) + 14) (mP 14 i (by decide) hh0 (kl_le hC 5 (by decide))) (shC_p 14 i (by decide)) (Nat.le_of_ble_eq_true rfl) (spC_p 14 i (by decide) 6)
              refine th_getL (ci := 5) (C := RX4) (T := TX4) (N := 10) (v := .int (xi (E (64 * (i + 1) + 14)) 6)) hx hb hts hinX4 hown hK hP hI (64 * (i + 1) + 14) (mP 14 i (by decide) hh0 (kl_le hC 5 (by decide))) (shC_p 14 i (by decide)) rfl 6 (Nat.le_of_ble_eq_true rfl) (hts _ (vA_in _ _ (in_5 _ (zs16 (zs4 (zs1 (zs1 (zs0)))))))) (fun _ h9 => h9) (th_v0L hKp hI0 (64 * (i + 1) + 14) (mP 14 i (by decide) hh0 (kl_le hC 5 (by decide))) (shC_p 14 i (by decide)) (Nat.le_of_ble_eq_true rfl) (spC_p 14 i (by decide) 6) (wl_p rfl rfl (by omega))) dX4_guiltyIn_56 ?_
              refine lv_goto (tgt := 63) hx hb dX4_guiltyIn_59 (by decide) ?_
              rw [hQ]
              exact W.iret (v := (xi (E (64 * (i + 1) + 14)) 6)) hx hb hr (fun t ht hW => ⟨⟨(xi (E (64 * (i + 1) + 14)) 6), (), rfl, ⟨i76, (by have h9 : (xi (E (64 * (i + 1) + 14)) 6).toInt = gC E i a0.toInt := gCe_3 (e := pA E i) (q := a0.toInt) (show ¬ (¬ (xi (E (64 * (i + 1) + 14)) 8).toInt = -1 ∧ (xi (E (64 * (i + 1) + 14)) 8).toInt ≤ a0.toInt) by omega) (show ¬ (¬ (xi (E (64 * (i + 1) + 14)) 7).toInt = -1 ∧ (xi (E (64 * (i + 1) + 14)) 7).toInt ≤ a0.toInt) by omega) (show ¬ (xi (E (64 * (i + 1) + 14)) 5).toInt = -1 ∧ (xi (E (64 * (i + 1) + 14)) 5).toInt ≤ a0.toInt from ⟨by omega, by omega⟩); omega)⟩, trivial⟩, hS.F ht⟩) hS.2.2 dX4_guiltyIn_63
        · --34 not
          have t77 : (xi (E (64 * (i + 1) + 14)) 7).toInt ≤ a0.toInt := ti_nlt c63
          have i78 : 0 ≤ (xi (E (64 * (i + 1) + 14)) 7).toInt ∧ (xi (E (64 * (i + 1) + 14)) 7).toInt ≤ 399 := iv_le_l t77 i62 i44 (by decide)
          have i79 : 0 ≤ a0.toInt ∧ a0.toInt ≤ 399 := iv_le_r t77 i62 i44 (by decide)
          refine lv_iconst (v := 0) hx hb dX4_guiltyIn_37 (by decide) ?_
          rw [hQ]
          exact W.iret (v := 0) hx hb hr (fun t ht hW => ⟨⟨0, (), rfl, ⟨(iv_w ln_0 (by decide)), (by have h9 : 0 = gC E i a0.toInt := gCe_2 (e := pA E i) (q := a0.toInt) (show ¬ (¬ (xi (E (64 * (i + 1) + 14)) 8).toInt = -1 ∧ (xi (E (64 * (i + 1) + 14)) 8).toInt ≤ a0.toInt) by omega) (show ¬ (xi (E (64 * (i + 1) + 14)) 7).toInt = -1 ∧ (xi (E (64 * (i + 1) + 14)) 7).toInt ≤ a0.toInt from ⟨by omega, by omega⟩); have z9 := ln_0; omega)⟩, trivial⟩, hS.F ht⟩) hS.2.2 dX4_guiltyIn_38
    · --13 not
      have t80 : (xi (E (64 * (i + 1) + 14)) 8).toInt ≤ a0.toInt := ti_nlt c42
      have i81 : 0 ≤ a0.toInt ∧ a0.toInt ≤ 2147483647 := iv_le_r t80 i41 (iv_all _) (by decide)
      refine lv_aload_n hx hb dX4_guiltyIn_16 rfl (lv_at hl 0 rfl) ?_
      have i82 : 0 ≤ (xi (E (64 * (i + 1) + 14)) 9).toInt ∧ (xi (E (64 * (i + 1) + 14)) 9).toInt ≤ 3 := hI0.iv (64 * (i + 1) + 14) (mP 14 i (by decide) hh0 (kl_le hC 5 (by decide))) (shC_p 14 i (by decide)) (Nat.le_of_ble_eq_true rfl) (spC_p 14 i (by decide) 9)
      refine th_getL (ci := 5) (C := RX4) (T := TX4) (N := 10) (v := .int (xi (E (64 * (i + 1) + 14)) 9)) hx hb hts hinX4 hown hK hP hI (64 * (i + 1) + 14) (mP 14 i (by decide) hh0 (kl_le hC 5 (by decide))) (shC_p 14 i (by decide)) rfl 9 (Nat.le_of_ble_eq_true rfl) (hts _ (vA_in _ _ (in_5 _ (zs16 (zs1 (zs1 (zs1 (zs0)))))))) (fun _ h9 => h9) (th_v0L hKp hI0 (64 * (i + 1) + 14) (mP 14 i (by decide) hh0 (kl_le hC 5 (by decide))) (shC_p 14 i (by decide)) (Nat.le_of_ble_eq_true rfl) (spC_p 14 i (by decide) 9) (wl_p rfl rfl (by omega))) dX4_guiltyIn_17 ?_
      rw [hQ]
      exact W.iret (v := (xi (E (64 * (i + 1) + 14)) 9)) hx hb hr (fun t ht hW => ⟨⟨(xi (E (64 * (i + 1) + 14)) 9), (), rfl, ⟨i82, (by have h9 : (xi (E (64 * (i + 1) + 14)) 9).toInt = gC E i a0.toInt := gCe_1 (e := pA E i) (q := a0.toInt) (show ¬ (xi (E (64 * (i + 1) + 14)) 8).toInt = -1 ∧ (xi (E (64 * (i + 1) + 14)) 8).toInt ≤ a0.toInt from ⟨by omega, by omega⟩); omega)⟩, trivial⟩, hS.F ht⟩) hS.2.2 dX4_guiltyIn_20
def v_disqualifiedInX : List Cond := .code yX0_disqualifiedIn cX0_disqualifiedIn 7 (some .int) :: vA
abbrev rm_disqualifiedInX : Room := { frames := 3, cells := 0, slots := 0, locals := 120 }
set_option maxHeartbeats 4000000 in
set_option maxRecDepth 100000 in
theorem q_disqualifiedInX (l : Launch) (dC : Nat → ClassId) (dI : Nat → Nat → Nat) (cT : Nat → ClassId) (cf : Nat → Nat) (hC : CF cf) (ad : Nat → Nat) (E : Nat → va_E) (sz : Nat) (a0 : Int32) (a1 : Int32) (hI0 : IXL cT (shC cf) (spC cf) (LC cf) ad E)  : Met l yX0_disqualifiedIn v_disqualifiedInX rm_disqualifiedInX (va_Pc [.ref (ad 1), .int a0, .int a1] (HWL dC dI (TYC cT) cf ad E sz)) (va_Qi (S := Unit) (fun r _ => (0 ≤ r.toInt ∧ r.toInt ≤ 65535) ∧ (DqS E (cf 5) a0.toInt a1.toInt r)) (fun _ _ => True) (fun _ => False)) 0 0 (fun _ => False) := by
  obtain ⟨⟨hc0, hc1, hc2, hc3, hc4, hc5⟩, hcr⟩ := id hC
  refine Met.ofW (cc := cX0_disqualifiedIn) (maxL := 7) (ret := (some .int)) (by decide) rfl ?_
  intro p e s m args below meth c s₁ B hml hv
  obtain ⟨hargs, hsz, hP, hK, hD0, hEV⟩ := hv
  subst hsz
  have hx := B.exec
  have hb := B.bytes
  have hr := B.returns
  have hts := atoms_spec (ws := v_disqualifiedInX) B.pre
  have hown : s.vm.findClass RX0 = some m.cls := findClass_of_methodNamed B.named
  have hlocks := B.notSynchronized
  have hinX0 : ∀ w ∈ u_ws RX0 TX0 11, w ∈ v_disqualifiedInX := fun w h => vA_in _ w (in_X0 w h)
  have hinX4 : ∀ w ∈ u_ws RX4 TX4 10, w ∈ v_disqualifiedInX := fun w h => vA_in _ w (in_X4 w h)
  have hS : va_S (fun _ : Nat => False) s.heap s.heap [] := va_S.rf
  have hD := hD0
  have hI := hI0
  have hKp : Kp (wl [] []) E E := Kp.rf
  have hl := lv_entry ([.ref (ad 1), .int a0, .int a1]) (n := 7) (Nat.le_of_ble_eq_true rfl)
  obtain ⟨Q, hQ⟩ : ∃ Q, Q = MQ below (va_Qi (S := Unit) (fun r _ => (0 ≤ r.toInt ∧ r.toInt ≤ 65535) ∧ (DqS E (cf 5) a0.toInt a1.toInt r)) (fun _ _ => True) (fun _ => False)) args s 0 0 (fun _ => False) := ⟨_, rfl⟩
  rw [← hQ, show entryFrame m args 7 = _ from (congrArg (fun z => entryFrame m z 7) hargs).trans (lg_entry_eq _ _ _)]
  generalize (lg_sl ([.ref (ad 1), .int a0, .int a1]) ++ List.replicate (7 - (lg_sl ([.ref (ad 1), .int a0, .int a1])).length) Slot.unset).toArray = ls at hl ⊢
  have hl : lv_has ls 7 [(0, .ref (ad 1)), (1, .int a0), (2, .int a1)] := hl
  have z0z : (0 : Int32).toInt = 0 := rfl
  refine lv_iconst (v := 0) hx hb dX0_disqualifiedIn_0 (by decide) ?_
  refine lv_istore_n (lv' := [(3, .int 0), (0, .ref (ad 1)), (1, .int a0), (2, .int a1)]) hx hb dX0_disqualifiedIn_1 rfl hl (by decide) rfl (fun ls hl => ?_)
  refine lv_iconst (v := 0) hx hb dX0_disqualifiedIn_2 (by decide) ?_
  refine lv_istore (lv' := [(4, .int 0), (3, .int 0), (0, .ref (ad 1)), (1, .int a0), (2, .int a1)]) hx hb dX0_disqualifiedIn_3 hl (by decide) rfl (fun ls hl => ?_)
  have hL5 : ∀ d : Nat, ∀ (v5_4 : Int32) (v5_3 : Int32) (H : Heap) (locs : List Loc) (ls : Array Slot), 0 ≤ v5_4.toInt ∧ v5_4.toInt ≤ 30 → 0 ≤ v5_3.toInt ∧ v5_3.toInt ≤ 65535 → DqS E v5_4.toNatClampNeg a0.toInt a1.toInt v5_3 → v5_4.toInt ≤ ((cf 5 : Nat) : Int) → 30 - v5_4.toInt < (d : Int) → va_P (dC, dI) vwCl (WL (LC cf) ad E) H → va_S (fun _ : Nat => False) s.heap H locs → lv_has ls 7 [(4, .int v5_4), (3, .int v5_3), (0, .ref (ad 1)), (1, .int a0), (2, .int a1)] → W p l e (headSpec v_disqualifiedInX rm_disqualifiedInX).room s m args below meth c H locs 0 0 Q (F0 m 5 ls []) := by
    intro d
    induction d with
    | zero =>
      intro v5_4 v5_3 H locs ls hv5_4 hv5_3 hx5_0 hx5_1 hx5_2 hP hS hl
      exact absurd hx5_2 (by first | exact ms_zu hv5_4.2 | omega)
    | succ d ih5 =>
      intro v5_4 v5_3 H locs ls hv5_4 hv5_3 hx5_0 hx5_1 hx5_2 hP hS hl
      refine lv_iload hx hb dX0_disqualifiedIn_5 (lv_at hl 0 rfl) ?_
      refine lv_aload_n hx hb dX0_disqualifiedIn_7 rfl (lv_at hl 2 rfl) ?_
      refine th_getL (ci := 1) (C := RX0) (T := TX0) (N := 11) (v := .ref (ad 12)) hx hb hts hinX0 hown hK hP hI 1 (mF 1 rfl) rfl rfl 8 (Nat.le_of_ble_eq_true rfl) (hts _ (vA_in _ _ (in_5 _ (zs4 (zs4 (zs0)))))) (fun _ h9 => h9) (hI.fr 1 (mF 1 rfl) rfl (Nat.le_of_ble_eq_true rfl) 12 rfl) dX0_disqualifiedIn_8 ?_
      refine th_riL (va_runV (As := []) (rest := [.int v5_4]) ⟨hx, hb, hml, hown, hts⟩ (q_size5 l dC dI cT cf hC ad E H.size hI) (cwV 0 hts (gi_V (in_4 _ (zs16 (zs16 (zs1 (zs1 (zs0)))))) (in_4 _ (zs16 (zs16 (zs1 (zs1 (zs1 (zs0))))))) (in_4 _ (zs16 (zs16 (zs4 (zs0))))) (in_3 _ (zs16 (zs1 (zs1 (zs0))))) (in_4 _ (zs16 (zs1 (zs1 (zs1 (zs0))))))) rfl rfl rfl ⟨rfl, hz_yJx4a65c_size_8abf5_0⟩ ⟨Nat.le_of_ble_eq_true rfl, Nat.le_of_ble_eq_true rfl⟩) ⟨HWL_bl, va_recv hK hP (ci := 0) (q0 := posL 12 (LC cf)) rfl (hI.ob 12 (mF 12 rfl) rfl), (HWL_wiR hP hK (WL_D hD) hS hEV)⟩ rfl rfl hl.1 rfl (lv_room (Nat.le_of_ble_eq_true rfl)) dX0_disqualifiedIn_11 ⟨Nat.le_of_ble_eq_true rfl, Nat.le_of_ble_eq_true rfl⟩) hS hP (fun r1 H locs hw hP hS => ?_)
      obtain ⟨f2, f3⟩ := hw
      refine lv_icmp_ge (tgt := 91) hx hb dX0_disqualifiedIn_14 (by decide) (fun c4 => ?_) (fun c4 => ?_)
      · --14 taken
        have t5 : r1.toInt ≤ v5_4.toInt := ti_le c4
        refine lv_iload_n hx hb dX0_disqualifiedIn_91 rfl (lv_at hl 1 rfl) ?_
        rw [hQ]
        exact W.iret (v := v5_3) hx hb hr (fun t ht hW => ⟨⟨v5_3, (), rfl, ⟨hv5_3, (by have h9 := hx5_0; rw [show v5_4.toNatClampNeg = cf 5 by rw [tn_]; omega] at h9; exact h9)⟩, trivial⟩, hS.F ht⟩) hS.2.2 dX0_disqualifiedIn_92
      · --14 not
        have t6 : v5_4.toInt < r1.toInt := ti_nle c4
        have i7 : 0 ≤ v5_4.toInt ∧ v5_4.toInt ≤ 29 := iv_lt_l t6 hv5_4 f2 (by decide)
        have i8 : 1 ≤ r1.toInt ∧ r1.toInt ≤ 30 := iv_lt_r t6 hv5_4 f2 (by decide)
        refine lv_aload_n hx hb dX0_disqualifiedIn_17 rfl (lv_at hl 2 rfl) ?_
        refine th_getL (ci := 1) (C := RX0) (T := TX0) (N := 11) (v := .ref (ad 12)) hx hb hts hinX0 hown hK hP hI 1 (mF 1 rfl) rfl rfl 8 (Nat.le_of_ble_eq_true rfl) (hts _ (vA_in _ _ (in_5 _ (zs4 (zs4 (zs0)))))) (fun _ h9 => h9) (hI.fr 1 (mF 1 rfl) rfl (Nat.le_of_ble_eq_true rfl) 12 rfl) dX0_disqualifiedIn_18 ?_
        refine lv_iload hx hb dX0_disqualifiedIn_21 (lv_at hl 0 rfl) ?_
        refine th_rrL (va_runV (As := [.int v5_4]) (rest := []) ⟨hx, hb, hml, hown, hts⟩ (q_get5 l dC dI cT cf hC ad E H.size v5_4 hI (by omega)) (cwV 1 hts (gi_V (in_4 _ (zs16 (zs16 (zs4 (zs1 (zs0)))))) (in_4 _ (zs16 (zs16 (zs4 (zs1 (zs1 (zs0))))))) (in_4 _ (zs16 (zs16 (zs4 (zs1 (zs1 (zs1 (zs0)))))))) (in_3 _ (zs16 (zs1 (zs1 (zs0))))) (in_3 _ (zs16 (zs16 (zs4 (zs1 (zs1 (zs1 (zs0))))))))) rfl rfl rfl ⟨rfl, hz_yJx4a65c_get_915e3_1⟩ ⟨Nat.le_of_ble_eq_true rfl, Nat.le_of_ble_eq_true rfl⟩) ⟨HWL_bl, va_recv hK hP (ci := 0) (q0 := posL 12 (LC cf)) rfl (hI.ob 12 (mF 12 rfl) rfl), (HWL_wiR hP hK (WL_D hD) hS hEV)⟩ rfl rfl hl.1 rfl (lv_room (Nat.le_of_ble_eq_true rfl)) dX0_disqualifiedIn_23 ⟨Nat.le_of_ble_eq_true rfl, Nat.le_of_ble_eq_true rfl⟩) hS hP (fun r9 H locs hw hP hS => ?_)
        obtain rfl := hw
        have lv10 : v5_4.toNatClampNeg < cf 5 := by rw [tn_]; omega
        refine va_castS (cC := dC 5) hx hb hown (hts _ (vA_in _ _ (in_5 _ (zs4 (zs4 (zs1 (zs0))))))) (hK.1 5 _ rfl).2 (va_recv hK hP (ci := 5) (q0 := posL (64 * (v5_4.toNatClampNeg + 1) + 14) (LC cf)) rfl (hI.ob (64 * (v5_4.toNatClampNeg + 1) + 14) (mP 14 v5_4.toNatClampNeg (by decide) lv10 (kl_le hC 5 (by decide))) (shC_p 14 v5_4.toNatClampNeg (by decide)))) dX0_disqualifiedIn_26 ?_
        refine lv_astore (lv' := [(5, .ref (ad (64 * (v5_4.toNatClampNeg + 1) + 14))), (4, .int v5_4), (3, .int v5_3), (0, .ref (ad 1)), (1, .int a0), (2, .int a1)]) hx hb dX0_disqualifiedIn_29 hl (by decide) rfl (fun ls hl => ?_)
        refine lv_aload hx hb dX0_disqualifiedIn_31 (lv_at hl 0 rfl) ?_
        have j12 : 0 ≤ (xi (E (64 * (v5_4.toNatClampNeg + 1) + 14)) 0).toInt ∧ (xi (E (64 * (v5_4.toNatClampNeg + 1) + 14)) 0).toInt ≤ ((cf 2 : Nat) : Int) - 1 := hI0.iv (64 * (v5_4.toNatClampNeg + 1) + 14) (mP 14 v5_4.toNatClampNeg (by decide) lv10 (kl_le hC 5 (by decide))) (shC_p 14 v5_4.toNatClampNeg (by decide)) (Nat.le_of_ble_eq_true rfl) (spC_p 14 v5_4.toNatClampNeg (by decide) 0)
        have i11 : 0 ≤ (xi (E (64 * (v5_4.toNatClampNeg + 1) + 14)) 0).toInt ∧ (xi (E (64 * (v5_4.toNatClampNeg + 1) + 14)) 0).toInt ≤ 19 := by omega
        refine th_getL (ci := 5) (C := RX4) (T := TX4) (N := 10) (v := .int (xi (E (64 * (v5_4.toNatClampNeg + 1) + 14)) 0)) hx hb hts hinX4 hown hK hP hI (64 * (v5_4.toNatClampNeg + 1) + 14) (mP 14 v5_4.toNatClampNeg (by decide) lv10 (kl_le hC 5 (by decide))) (shC_p 14 v5_4.toNatClampNeg (by decide)) rfl 0 (Nat.le_of_ble_eq_true rfl) (hts _ (vA_in _ _ (in_5 _ (zs4 (zs4 (zs1 (zs1 (zs0)))))))) (fun _ h9 => h9) (th_v0L hKp hI0 (64 * (v5_4.toNatClampNeg + 1) + 14) (mP 14 v5_4.toNatClampNeg (by decide) lv10 (kl_le hC 5 (by decide))) (shC_p 14 v5_4.toNatClampNeg (by decide)) (Nat.le_of_ble_eq_true rfl) (spC_p 14 v5_4.toNatClampNeg (by decide) 0) (wl_p rfl rfl (by omega))) dX0_disqualifiedIn_33 ?_
        refine lv_iload_n hx hb dX0_disqualifiedIn_36 rfl (lv_at hl 4 rfl) ?_
        refine lv_icmp_eq (tgt := 43) hx hb dX0_disqualifiedIn_37 (by decide) (fun c13 => ?_) (fun c13 => ?_)
        · --37 taken
          have t14 : (xi (E (64 * (v5_4.toNatClampNeg + 1) + 14)) 0).toInt = a0.toInt := ti_eq c13
          have i15 : 0 ≤ a0.toInt ∧ a0.toInt ≤ 19 := iv_eqi t14.symm (iv_all _) i11 (by decide)
          refine lv_aload hx hb dX0_disqualifiedIn_43 (lv_at hl 0 rfl) ?_
          refine lv_iload_n hx hb dX0_disqualifiedIn_45 rfl (lv_at hl 5 rfl) ?_
          refine th_riL (va_runV (As := [.int a1]) (rest := []) ⟨hx, hb, hml, hown, hts⟩ (q_guiltyInX l dC dI cT cf hC ad E H.size a1 v5_4.toNatClampNeg hI (by omega)) (cwV 1 hts (gi_V (in_5 _ (zs4 (zs4 (zs4 (zs1 (zs0)))))) (in_5 _ (zs4 (zs4 (zs4 (zs1 (zs1 (zs0))))))) (in_5 _ (zs4 (zs4 (zs4 (zs1 (zs1 (zs1 (zs0)))))))) (in_5 _ (zs16 (zs0))) (in_5 _ (zs16 (zs1 (zs0))))) rfl rfl rfl ⟨rfl, hz_yX4_guiltyIn_1⟩ ⟨Nat.le_of_ble_eq_true rfl, Nat.le_of_ble_eq_true rfl⟩) ⟨HWL_bl, va_recv hK hP (ci := 5) (q0 := posL (64 * (v5_4.toNatClampNeg + 1) + 14) (LC cf)) rfl (hI.ob (64 * (v5_4.toNatClampNeg + 1) + 14) (mP 14 v5_4.toNatClampNeg (by decide) lv10 (kl_le hC 5 (by decide))) (shC_p 14 v5_4.toNatClampNeg (by decide))), (HWL_wiR hP hK (WL_D hD) hS hEV)⟩ rfl rfl hl.1 rfl (lv_room (Nat.le_of_ble_eq_true rfl)) dX0_disqualifiedIn_46 ⟨Nat.le_of_ble_eq_true rfl, Nat.le_of_ble_eq_true rfl⟩) hS hP (fun r16 H locs hw hP hS => ?_)
          obtain ⟨f17, f18⟩ := hw
          refine lv_istore (lv' := [(6, .int r16), (5, .ref (ad (64 * (v5_4.toNatClampNeg + 1) + 14))), (4, .int v5_4), (3, .int v5_3), (0, .ref (ad 1)), (1, .int a0), (2, .int a1)]) hx hb dX0_disqualifiedIn_49 hl (by decide) rfl (fun ls hl => ?_)
          refine lv_iload hx hb dX0_disqualifiedIn_51 (lv_at hl 0 rfl) ?_
          refine lv_iconst (v := 1) hx hb dX0_disqualifiedIn_53 (by decide) ?_
          refine lv_iand hx hb dX0_disqualifiedIn_54 ?_
          refine lv_topi (fun y19 ey19 => ?_)
          have iy19 : 0 ≤ y19.toInt ∧ y19.toInt ≤ 1 := ti_and (by decide) ey19
          refine lv_if_eq (tgt := 68) hx hb dX0_disqualifiedIn_55 (by decide) (fun c20 => ?_) (fun c20 => ?_)
          · --55 taken
            have t21 : y19.toInt = 0 := ti_eq c20
            have i22 : 0 ≤ y19.toInt ∧ y19.toInt ≤ 0 := iv_eqi t21 iy19 (il_ 0) (by decide)
            refine lv_iload hx hb dX0_disqualifiedIn_68 (lv_at hl 0 rfl) ?_
            refine lv_iconst (v := 2) hx hb dX0_disqualifiedIn_70 (by decide) ?_
            refine lv_iand hx hb dX0_disqualifiedIn_71 ?_
            refine lv_topi (fun y23 ey23 => ?_)
            have iy23 : 0 ≤ y23.toInt ∧ y23.toInt ≤ 2 := ti_and (by decide) ey23
            refine lv_if_eq (tgt := 85) hx hb dX0_disqualifiedIn_72 (by decide) (fun c24 => ?_) (fun c24 => ?_)
            · --72 taken
              have t25 : y23.toInt = 0 := ti_eq c24
              have i26 : 0 ≤ y23.toInt ∧ y23.toInt ≤ 0 := iv_eqi t25 iy23 (il_ 0) (by decide)
              obtain ⟨y27, ey27⟩ : ∃ y : Int32, y = v5_4 + (1 : Int32) := ⟨_, rfl⟩
              obtain ⟨ty27, iy27⟩ := ti_add (e := 1) (f := 30) i7 ln_1 ey27 (by decide)
              have ty27 : y27.toInt = v5_4.toInt + 1 := ty27
              have iy27 : 1 ≤ y27.toInt ∧ y27.toInt ≤ 30 := iy27
              refine lv_iinc (v := y27) (lv' := [(4, .int y27), (6, .int r16), (5, .ref (ad (64 * (v5_4.toNatClampNeg + 1) + 14))), (3, .int v5_3), (0, .ref (ad 1)), (1, .int a0), (2, .int a1)]) hx hb dX0_disqualifiedIn_85 hl (k := 2) rfl (by rw [ey27]; rfl) (by decide) rfl (fun ls hl => ?_)
              refine lv_goto (tgt := 5) hx hb dX0_disqualifiedIn_88 (by decide) ?_
              exact ih5 y27 v5_3 _ _ _ (iv_w iy27 (by decide)) hv5_3 (hx5_0.take (g := r16.toInt) (show (xi (E (64 * (v5_4.toNatClampNeg + 1) + 14)) 0).toInt = a0.toInt by omega) f18 (show half v5_3 v5_3 (r16.toInt % 2 = 1) _ from Or.inl ⟨(and1_ (by omega) ey19).mp (by omega), rfl⟩) (show half v5_3 v5_3 (r16.toInt / 2 = 1) _ from Or.inl ⟨(and2_ (by omega) ey23).mp (by omega), rfl⟩) (by rw [tn_ y27, tn_ v5_4]; omega)) (by omega) (by first | exact ms_su hx5_2 ty27 (by decide) | omega) hP hS (lv_sub hl [0, 3, 4, 5, 6] rfl)
            · --72 not
              have t28 : ¬ y23.toInt = 0 := ti_ne c24
              have i29 : 1 ≤ y23.toInt ∧ y23.toInt ≤ 2 := iv_ne_l t28 iy23 (il_ 0)
              refine lv_iload_n hx hb dX0_disqualifiedIn_75 rfl (lv_at hl 3 rfl) ?_
              refine lv_iconst (v := 1) hx hb dX0_disqualifiedIn_76 (by decide) ?_
              refine lv_aload hx hb dX0_disqualifiedIn_77 (lv_at hl 1 rfl) ?_
              have i30 : 0 ≤ (xi (E (64 * (v5_4.toNatClampNeg + 1) + 14)) 2).toInt ∧ (xi (E (64 * (v5_4.toNatClampNeg + 1) + 14)) 2).toInt ≤ 15 := hI0.iv (64 * (v5_4.toNatClampNeg + 1) + 14) (mP 14 v5_4.toNatClampNeg (by decide) lv10 (kl_le hC 5 (by decide))) (shC_p 14 v5_4.toNatClampNeg (by decide)) (Nat.le_of_ble_eq_true rfl) (spC_p 14 v5_4.toNatClampNeg (by decide) 2)
              refine th_getL (ci := 5) (C := RX4) (T := TX4) (N := 10) (v := .int (xi (E (64 * (v5_4.toNatClampNeg + 1) + 14)) 2)) hx hb hts hinX4 hown hK hP hI (64 * (v5_4.toNatClampNeg + 1) + 14) (mP 14 v5_4.toNatClampNeg (by decide) lv10 (kl_le hC 5 (by decide))) (shC_p 14 v5_4.toNatClampNeg (by decide)) rfl 2 (Nat.le_of_ble_eq_true rfl) (hts _ (vA_in _ _ (in_5 _ (zs4 (zs4 (zs4 (zs0))))))) (fun _ h9 => h9) (th_v0L hKp hI0 (64 * (v5_4.toNatClampNeg + 1) + 14) (mP 14 v5_4.toNatClampNeg (by decide) lv10 (kl_le hC 5 (by decide))) (shC_p 14 v5_4.toNatClampNeg (by decide)) (Nat.le_of_ble_eq_true rfl) (spC_p 14 v5_4.toNatClampNeg (by decide) 2) (wl_p rfl rfl (by omega))) dX0_disqualifiedIn_79 ?_
              refine lv_ishl hx hb dX0_disqualifiedIn_82 ?_
              refine lv_topi (fun y31 ey31 => ?_)
              have iy31 : 1 ≤ y31.toInt ∧ y31.toInt ≤ 32768 := ti_shl16 i30 ey31 (by decide)
              refine lv_ior hx hb dX0_disqualifiedIn_83 ?_
              refine lv_topi (fun y32 ey32 => ?_)
              have iy32 : 0 ≤ y32.toInt ∧ y32.toInt ≤ 65535 := ti_or65535 ey32 (by omega) (by omega)
              refine lv_istore_n (lv' := [(3, .int y32), (6, .int r16), (5, .ref (ad (64 * (v5_4.toNatClampNeg + 1) + 14))), (4, .int v5_4), (0, .ref (ad 1)), (1, .int a0), (2, .int a1)]) hx hb dX0_disqualifiedIn_84 rfl hl (by decide) rfl (fun ls hl => ?_)
              obtain ⟨y33, ey33⟩ : ∃ y : Int32, y = v5_4 + (1 : Int32) := ⟨_, rfl⟩
              obtain ⟨ty33, iy33⟩ := ti_add (e := 1) (f := 30) i7 ln_1 ey33 (by decide)
              have ty33 : y33.toInt = v5_4.toInt + 1 := ty33
              have iy33 : 1 ≤ y33.toInt ∧ y33.toInt ≤ 30 := iy33
              refine lv_iinc (v := y33) (lv' := [(4, .int y33), (3, .int y32), (6, .int r16), (5, .ref (ad (64 * (v5_4.toNatClampNeg + 1) + 14))), (0, .ref (ad 1)), (1, .int a0), (2, .int a1)]) hx hb dX0_disqualifiedIn_85 hl (k := 3) rfl (by rw [ey33]; rfl) (by decide) rfl (fun ls hl => ?_)
              refine lv_goto (tgt := 5) hx hb dX0_disqualifiedIn_88 (by decide) ?_
              exact ih5 y33 y32 _ _ _ (iv_w iy33 (by decide)) iy32 (hx5_0.take (g := r16.toInt) (show (xi (E (64 * (v5_4.toNatClampNeg + 1) + 14)) 0).toInt = a0.toInt by omega) f18 (show half v5_3 v5_3 (r16.toInt % 2 = 1) _ from Or.inl ⟨(and1_ (by omega) ey19).mp (by omega), rfl⟩) (show half v5_3 y32 (r16.toInt / 2 = 1) _ from Or.inr ⟨Decidable.byContradiction (fun q9 => absurd ((and2_ (by omega) ey23).mpr q9) (by omega)), (xi (E (64 * (v5_4.toNatClampNeg + 1) + 14)) 2), y31, (by omega), (by first | rfl | (show (xi (E (64 * (v5_4.toNatClampNeg + 1) + 14)) 2).toInt = (xi (E (64 * (v5_4.toNatClampNeg + 1) + 14)) 2).toInt; omega)), ey31, ey32⟩) (by rw [tn_ y33, tn_ v5_4]; omega)) (by omega) (by first | exact ms_su hx5_2 ty33 (by decide) | omega) hP hS (lv_sub hl [0, 1, 4, 5, 6] rfl)
          · --55 not
            have t34 : ¬ y19.toInt = 0 := ti_ne c20
            have i35 : 1 ≤ y19.toInt ∧ y19.toInt ≤ 1 := iv_ne_l t34 iy19 (il_ 0)
            refine lv_iload_n hx hb dX0_disqualifiedIn_58 rfl (lv_at hl 3 rfl) ?_
            refine lv_iconst (v := 1) hx hb dX0_disqualifiedIn_59 (by decide) ?_
            refine lv_aload hx hb dX0_disqualifiedIn_60 (lv_at hl 1 rfl) ?_
            have i36 : 0 ≤ (xi (E (64 * (v5_4.toNatClampNeg + 1) + 14)) 1).toInt ∧ (xi (E (64 * (v5_4.toNatClampNeg + 1) + 14)) 1).toInt ≤ 15 := hI0.iv (64 * (v5_4.toNatClampNeg + 1) + 14) (mP 14 v5_4.toNatClampNeg (by decide) lv10 (kl_le hC 5 (by decide))) (shC_p 14 v5_4.toNatClampNeg (by decide)) (Nat.le_of_ble_eq_true rfl) (spC_p 14 v5_4.toNatClampNeg (by decide) 1)
            refine th_getL (ci := 5) (C := RX4) (T := TX4) (N := 10) (v := .int (xi (E (64 * (v5_4.toNatClampNeg + 1) + 14)) 1)) hx hb hts hinX4 hown hK hP hI (64 * (v5_4.toNatClampNeg + 1) + 14) (mP 14 v5_4.toNatClampNeg (by decide) lv10 (kl_le hC 5 (by decide))) (shC_p 14 v5_4.toNatClampNeg (by decide)) rfl 1 (Nat.le_of_ble_eq_true rfl) (hts _ (vA_in _ _ (in_5 _ (zs4 (zs4 (zs1 (zs1 (zs1 (zs0))))))))) (fun _ h9 => h9) (th_v0L hKp hI0 (64 * (v5_4.toNatClampNeg + 1) + 14) (mP 14 v5_4.toNatClampNeg (by decide) lv10 (kl_le hC 5 (by decide))) (shC_p 14 v5_4.toNatClampNeg (by decide)) (Nat.le_of_ble_eq_true rfl) (spC_p 14 v5_4.toNatClampNeg (by decide) 1) (wl_p rfl rfl (by omega))) dX0_disqualifiedIn_62 ?_
            refine lv_ishl hx hb dX0_disqualifiedIn_65 ?_
            refine lv_topi (fun y37 ey37 => ?_)
            have iy37 : 1 ≤ y37.toInt ∧ y37.toInt ≤ 32768 := ti_shl16 i36 ey37 (by decide)
            refine lv_ior hx hb dX0_disqualifiedIn_66 ?_
            refine lv_topi (fun y38 ey38 => ?_)
            have iy38 : 0 ≤ y38.toInt ∧ y38.toInt ≤ 65535 := ti_or65535 ey38 (by omega) (by omega)
            refine lv_istore_n (lv' := [(3, .int y38), (6, .int r16), (5, .ref (ad (64 * (v5_4.toNatClampNeg + 1) + 14))), (4, .int v5_4), (0, .ref (ad 1)), (1, .int a0), (2, .int a1)]) hx hb dX0_disqualifiedIn_67 rfl hl (by decide) rfl (fun ls hl => ?_)
            refine lv_iload hx hb dX0_disqualifiedIn_68 (lv_at hl 1 rfl) ?_
            refine lv_iconst (v := 2) hx hb dX0_disqualifiedIn_70 (by decide) ?_
            refine lv_iand hx hb dX0_disqualifiedIn_71 ?_
            refine lv_topi (fun y39 ey39 => ?_)
            have iy39 : 0 ≤ y39.toInt ∧ y39.toInt ≤ 2 := ti_and (by decide) ey39
            refine lv_if_eq (tgt := 85) hx hb dX0_disqualifiedIn_72 (by decide) (fun c40 => ?_) (fun c40 => ?_)
            · --72 taken
              have t41 : y39.toInt = 0 := ti_eq c40
              have i42 : 0 ≤ y39.toInt ∧ y39.toInt ≤ 0 := iv_eqi t41 iy39 (il_ 0) (by decide)
              obtain ⟨y43, ey43⟩ : ∃ y : Int32, y = v5_4 + (1 : Int32) := ⟨_, rfl⟩
              obtain ⟨ty43, iy43⟩ := ti_add (e := 1) (f := 30) i7 ln_1 ey43 (by decide)
              have ty43 : y43.toInt = v5_4.toInt + 1 := ty43
              have iy43 : 1 ≤ y43.toInt ∧ y43.toInt ≤ 30 := iy43
              refine lv_iinc (v := y43) (lv' := [(4, .int y43), (3, .int y38), (6, .int r16), (5, .ref (ad (64 * (v5_4.toNatClampNeg + 1) + 14))), (0, .ref (ad 1)), (1, .int a0), (2, .int a1)]) hx hb dX0_disqualifiedIn_85 hl (k := 3) rfl (by rw [ey43]; rfl) (by decide) rfl (fun ls hl => ?_)
              refine lv_goto (tgt := 5) hx hb dX0_disqualifiedIn_88 (by decide) ?_
              exact ih5 y43 y38 _ _ _ (iv_w iy43 (by decide)) iy38 (hx5_0.take (g := r16.toInt) (show (xi (E (64 * (v5_4.toNatClampNeg + 1) + 14)) 0).toInt = a0.toInt by omega) f18 (show half v5_3 y38 (r16.toInt % 2 = 1) _ from Or.inr ⟨Decidable.byContradiction (fun q9 => absurd ((and1_ (by omega) ey19).mpr q9) (by omega)), (xi (E (64 * (v5_4.toNatClampNeg + 1) + 14)) 1), y37, (by omega), (by first | rfl | (show (xi (E (64 * (v5_4.toNatClampNeg + 1) + 14)) 1).toInt = (xi (E (64 * (v5_4.toNatClampNeg + 1) + 14)) 1).toInt; omega)), ey37, ey38⟩) (show half y38 y38 (r16.toInt / 2 = 1) _ from Or.inl ⟨(and2_ (by omega) ey39).mp (by omega), rfl⟩) (by rw [tn_ y43, tn_ v5_4]; omega)) (by omega) (by first | exact ms_su hx5_2 ty43 (by decide) | omega) hP hS (lv_sub hl [0, 1, 4, 5, 6] rfl)
            · --72 not
              have t44 : ¬ y39.toInt = 0 := ti_ne c40
              have i45 : 1 ≤ y39.toInt ∧ y39.toInt ≤ 2 := iv_ne_l t44 iy39 (il_ 0)
              refine lv_iload_n hx hb dX0_disqualifiedIn_75 rfl (lv_at hl 0 rfl) ?_
              refine lv_iconst (v := 1) hx hb dX0_disqualifiedIn_76 (by decide) ?_
              refine lv_aload hx hb dX0_disqualifiedIn_77 (lv_at hl 2 rfl) ?_
              have i46 : 0 ≤ (xi (E (64 * (v5_4.toNatClampNeg + 1) + 14)) 2).toInt ∧ (xi (E (64 * (v5_4.toNatClampNeg + 1) + 14)) 2).toInt ≤ 15 := hI0.iv (64 * (v5_4.toNatClampNeg + 1) + 14) (mP 14 v5_4.toNatClampNeg (by decide) lv10 (kl_le hC 5 (by decide))) (shC_p 14 v5_4.toNatClampNeg (by decide)) (Nat.le_of_ble_eq_true rfl) (spC_p 14 v5_4.toNatClampNeg (by decide) 2)
              refine th_getL (ci := 5) (C := RX4) (T := TX4) (N := 10) (v := .int (xi (E (64 * (v5_4.toNatClampNeg + 1) + 14)) 2)) hx hb hts hinX4 hown hK hP hI (64 * (v5_4.toNatClampNeg + 1) + 14) (mP 14 v5_4.toNatClampNeg (by decide) lv10 (kl_le hC 5 (by decide))) (shC_p 14 v5_4.toNatClampNeg (by decide)) rfl 2 (Nat.le_of_ble_eq_true rfl) (hts _ (vA_in _ _ (in_5 _ (zs4 (zs4 (zs4 (zs0))))))) (fun _ h9 => h9) (th_v0L hKp hI0 (64 * (v5_4.toNatClampNeg + 1) + 14) (mP 14 v5_4.toNatClampNeg (by decide) lv10 (kl_le hC 5 (by decide))) (shC_p 14 v5_4.toNatClampNeg (by decide)) (Nat.le_of_ble_eq_true rfl) (spC_p 14 v5_4.toNatClampNeg (by decide) 2) (wl_p rfl rfl (by omega))) dX0_disqualifiedIn_79 ?_
              refine lv_ishl hx hb dX0_disqualifiedIn_82 ?_
              refine lv_topi (fun y47 ey47 => ?_)
              have iy47 : 1 ≤ y47.toInt ∧ y47.toInt ≤ 32768 := ti_shl16 i46 ey47 (by decide)
              refine lv_ior hx hb dX0_disqualifiedIn_83 ?_
              refine lv_topi (fun y48 ey48 => ?_)
              have iy48 : 0 ≤ y48.toInt ∧ y48.toInt ≤ 65535 := ti_or65535 ey48 (by omega) (by omega)
              refine lv_istore_n (lv' := [(3, .int y48), (6, .int r16), (5, .ref (ad (64 * (v5_4.toNatClampNeg + 1) + 14))), (4, .int v5_4), (0, .ref (ad 1)), (1, .int a0), (2, .int a1)]) hx hb dX0_disqualifiedIn_84 rfl hl (by decide) rfl (fun ls hl => ?_)
              obtain ⟨y49, ey49⟩ : ∃ y : Int32, y = v5_4 + (1 : Int32) := ⟨_, rfl⟩
              obtain ⟨ty49, iy49⟩ := ti_add (e := 1) (f := 30) i7 ln_1 ey49 (by decide)
              have ty49 : y49.toInt = v5_4.toInt + 1 := ty49
              have iy49 : 1 ≤ y49.toInt ∧ y49.toInt ≤ 30 := iy49
              refine lv_iinc (v := y49) (lv' := [(4, .int y49), (3, .int y48), (6, .int r16), (5, .ref (ad (64 * (v5_4.toNatClampNeg + 1) + 14))), (0, .ref (ad 1)), (1, .int a0), (2, .int a1)]) hx hb dX0_disqualifiedIn_85 hl (k := 3) rfl (by rw [ey49]; rfl) (by decide) rfl (fun ls hl => ?_)
              refine lv_goto (tgt := 5) hx hb dX0_disqualifiedIn_88 (by decide) ?_
              exact ih5 y49 y48 _ _ _ (iv_w iy49 (by decide)) iy48 (hx5_0.take (g := r16.toInt) (show (xi (E (64 * (v5_4.toNatClampNeg + 1) + 14)) 0).toInt = a0.toInt by omega) f18 (show half v5_3 y38 (r16.toInt % 2 = 1) _ from Or.inr ⟨Decidable.byContradiction (fun q9 => absurd ((and1_ (by omega) ey19).mpr q9) (by omega)), (xi (E (64 * (v5_4.toNatClampNeg + 1) + 14)) 1), y37, (by omega), (by first | rfl | (show (xi (E (64 * (v5_4.toNatClampNeg + 1) + 14)) 1).toInt = (xi (E (64 * (v5_4.toNatClampNeg + 1) + 14)) 1).toInt; omega)), ey37, ey38⟩) (show half y38 y48 (r16.toInt / 2 = 1) _ from Or.inr ⟨Decidable.byContradiction (fun q9 => absurd ((and2_ (by omega) ey39).mpr q9) (by omega)), (xi (E (64 * (v5_4.toNatClampNeg + 1) + 14)) 2), y47, (by omega), (by first | rfl | (show (xi (E (64 * (v5_4.toNatClampNeg + 1) + 14)) 2).toInt = (xi (E (64 * (v5_4.toNatClampNeg + 1) + 14)) 2).toInt; omega)), ey47, ey48⟩) (by rw [tn_ y49, tn_ v5_4]; omega)) (by omega) (by first | exact ms_su hx5_2 ty49 (by decide) | omega) hP hS (lv_sub hl [0, 1, 4, 5, 6] rfl)
        · --37 not
          have t50 : ¬ (xi (E (64 * (v5_4.toNatClampNeg + 1) + 14)) 0).toInt = a0.toInt := ti_ne c13
          refine lv_goto (tgt := 85) hx hb dX0_disqualifiedIn_40 (by decide) ?_
          obtain ⟨y51, ey51⟩ : ∃ y : Int32, y = v5_4 + (1 : Int32) := ⟨_, rfl⟩
          obtain ⟨ty51, iy51⟩ := ti_add (e := 1) (f := 30) i7 ln_1 ey51 (by decide)
          have ty51 : y51.toInt = v5_4.toInt + 1 := ty51
          have iy51 : 1 ≤ y51.toInt ∧ y51.toInt ≤ 30 := iy51
          refine lv_iinc (v := y51) (lv' := [(4, .int y51), (5, .ref (ad (64 * (v5_4.toNatClampNeg + 1) + 14))), (3, .int v5_3), (0, .ref (ad 1)), (1, .int a0), (2, .int a1)]) hx hb dX0_disqualifiedIn_85 hl (k := 1) rfl (by rw [ey51]; rfl) (by decide) rfl (fun ls hl => ?_)
          refine lv_goto (tgt := 5) hx hb dX0_disqualifiedIn_88 (by decide) ?_
          exact ih5 y51 v5_3 _ _ _ (iv_w iy51 (by decide)) hv5_3 (hx5_0.skip (show ¬ (xi (E (64 * (v5_4.toNatClampNeg + 1) + 14)) 0).toInt = a0.toInt by omega) (by rw [tn_ y51, tn_ v5_4]; omega)) (by omega) (by first | exact ms_su hx5_2 ty51 (by decide) | omega) hP hS (lv_sub hl [0, 2, 3, 4, 5] rfl)
  exact hL5 (31) (0 : Int32) (0 : Int32) _ _ _ (iv_w ln_0 (by decide)) (iv_w ln_0 (by decide)) (DqS.start (n := (0 : Int32).toNatClampNeg) rfl) (by omega) (by have h9 := ln_0; first | exact ms_bu h9.1 (by decide) | omega) hP hS (lv_sub hl [0, 1, 2, 3, 4] rfl)
def v_disqualifiedX : List Cond := .code yX0_disqualified cX0_disqualified 3 (some .int) :: vA
abbrev rm_disqualifiedX : Room := { frames := 4, cells := 0, slots := 0, locals := 160 }
set_option maxHeartbeats 4000000 in
set_option maxRecDepth 100000 in
theorem q_disqualifiedX (l : Launch) (dC : Nat → ClassId) (dI : Nat → Nat → Nat) (cT : Nat → ClassId) (cf : Nat → Nat) (hC : CF cf) (ad : Nat → Nat) (E : Nat → va_E) (sz : Nat)  (hI0 : IXL cT (shC cf) (spC cf) (LC cf) ad E)  : Met l yX0_disqualified v_disqualifiedX rm_disqualifiedX (va_Pc [.ref (ad 1)] (HWL dC dI (TYC cT) cf ad E sz)) (va_Qi (S := Unit) (fun r _ => (0 ≤ r.toInt ∧ r.toInt ≤ 320) ∧ (Cn2 (fun r9 b9 => exF (outC E ((r9 : Nat) : Int) (xi (E 1) 0).toInt ((b9 : Nat) : Int)) (cf 5)) 16 (cf 2) r.toInt)) (fun _ _ => True) (fun _ => False)) 0 0 (fun _ => False) := by
  obtain ⟨⟨hc0, hc1, hc2, hc3, hc4, hc5⟩, hcr⟩ := id hC
  refine Met.ofW (cc := cX0_disqualified) (maxL := 3) (ret := (some .int)) (by decide) rfl ?_
  intro p e s m args below meth c s₁ B hml hv
  obtain ⟨hargs, hsz, hP, hK, hD0, hEV⟩ := hv
  subst hsz
  have hx := B.exec
  have hb := B.bytes
  have hr := B.returns
  have hts := atoms_spec (ws := v_disqualifiedX) B.pre
  have hown : s.vm.findClass RX0 = some m.cls := findClass_of_methodNamed B.named
  have hlocks := B.notSynchronized
  have hinX0 : ∀ w ∈ u_ws RX0 TX0 11, w ∈ v_disqualifiedX := fun w h => vA_in _ w (in_X0 w h)
  have hS : va_S (fun _ : Nat => False) s.heap s.heap [] := va_S.rf
  have hD := hD0
  have hI := hI0
  have hKp : Kp (wl [] []) E E := Kp.rf
  have hl := lv_entry ([.ref (ad 1)]) (n := 3) (Nat.le_of_ble_eq_true rfl)
  obtain ⟨Q, hQ⟩ : ∃ Q, Q = MQ below (va_Qi (S := Unit) (fun r _ => (0 ≤ r.toInt ∧ r.toInt ≤ 320) ∧ (Cn2 (fun r9 b9 => exF (outC E ((r9 : Nat) : Int) (xi (E 1) 0).toInt ((b9 : Nat) : Int)) (cf 5)) 16 (cf 2) r.toInt)) (fun _ _ => True) (fun _ => False)) args s 0 0 (fun _ => False) := ⟨_, rfl⟩
  rw [← hQ, show entryFrame m args 3 = _ from (congrArg (fun z => entryFrame m z 3) hargs).trans (lg_entry_eq _ _ _)]
  generalize (lg_sl ([.ref (ad 1)]) ++ List.replicate (3 - (lg_sl ([.ref (ad 1)])).length) Slot.unset).toArray = ls at hl ⊢
  have hl : lv_has ls 3 [(0, .ref (ad 1))] := hl
  have z0z : (0 : Int32).toInt = 0 := rfl
  refine lv_iconst (v := 0) hx hb dX0_disqualified_0 (by decide) ?_
  refine lv_istore_n (lv' := [(1, .int 0), (0, .ref (ad 1))]) hx hb dX0_disqualified_1 rfl hl (by decide) rfl (fun ls hl => ?_)
  refine lv_iconst (v := 0) hx hb dX0_disqualified_2 (by decide) ?_
  refine lv_istore_n (lv' := [(2, .int 0), (1, .int 0), (0, .ref (ad 1))]) hx hb dX0_disqualified_3 rfl hl (by decide) rfl (fun ls hl => ?_)
  have hL4 : ∀ d : Nat, ∀ (v4_2 : Int32) (v4_1 : Int32) (H : Heap) (locs : List Loc) (ls : Array Slot), 0 ≤ v4_2.toInt ∧ v4_2.toInt ≤ 20 → 0 ≤ v4_1.toInt ∧ v4_1.toInt ≤ 320 → Cn2 (fun r9 b9 => exF (outC E ((r9 : Nat) : Int) (xi (E 1) 0).toInt ((b9 : Nat) : Int)) (cf 5)) 16 v4_2.toNatClampNeg v4_1.toInt → v4_2.toInt ≤ ((cf 2 : Nat) : Int) → 0 ≤ v4_1.toInt ∧ v4_1.toInt ≤ 16 * v4_2.toInt → 20 - v4_2.toInt < (d : Int) → va_P (dC, dI) vwCl (WL (LC cf) ad E) H → va_S (fun _ : Nat => False) s.heap H locs → lv_has ls 3 [(2, .int v4_2), (1, .int v4_1), (0, .ref (ad 1))] → W p l e (headSpec v_disqualifiedX rm_disqualifiedX).room s m args below meth c H locs 0 0 Q (F0 m 4 ls []) := by
    intro d
    induction d with
    | zero =>
      intro v4_2 v4_1 H locs ls hv4_2 hv4_1 hx4_0 hx4_1 hx4_2 hx4_3 hP hS hl
      exact absurd hx4_3 (by first | exact ms_zu hv4_2.2 | omega)
    | succ d ih4 =>
      intro v4_2 v4_1 H locs ls hv4_2 hv4_1 hx4_0 hx4_1 hx4_2 hx4_3 hP hS hl
      refine lv_iload_n hx hb dX0_disqualified_4 rfl (lv_at hl 0 rfl) ?_
      refine lv_aload_n hx hb dX0_disqualified_5 rfl (lv_at hl 2 rfl) ?_
      refine th_getL (ci := 1) (C := RX0) (T := TX0) (N := 11) (v := .ref (ad 9)) hx hb hts hinX0 hown hK hP hI 1 (mF 1 rfl) rfl rfl 5 (Nat.le_of_ble_eq_true rfl) (hts _ (vA_in _ _ (in_5 _ (zs1 (zs0))))) (fun _ h9 => h9) (hI.fr 1 (mF 1 rfl) rfl (Nat.le_of_ble_eq_true rfl) 9 rfl) dX0_disqualified_6 ?_
      refine th_riL (va_runV (As := []) (rest := [.int v4_2]) ⟨hx, hb, hml, hown, hts⟩ (q_size2 l dC dI cT cf hC ad E H.size hI) (cwV 0 hts (gi_V (in_4 _ (zs16 (zs16 (zs1 (zs1 (zs0)))))) (in_4 _ (zs16 (zs16 (zs1 (zs1 (zs1 (zs0))))))) (in_4 _ (zs16 (zs16 (zs4 (zs0))))) (in_3 _ (zs16 (zs1 (zs1 (zs0))))) (in_4 _ (zs16 (zs1 (zs1 (zs1 (zs0))))))) rfl rfl rfl ⟨rfl, hz_yJx4a65c_size_8abf5_0⟩ ⟨Nat.le_of_ble_eq_true rfl, Nat.le_of_ble_eq_true rfl⟩) ⟨HWL_bl, va_recv hK hP (ci := 0) (q0 := posL 9 (LC cf)) rfl (hI.ob 9 (mF 9 rfl) rfl), (HWL_wiR hP hK (WL_D hD) hS hEV)⟩ rfl rfl hl.1 rfl (lv_room (Nat.le_of_ble_eq_true rfl)) dX0_disqualified_9 ⟨Nat.le_of_ble_eq_true rfl, Nat.le_of_ble_eq_true rfl⟩) hS hP (fun r1 H locs hw hP hS => ?_)
      obtain ⟨f2, f3⟩ := hw
      refine lv_icmp_ge (tgt := 36) hx hb dX0_disqualified_12 (by decide) (fun c4 => ?_) (fun c4 => ?_)
      · --12 taken
        have t5 : r1.toInt ≤ v4_2.toInt := ti_le c4
        refine lv_iload_n hx hb dX0_disqualified_36 rfl (lv_at hl 1 rfl) ?_
        rw [hQ]
        exact W.iret (v := v4_1) hx hb hr (fun t ht hW => ⟨⟨v4_1, (), rfl, ⟨hv4_1, (by have h9 := hx4_0; rw [show v4_2.toNatClampNeg = cf 2 by rw [tn_]; omega] at h9; exact h9)⟩, trivial⟩, hS.F ht⟩) hS.2.2 dX0_disqualified_37
      · --12 not
        have t6 : v4_2.toInt < r1.toInt := ti_nle c4
        have i7 : 0 ≤ v4_2.toInt ∧ v4_2.toInt ≤ 19 := iv_lt_l t6 hv4_2 f2 (by decide)
        have i8 : 1 ≤ r1.toInt ∧ r1.toInt ≤ 20 := iv_lt_r t6 hv4_2 f2 (by decide)
        have i9 : 0 ≤ v4_1.toInt ∧ v4_1.toInt ≤ 304 := by omega
        refine lv_iload_n hx hb dX0_disqualified_15 rfl (lv_at hl 1 rfl) ?_
        refine lv_aload_n hx hb dX0_disqualified_16 rfl (lv_at hl 2 rfl) ?_
        refine lv_iload_n hx hb dX0_disqualified_17 rfl (lv_at hl 0 rfl) ?_
        refine lv_aload_n hx hb dX0_disqualified_18 rfl (lv_at hl 2 rfl) ?_
        have i10 : 0 ≤ (xi (E 1) 0).toInt ∧ (xi (E 1) 0).toInt ≤ 400 := hI0.iv 1 (mF 1 rfl) rfl (Nat.le_of_ble_eq_true rfl) rfl
        refine th_getL (ci := 1) (C := RX0) (T := TX0) (N := 11) (v := .int (xi (E 1) 0)) hx hb hts hinX0 hown hK hP hI 1 (mF 1 rfl) rfl rfl 0 (Nat.le_of_ble_eq_true rfl) (hts _ (vA_in _ _ (in_5 _ (zs1 (zs1 (zs0)))))) (fun _ h9 => h9) (th_v0L hKp hI0 1 (mF 1 rfl) rfl (Nat.le_of_ble_eq_true rfl) rfl rfl) dX0_disqualified_19 ?_
        refine th_riL (va_runV (As := [.int v4_2, .int (xi (E 1) 0)]) (rest := [.int v4_1]) ⟨hx, hb, hml, hown, hts⟩ (q_disqualifiedInX l dC dI cT cf hC ad E H.size v4_2 (xi (E 1) 0) hI) (cwV 2 hts (gi_V (in_5 _ (zs1 (zs1 (zs1 (zs0))))) (in_5 _ (zs4 (zs0))) (in_5 _ (zs4 (zs1 (zs0)))) (in_5 _ (zs4 (zs1 (zs1 (zs0))))) (in_5 _ (zs4 (zs1 (zs1 (zs1 (zs0))))))) rfl rfl rfl ⟨rfl, hz_yX0_disqualifiedIn_2⟩ ⟨Nat.le_of_ble_eq_true rfl, Nat.le_of_ble_eq_true rfl⟩) ⟨HWL_bl, va_recv hK hP (ci := 1) (q0 := posL 1 (LC cf)) rfl (hI.ob 1 (mF 1 rfl) rfl), (HWL_wiR hP hK (WL_D hD) hS hEV)⟩ rfl rfl hl.1 rfl (lv_room (Nat.le_of_ble_eq_true rfl)) dX0_disqualified_22 ⟨Nat.le_of_ble_eq_true rfl, Nat.le_of_ble_eq_true rfl⟩) hS hP (fun r11 H locs hw hP hS => ?_)
        obtain ⟨f12, f13⟩ := hw
        refine th_pi (va_runS (As := [.int r11]) (rest := [.int v4_1]) ⟨hx, hb, hml, hown, hts⟩ (q_bitCount l r11 f12) (va_cwS 1 hts (gi_S (in_4 _ (zs16 (zs4 (zs4 (zs1 (zs0)))))) (in_4 _ (zs16 (zs4 (zs4 (zs1 (zs1 (zs0))))))) (in_4 _ (zs16 (zs4 (zs4 (zs1 (zs1 (zs1 (zs0)))))))) (in_2 _ (zs4 (zs4 (zs1 (zs1 (zs0))))))) rfl rfl rfl hz_yJ6_bitCount_0f7a4_1 ⟨Nat.le_of_ble_eq_true rfl, Nat.le_of_ble_eq_true rfl⟩) ⟨fun _ _ _ _ q => q, fun _ _ _ => ⟨rfl, trivial⟩⟩ rfl rfl hl.1 rfl (lv_room (Nat.le_of_ble_eq_true rfl)) dX0_disqualified_25 ⟨Nat.le_of_ble_eq_true rfl, Nat.le_of_ble_eq_true rfl⟩) hS (fun r14 H1 locs1 hw hk1 hS => ?_)
        have hP := ub_keep hP hk1
        generalize H1 = H at hP hS ⊢
        generalize locs1 = locs at hS ⊢
        have f15 := hw
        have i16 : 0 ≤ r14.toInt ∧ r14.toInt ≤ 16 := by have h9 := f15; have h8 := pcS_le r11.toNatClampNeg 16; omega
        refine lv_iadd hx hb dX0_disqualified_28 ?_
        refine lv_topi (fun y17 ey17 => ?_)
        obtain ⟨ty17, iy17⟩ := ti_add (e := 0) (f := 320) i9 i16 ey17 (by decide)
        have ty17 : y17.toInt = v4_1.toInt + r14.toInt := ty17
        have iy17 : 0 ≤ y17.toInt ∧ y17.toInt ≤ 320 := iy17
        refine lv_istore_n (lv' := [(1, .int y17), (2, .int v4_2), (0, .ref (ad 1))]) hx hb dX0_disqualified_29 rfl hl (by decide) rfl (fun ls hl => ?_)
        obtain ⟨y18, ey18⟩ : ∃ y : Int32, y = v4_2 + (1 : Int32) := ⟨_, rfl⟩
        obtain ⟨ty18, iy18⟩ := ti_add (e := 1) (f := 20) i7 ln_1 ey18 (by decide)
        have ty18 : y18.toInt = v4_2.toInt + 1 := ty18
        have iy18 : 1 ≤ y18.toInt ∧ y18.toInt ≤ 20 := iy18
        refine lv_iinc (v := y18) (lv' := [(2, .int y18), (1, .int y17), (0, .ref (ad 1))]) hx hb dX0_disqualified_30 hl (k := 1) rfl (by rw [ey18]; rfl) (by decide) rfl (fun ls hl => ?_)
        refine lv_goto (tgt := 4) hx hb dX0_disqualified_33 (by decide) ?_
        exact ih4 y18 y17 _ _ _ (iv_w iy18 (by decide)) iy17 (dq_next hx4_0 (by omega) f13 (by omega) f15 (by omega) (by omega)) (by omega) (by have h9 := pcS_le r11.toNatClampNeg 16; have h8 := f15; omega) (by first | exact ms_su hx4_3 ty18 (by decide) | omega) hP hS (lv_sub hl [0, 1, 2] rfl)
  exact hL4 (21) (0 : Int32) (0 : Int32) _ _ _ (iv_w ln_0 (by decide)) (iv_w ln_0 (by decide)) (show Cn2 (fun r9 b9 => exF (outC E ((r9 : Nat) : Int) (xi (E 1) 0).toInt ((b9 : Nat) : Int)) (cf 5)) 16 0 0 from rfl) (by omega) (by omega) (by have h9 := ln_0; first | exact ms_bu h9.1 (by decide) | omega) hP hS (lv_sub hl [0, 1, 2] rfl)
def v_readCodesX : List Cond := .code yX9_readCodes cX9_readCodes 6 none :: vA
abbrev rm_readCodesX : Room := { frames := 4, cells := 0, slots := 0, locals := 160 }
def w_readCodesX : Nat → Nat → Bool := wl [26, 27] []
set_option maxHeartbeats 4000000 in
set_option maxRecDepth 100000 in
theorem q_readCodesX (l : Launch) (dC : Nat → ClassId) (dI : Nat → Nat → Nat) (cT : Nat → ClassId) (cf : Nat → Nat) (hC : CF cf) (ad : Nat → Nat) (E : Nat → va_E) (sz : Nat) (a0 : Int32) (a1 : Int32) (hI0 : IXL cT (shC cf) (spC cf) (LC cf) ad E) (hh0 : 0 ≤ a0.toInt ∧ a0.toInt ≤ 19) (hh1 : a0.toInt < ((cf 2 : Nat) : Int)) : Met l yX9_readCodes v_readCodesX rm_readCodesX (va_Pc [.ref (ad 3), .int a0, .int a1] (HWL dC dI (TYC cT) cf ad E sz)) (va_Qv (S := Nat → va_E) (fun u => IXL cT (shC cf) (spC cf) (LC cf) ad u ∧ Kp w_readCodesX E u ∧ ((∀ b9 : Nat, b9 < 16 → CdR cf E a0 a1 b9 (xi (u 26) b9).toInt ∧ scN E a0 a1 (cf 3) b9 (xi (u 27) b9).toInt))) (HBL dC dI (LC cf) ad) (va_A (WL (LC cf) ad E) sz)) 0 0 (va_A (WL (LC cf) ad E) sz) := by
  obtain ⟨⟨hc0, hc1, hc2, hc3, hc4, hc5⟩, hcr⟩ := id hC
  refine Met.ofW (cc := cX9_readCodes) (maxL := 6) (ret := none) (by decide) rfl ?_
  intro p e s m args below meth c s₁ B hml hv
  obtain ⟨hargs, hsz, hP, hK, hD0, hEV⟩ := hv
  subst hsz
  have hx := B.exec
  have hb := B.bytes
  have hr := B.returns
  have hts := atoms_spec (ws := v_readCodesX) B.pre
  have hown : s.vm.findClass RX9 = some m.cls := findClass_of_methodNamed B.named
  have hlocks := B.notSynchronized
  have hinX0 : ∀ w ∈ u_ws RX0 TX0 11, w ∈ v_readCodesX := fun w h => vA_in _ w (in_X0 w h)
  have hinX6 : ∀ w ∈ u_ws RX6 TX6 5, w ∈ v_readCodesX := fun w h => vA_in _ w (in_X6 w h)
  have hinX9 : ∀ w ∈ u_ws RX9 TX9 9, w ∈ v_readCodesX := fun w h => vA_in _ w (in_X9 w h)
  generalize hAe : va_A (WL (LC cf) ad E) s.heap.size = A at hEV ⊢
  have hA : ∀ q : Nat, s.heap.size ≤ q → A q := fun q h => by rw [← hAe]; exact Or.inr h
  have hD : va_D A (WL (LC cf) ad E) := by rw [← hAe]; exact hD0.self
  have hS : va_S A s.heap s.heap [] := va_S.rf
  have hI := hI0
  have hKp : Kp w_readCodesX E E := Kp.rf
  have hl := lv_entry ([.ref (ad 3), .int a0, .int a1]) (n := 6) (Nat.le_of_ble_eq_true rfl)
  obtain ⟨Q, hQ⟩ : ∃ Q, Q = MQ below (va_Qv (S := Nat → va_E) (fun u => IXL cT (shC cf) (spC cf) (LC cf) ad u ∧ Kp w_readCodesX E u ∧ ((∀ b9 : Nat, b9 < 16 → CdR cf E a0 a1 b9 (xi (u 26) b9).toInt ∧ scN E a0 a1 (cf 3) b9 (xi (u 27) b9).toInt))) (HBL dC dI (LC cf) ad) (A)) args s 0 0 (A) := ⟨_, rfl⟩
  rw [← hQ, show entryFrame m args 6 = _ from (congrArg (fun z => entryFrame m z 6) hargs).trans (lg_entry_eq _ _ _)]
  generalize (lg_sl ([.ref (ad 3), .int a0, .int a1]) ++ List.replicate (6 - (lg_sl ([.ref (ad 3), .int a0, .int a1])).length) Slot.unset).toArray = ls at hl ⊢
  have hl : lv_has ls 6 [(0, .ref (ad 3)), (1, .int a0), (2, .int a1)] := hl
  have z0z : (0 : Int32).toInt = 0 := rfl
  refine lv_aload_n hx hb dX9_readCodes_0 rfl (lv_at hl 0 rfl) ?_
  refine th_getL (ci := 10) (C := RX9) (T := TX9) (N := 9) (v := .ref (ad 1)) hx hb hts hinX9 hown hK hP hI 3 (mF 3 rfl) rfl rfl 0 (Nat.le_of_ble_eq_true rfl) (hts _ (vA_in _ _ (in_11 _ (zs16 (zs16 (zs4 (zs1 (zs1 (zs1 (zs0)))))))))) (fun _ h9 => h9) (hI.fr 3 (mF 3 rfl) rfl (Nat.le_of_ble_eq_true rfl) 1 rfl) dX9_readCodes_1 ?_
  refine th_getL (ci := 1) (C := RX0) (T := TX0) (N := 11) (v := .ref (ad 9)) hx hb hts hinX0 hown hK hP hI 1 (mF 1 rfl) rfl rfl 5 (Nat.le_of_ble_eq_true rfl) (hts _ (vA_in _ _ (in_12 _ zs0))) (fun _ h9 => h9) (hI.fr 1 (mF 1 rfl) rfl (Nat.le_of_ble_eq_true rfl) 9 rfl) dX9_readCodes_4 ?_
  refine lv_iload_n hx hb dX9_readCodes_7 rfl (lv_at hl 1 rfl) ?_
  refine th_rrL (va_runV (As := [.int a0]) (rest := []) ⟨hx, hb, hml, hown, hts⟩ (q_get2 l dC dI cT cf hC ad E s.heap.size a0 hI (by omega)) (cwV 1 hts (gi_V (in_12 _ (zs16 (zs4 (zs4 (zs0))))) (in_4 _ (zs16 (zs16 (zs4 (zs1 (zs1 (zs0))))))) (in_4 _ (zs16 (zs16 (zs4 (zs1 (zs1 (zs1 (zs0)))))))) (in_3 _ (zs16 (zs1 (zs1 (zs0))))) (in_3 _ (zs16 (zs16 (zs4 (zs1 (zs1 (zs1 (zs0))))))))) rfl rfl rfl ⟨rfl, hz_yJx4a65c_get_915e3_1⟩ ⟨Nat.le_of_ble_eq_true rfl, Nat.le_of_ble_eq_true rfl⟩) ⟨HWL_bl, va_recv hK hP (ci := 0) (q0 := posL 9 (LC cf)) rfl (hI.ob 9 (mF 9 rfl) rfl), (HWL_wi hP hK (WL_D hD) hS hA hEV)⟩ rfl rfl hl.1 rfl (lv_room (Nat.le_of_ble_eq_true rfl)) dX9_readCodes_8 ⟨Nat.le_of_ble_eq_true rfl, Nat.le_of_ble_eq_true rfl⟩) hS hP (fun r1 H locs hw hP hS => ?_)
  obtain rfl := hw
  have lv2 : a0.toNatClampNeg < cf 2 := by rw [tn_]; omega
  refine va_castS (cC := dC 6) hx hb hown (hts _ (vA_in _ _ (in_12 _ (zs1 (zs0))))) (hK.1 6 _ rfl).2 (va_recv hK hP (ci := 6) (q0 := posL (64 * (a0.toNatClampNeg + 1) + 6) (LC cf)) rfl (hI.ob (64 * (a0.toNatClampNeg + 1) + 6) (mP 6 a0.toNatClampNeg (by decide) lv2 (kl_le hC 2 (by decide))) (shC_p 6 a0.toNatClampNeg (by decide)))) dX9_readCodes_11 ?_
  refine lv_astore_n (lv' := [(3, .ref (ad (64 * (a0.toNatClampNeg + 1) + 6))), (0, .ref (ad 3)), (1, .int a0), (2, .int a1)]) hx hb dX9_readCodes_14 rfl hl (by decide) rfl (fun ls hl => ?_)
  refine lv_iconst (v := 0) hx hb dX9_readCodes_15 (by decide) ?_
  refine lv_istore (lv' := [(4, .int 0), (3, .ref (ad (64 * (a0.toNatClampNeg + 1) + 6))), (0, .ref (ad 3)), (1, .int a0), (2, .int a1)]) hx hb dX9_readCodes_16 hl (by decide) rfl (fun ls hl => ?_)
  have hL18 : ∀ d : Nat, ∀ (v18_4 : Int32) (E18_ : Nat → va_E) (H : Heap) (locs : List Loc) (ls : Array Slot), 0 ≤ v18_4.toInt ∧ v18_4.toInt ≤ 16 → (∀ b9 : Nat, b9 < v18_4.toNatClampNeg → cd0 E a0.toNatClampNeg b9 a1.toInt (xi (E18_ 26) b9).toInt) → 16 - v18_4.toInt < (d : Int) → IXL cT (shC cf) (spC cf) (LC cf) ad E18_ → Kp w_readCodesX E E18_ → va_P (dC, dI) vwCl (WL (LC cf) ad E18_) H → va_S A s.heap H locs → lv_has ls 6 [(4, .int v18_4), (3, .ref (ad (64 * (a0.toNatClampNeg + 1) + 6))), (0, .ref (ad 3)), (1, .int a0), (2, .int a1)] → W p l e (headSpec v_readCodesX rm_readCodesX).room s m args below meth c H locs 0 0 Q (F0 m 18 ls []) := by
    intro d
    induction d with
    | zero =>
      intro v18_4 E18_ H locs ls hv18_4 hx18_0 hx18_1 hI hKp hP hS hl
      exact absurd hx18_1 (by first | exact ms_zu hv18_4.2 | omega)
    | succ d ih18 =>
      intro v18_4 E18_ H locs ls hv18_4 hx18_0 hx18_1 hI hKp hP hS hl
      refine lv_iload hx hb dX9_readCodes_18 (lv_at hl 0 rfl) ?_
      refine lv_bipush (v := 16) hx hb dX9_readCodes_20 (by decide) ?_
      refine lv_icmp_ge (tgt := 53) hx hb dX9_readCodes_22 (by decide) (fun c3 => ?_) (fun c3 => ?_)
      · --22 taken
        have t4 : (16 : Int) ≤ v18_4.toInt := ti_le c3
        have i5 : 16 ≤ v18_4.toInt ∧ v18_4.toInt ≤ 16 := iv_le_r t4 (il_ 16) hv18_4 (by decide)
        refine lv_iconst (v := 0) hx hb dX9_readCodes_53 (by decide) ?_
        refine lv_istore (lv' := [(4, .int 0), (3, .ref (ad (64 * (a0.toNatClampNeg + 1) + 6))), (0, .ref (ad 3)), (1, .int a0), (2, .int a1)]) hx hb dX9_readCodes_54 hl (by decide) rfl (fun ls hl => ?_)
        have hL56 : ∀ d : Nat, ∀ (v56_4 : Int32) (E56_ : Nat → va_E) (H : Heap) (locs : List Loc) (ls : Array Slot), 0 ≤ v56_4.toInt ∧ v56_4.toInt ≤ 300 → (∀ b9 : Nat, b9 < 16 → cdN E a0 a1 v56_4.toNatClampNeg b9 (xi (E56_ 26) b9).toInt) → (∀ b9 : Nat, b9 < 16 → scN E a0 a1 v56_4.toNatClampNeg b9 (xi (E56_ 27) b9).toInt) → v56_4.toInt ≤ ((cf 3 : Nat) : Int) → 300 - v56_4.toInt < (d : Int) → IXL cT (shC cf) (spC cf) (LC cf) ad E56_ → Kp w_readCodesX E E56_ → va_P (dC, dI) vwCl (WL (LC cf) ad E56_) H → va_S A s.heap H locs → lv_has ls 6 [(4, .int v56_4), (3, .ref (ad (64 * (a0.toNatClampNeg + 1) + 6))), (0, .ref (ad 3)), (1, .int a0), (2, .int a1)] → W p l e (headSpec v_readCodesX rm_readCodesX).room s m args below meth c H locs 0 0 Q (F0 m 56 ls []) := by
          intro d
          induction d with
          | zero =>
            intro v56_4 E56_ H locs ls hv56_4 hx56_0 hx56_1 hx56_2 hx56_3 hI hKp hP hS hl
            exact absurd hx56_3 (by first | exact ms_zu hv56_4.2 | omega)
          | succ d ih56 =>
            intro v56_4 E56_ H locs ls hv56_4 hx56_0 hx56_1 hx56_2 hx56_3 hI hKp hP hS hl
            refine lv_iload hx hb dX9_readCodes_56 (lv_at hl 0 rfl) ?_
            refine lv_aload_n hx hb dX9_readCodes_58 rfl (lv_at hl 2 rfl) ?_
            refine th_getL (ci := 10) (C := RX9) (T := TX9) (N := 9) (v := .ref (ad 1)) hx hb hts hinX9 hown hK hP hI 3 (mF 3 rfl) rfl rfl 0 (Nat.le_of_ble_eq_true rfl) (hts _ (vA_in _ _ (in_11 _ (zs16 (zs16 (zs4 (zs1 (zs1 (zs1 (zs0)))))))))) (fun _ h9 => h9) (hI.fr 3 (mF 3 rfl) rfl (Nat.le_of_ble_eq_true rfl) 1 rfl) dX9_readCodes_59 ?_
            refine th_getL (ci := 1) (C := RX0) (T := TX0) (N := 11) (v := .ref (ad 10)) hx hb hts hinX0 hown hK hP hI 1 (mF 1 rfl) rfl rfl 6 (Nat.le_of_ble_eq_true rfl) (hts _ (vA_in _ _ (in_12 _ (zs16 (zs1 (zs0)))))) (fun _ h9 => h9) (hI.fr 1 (mF 1 rfl) rfl (Nat.le_of_ble_eq_true rfl) 10 rfl) dX9_readCodes_62 ?_
            refine th_riL (va_runV (As := []) (rest := [.int v56_4]) ⟨hx, hb, hml, hown, hts⟩ (q_size3 l dC dI cT cf hC ad E56_ H.size hI) (cwV 0 hts (gi_V (in_12 _ (zs16 (zs4 (zs4 (zs1 (zs1 (zs0))))))) (in_4 _ (zs16 (zs16 (zs1 (zs1 (zs1 (zs0))))))) (in_4 _ (zs16 (zs16 (zs4 (zs0))))) (in_3 _ (zs16 (zs1 (zs1 (zs0))))) (in_4 _ (zs16 (zs1 (zs1 (zs1 (zs0))))))) rfl rfl rfl ⟨rfl, hz_yJx4a65c_size_8abf5_0⟩ ⟨Nat.le_of_ble_eq_true rfl, Nat.le_of_ble_eq_true rfl⟩) ⟨HWL_bl, va_recv hK hP (ci := 0) (q0 := posL 10 (LC cf)) rfl (hI.ob 10 (mF 10 rfl) rfl), (HWL_wi hP hK (WL_D hD) hS hA hEV)⟩ rfl rfl hl.1 rfl (lv_room (Nat.le_of_ble_eq_true rfl)) dX9_readCodes_65 ⟨Nat.le_of_ble_eq_true rfl, Nat.le_of_ble_eq_true rfl⟩) hS hP (fun r6 H locs hw hP hS => ?_)
            obtain ⟨f7, f8⟩ := hw
            refine lv_icmp_ge (tgt := 145) hx hb dX9_readCodes_68 (by decide) (fun c9 => ?_) (fun c9 => ?_)
            · --68 taken
              have t10 : r6.toInt ≤ v56_4.toInt := ti_le c9
              refine lv_aload_n hx hb dX9_readCodes_145 rfl (lv_at hl 2 rfl) ?_
              refine th_getL (ci := 10) (C := RX9) (T := TX9) (N := 9) (v := .ref (ad 1)) hx hb hts hinX9 hown hK hP hI 3 (mF 3 rfl) rfl rfl 0 (Nat.le_of_ble_eq_true rfl) (hts _ (vA_in _ _ (in_11 _ (zs16 (zs16 (zs4 (zs1 (zs1 (zs1 (zs0)))))))))) (fun _ h9 => h9) (hI.fr 3 (mF 3 rfl) rfl (Nat.le_of_ble_eq_true rfl) 1 rfl) dX9_readCodes_146 ?_
              refine lv_iload_n hx hb dX9_readCodes_149 rfl (lv_at hl 3 rfl) ?_
              refine lv_iload_n hx hb dX9_readCodes_150 rfl (lv_at hl 4 rfl) ?_
              refine th_riL (va_runV (As := [.int a0, .int a1]) (rest := []) ⟨hx, hb, hml, hown, hts⟩ (q_disqualifiedInX l dC dI cT cf hC ad E56_ H.size a0 a1 hI) (cwV 2 hts (gi_V (in_12 _ (zs16 (zs4 (zs4 (zs1 (zs1 (zs1 (zs0)))))))) (in_5 _ (zs4 (zs0))) (in_5 _ (zs4 (zs1 (zs0)))) (in_5 _ (zs4 (zs1 (zs1 (zs0))))) (in_5 _ (zs4 (zs1 (zs1 (zs1 (zs0))))))) rfl rfl rfl ⟨rfl, hz_yX0_disqualifiedIn_2⟩ ⟨Nat.le_of_ble_eq_true rfl, Nat.le_of_ble_eq_true rfl⟩) ⟨HWL_bl, va_recv hK hP (ci := 1) (q0 := posL 1 (LC cf)) rfl (hI.ob 1 (mF 1 rfl) rfl), (HWL_wi hP hK (WL_D hD) hS hA hEV)⟩ rfl rfl hl.1 rfl (lv_room (Nat.le_of_ble_eq_true rfl)) dX9_readCodes_151 ⟨Nat.le_of_ble_eq_true rfl, Nat.le_of_ble_eq_true rfl⟩) hS hP (fun r11 H locs hw hP hS => ?_)
              obtain ⟨f12, f13⟩ := hw
              have k14 : DqS E (cf 5) a0.toInt a1.toInt r11 := DqS.cg (K64.of hKp (fun o9 ho9 j9 => wl_p rfl rfl ho9)) f13
              refine lv_istore (lv' := [(4, .int r11), (3, .ref (ad (64 * (a0.toNatClampNeg + 1) + 6))), (0, .ref (ad 3)), (1, .int a0), (2, .int a1)]) hx hb dX9_readCodes_154 hl (by decide) rfl (fun ls hl => ?_)
              refine lv_iconst (v := 0) hx hb dX9_readCodes_156 (by decide) ?_
              refine lv_istore (lv' := [(5, .int 0), (4, .int r11), (3, .ref (ad (64 * (a0.toNatClampNeg + 1) + 6))), (0, .ref (ad 3)), (1, .int a0), (2, .int a1)]) hx hb dX9_readCodes_157 hl (by decide) rfl (fun ls hl => ?_)
              have hL159 : ∀ d : Nat, ∀ (v159_5 : Int32) (E159_ : Nat → va_E) (H : Heap) (locs : List Loc) (ls : Array Slot), 0 ≤ v159_5.toInt ∧ v159_5.toInt ≤ 16 → (∀ b9 : Nat, b9 < v159_5.toNatClampNeg → CdR cf E a0 a1 b9 (xi (E159_ 26) b9).toInt) → (∀ b9 : Nat, v159_5.toNatClampNeg ≤ b9 → b9 < 16 → cdN E a0 a1 (cf 3) b9 (xi (E159_ 26) b9).toInt) → (∀ b9 : Nat, b9 < 16 → scN E a0 a1 (cf 3) b9 (xi (E159_ 27) b9).toInt) → 16 - v159_5.toInt < (d : Int) → IXL cT (shC cf) (spC cf) (LC cf) ad E159_ → Kp w_readCodesX E E159_ → va_P (dC, dI) vwCl (WL (LC cf) ad E159_) H → va_S A s.heap H locs → lv_has ls 6 [(5, .int v159_5), (4, .int r11), (3, .ref (ad (64 * (a0.toNatClampNeg + 1) + 6))), (0, .ref (ad 3)), (1, .int a0), (2, .int a1)] → W p l e (headSpec v_readCodesX rm_readCodesX).room s m args below meth c H locs 0 0 Q (F0 m 159 ls []) := by
                intro d
                induction d with
                | zero =>
                  intro v159_5 E159_ H locs ls hv159_5 hx159_0 hx159_1 hx159_2 hx159_3 hI hKp hP hS hl
                  exact absurd hx159_3 (by first | exact ms_zu hv159_5.2 | omega)
                | succ d ih159 =>
                  intro v159_5 E159_ H locs ls hv159_5 hx159_0 hx159_1 hx159_2 hx159_3 hI hKp hP hS hl
                  refine lv_iload hx hb dX9_readCodes_159 (lv_at hl 0 rfl) ?_
                  refine lv_bipush (v := 16) hx hb dX9_readCodes_161 (by decide) ?_
                  refine lv_icmp_ge (tgt := 190) hx hb dX9_readCodes_163 (by decide) (fun c15 => ?_) (fun c15 => ?_)
                  · --163 taken
                    have t16 : (16 : Int) ≤ v159_5.toInt := ti_le c15
                    have i17 : 16 ≤ v159_5.toInt ∧ v159_5.toInt ≤ 16 := iv_le_r t16 (il_ 16) hv159_5 (by decide)
                    rw [hQ]
                    exact W.vret hx hb hr (fun t ht hW => ⟨⟨E159_, rfl, ⟨hI, hKp, (fun b9 h9 => ⟨hx159_0 b9 (by rw [tn_]; omega), hx159_2 b9 h9⟩)⟩, by show va_P (dC, dI) vwCl (WL (LC cf) ad E159_) t.heap; rw [ht]; exact hP⟩, hS.F ht⟩) hS.2.2 dX9_readCodes_190
                  · --163 not
                    have t18 : v159_5.toInt < 16 := ti_nle c15
                    have i19 : 0 ≤ v159_5.toInt ∧ v159_5.toInt ≤ 15 := iv_lt_l t18 hv159_5 (il_ 16) (by decide)
                    refine lv_iload hx hb dX9_readCodes_166 (lv_at hl 1 rfl) ?_
                    refine lv_iload hx hb dX9_readCodes_168 (lv_at hl 0 rfl) ?_
                    refine lv_ishr hx hb dX9_readCodes_170 ?_
                    refine lv_topi (fun y20 ey20 => ?_)
                    refine lv_iconst (v := 1) hx hb dX9_readCodes_171 (by decide) ?_
                    refine lv_iand hx hb dX9_readCodes_172 ?_
                    refine lv_topi (fun y21 ey21 => ?_)
                    have iy21 : 0 ≤ y21.toInt ∧ y21.toInt ≤ 1 := ti_and (by decide) ey21
                    refine lv_if_eq (tgt := 184) hx hb dX9_readCodes_173 (by decide) (fun c22 => ?_) (fun c22 => ?_)
                    · --173 taken
                      have t23 : y21.toInt = 0 := ti_eq c22
                      have i24 : 0 ≤ y21.toInt ∧ y21.toInt ≤ 0 := iv_eqi t23 iy21 (il_ 0) (by decide)
                      obtain ⟨y25, ey25⟩ : ∃ y : Int32, y = v159_5 + (1 : Int32) := ⟨_, rfl⟩
                      obtain ⟨ty25, iy25⟩ := ti_add (e := 1) (f := 16) i19 ln_1 ey25 (by decide)
                      have ty25 : y25.toInt = v159_5.toInt + 1 := ty25
                      have iy25 : 1 ≤ y25.toInt ∧ y25.toInt ≤ 16 := iy25
                      refine lv_iinc (v := y25) (lv' := [(5, .int y25), (4, .int r11), (3, .ref (ad (64 * (a0.toNatClampNeg + 1) + 6))), (0, .ref (ad 3)), (1, .int a0), (2, .int a1)]) hx hb dX9_readCodes_184 hl (k := 0) rfl (by rw [ey25]; rfl) (by decide) rfl (fun ls hl => ?_)
                      refine lv_goto (tgt := 159) hx hb dX9_readCodes_187 (by decide) ?_
                      exact ih159 y25 E159_ _ _ _ (iv_w iy25 (by decide)) (row_k (P := (fun b9 c9 => CdR cf E a0 a1 b9 c9)) hx159_0 (CdR.in (fun q9 => (bit_t (a := r11) (v := v159_5) (by omega) (by omega) ey20 ey21).mp (by omega) ((k14 v159_5.toNatClampNeg (show v159_5.toNatClampNeg < 16 by rw [tn_]; omega)).mpr q9)) (hx159_1 _ (Nat.le_refl _) (show v159_5.toNatClampNeg < 16 by rw [tn_]; omega))) (by omega) (by omega)) (row_b0 (P := (fun b9 c9 => cdN E a0 a1 (cf 3) b9 c9)) hx159_1 (by omega) (by omega)) hx159_2 (by first | exact ms_su hx159_3 ty25 (by decide) | omega) hI hKp hP hS (lv_sub hl [0, 1, 2, 3, 4, 5] rfl)
                    · --173 not
                      have t26 : ¬ y21.toInt = 0 := ti_ne c22
                      have i27 : 1 ≤ y21.toInt ∧ y21.toInt ≤ 1 := iv_ne_l t26 iy21 (il_ 0)
                      refine lv_aload_n hx hb dX9_readCodes_176 rfl (lv_at hl 3 rfl) ?_
                      refine th_getL (ci := 10) (C := RX9) (T := TX9) (N := 9) (v := .ref (ad 26)) hx hb hts hinX9 hown hK hP hI 3 (mF 3 rfl) rfl rfl 1 (Nat.le_of_ble_eq_true rfl) (hts _ (vA_in _ _ (in_12 _ (zs4 (zs1 (zs1 (zs0))))))) (fun _ h9 => h9) (hI.fr 3 (mF 3 rfl) rfl (Nat.le_of_ble_eq_true rfl) 26 rfl) dX9_readCodes_177 ?_
                      refine lv_iload hx hb dX9_readCodes_180 (lv_at hl 0 rfl) ?_
                      refine lv_iconst (v := 5) hx hb dX9_readCodes_182 (by decide) ?_
                      have n28 : vp_in v159_5 16 := (iv_in (n := 16) i19 (by decide))
                      refine th_iastL hx hb hK hP (WL_D hD) hS hI 26 (mF 26 rfl) rfl rfl n28 (okI rfl (iv_w ln_5 (by decide))) dX9_readCodes_183 (fun H locs E29 pw30 hI hP hS => ?_)
                      have hKp := hKp.pw pw30 rfl
                      obtain ⟨y31, ey31⟩ : ∃ y : Int32, y = v159_5 + (1 : Int32) := ⟨_, rfl⟩
                      obtain ⟨ty31, iy31⟩ := ti_add (e := 1) (f := 16) i19 ln_1 ey31 (by decide)
                      have ty31 : y31.toInt = v159_5.toInt + 1 := ty31
                      have iy31 : 1 ≤ y31.toInt ∧ y31.toInt ≤ 16 := iy31
                      refine lv_iinc (v := y31) (lv' := [(5, .int y31), (4, .int r11), (3, .ref (ad (64 * (a0.toNatClampNeg + 1) + 6))), (0, .ref (ad 3)), (1, .int a0), (2, .int a1)]) hx hb dX9_readCodes_184 hl (k := 0) rfl (by rw [ey31]; rfl) (by decide) rfl (fun ls hl => ?_)
                      refine lv_goto (tgt := 159) hx hb dX9_readCodes_187 (by decide) ?_
                      exact ih159 y31 E29 _ _ _ (iv_w iy31 (by decide)) (row_s (P := (fun b9 c9 => CdR cf E a0 a1 b9 c9)) hx159_0 pw30 (CdR.out ((k14 v159_5.toNatClampNeg (show v159_5.toNatClampNeg < 16 by rw [tn_]; omega)).mp (bit_f (a := r11) (v := v159_5) (by omega) (by omega) ey20 ey21 (by omega)))) (by omega) (by omega)) (row_b (P := (fun b9 c9 => cdN E a0 a1 (cf 3) b9 c9)) hx159_1 pw30 (by omega) (by omega)) (row_o (o := 27) (P := (fun b9 c9 => scN E a0 a1 (cf 3) b9 c9)) (A := fun b9 => b9 < 16) hx159_2 pw30 (by decide)) (by first | exact ms_su hx159_3 ty31 (by decide) | omega) hI hKp hP hS (lv_sub hl [0, 1, 2, 3, 4, 5] rfl)
              exact hL159 (17) (0 : Int32) E56_ _ _ _ (iv_w ln_0 (by decide)) (fun b9 h9 => absurd h9 (Nat.not_lt_zero b9)) (by have h9 := hx56_0; rw [show v56_4.toNatClampNeg = cf 3 by rw [tn_]; omega] at h9; exact fun b9 _ g9 => h9 b9 g9) (by have h9 := hx56_1; rw [show v56_4.toNatClampNeg = cf 3 by rw [tn_]; omega] at h9; exact h9) (by have h9 := ln_0; first | exact ms_bu h9.1 (by decide) | omega) hI hKp hP hS (lv_sub hl [0, 1, 2, 3, 4, 5] rfl)
            · --68 not
              have t32 : v56_4.toInt < r6.toInt := ti_nle c9
              have i33 : 0 ≤ v56_4.toInt ∧ v56_4.toInt ≤ 299 := iv_lt_l t32 hv56_4 f7 (by decide)
              have i34 : 1 ≤ r6.toInt ∧ r6.toInt ≤ 300 := iv_lt_r t32 hv56_4 f7 (by decide)
              refine lv_aload_n hx hb dX9_readCodes_71 rfl (lv_at hl 2 rfl) ?_
              refine th_getL (ci := 10) (C := RX9) (T := TX9) (N := 9) (v := .ref (ad 1)) hx hb hts hinX9 hown hK hP hI 3 (mF 3 rfl) rfl rfl 0 (Nat.le_of_ble_eq_true rfl) (hts _ (vA_in _ _ (in_11 _ (zs16 (zs16 (zs4 (zs1 (zs1 (zs1 (zs0)))))))))) (fun _ h9 => h9) (hI.fr 3 (mF 3 rfl) rfl (Nat.le_of_ble_eq_true rfl) 1 rfl) dX9_readCodes_72 ?_
              refine th_getL (ci := 1) (C := RX0) (T := TX0) (N := 11) (v := .ref (ad 10)) hx hb hts hinX0 hown hK hP hI 1 (mF 1 rfl) rfl rfl 6 (Nat.le_of_ble_eq_true rfl) (hts _ (vA_in _ _ (in_12 _ (zs16 (zs1 (zs0)))))) (fun _ h9 => h9) (hI.fr 1 (mF 1 rfl) rfl (Nat.le_of_ble_eq_true rfl) 10 rfl) dX9_readCodes_75 ?_
              refine lv_iload hx hb dX9_readCodes_78 (lv_at hl 0 rfl) ?_
              refine th_rrL (va_runV (As := [.int v56_4]) (rest := []) ⟨hx, hb, hml, hown, hts⟩ (q_get3 l dC dI cT cf hC ad E56_ H.size v56_4 hI (by omega)) (cwV 1 hts (gi_V (in_12 _ (zs16 (zs4 (zs4 (zs0))))) (in_4 _ (zs16 (zs16 (zs4 (zs1 (zs1 (zs0))))))) (in_4 _ (zs16 (zs16 (zs4 (zs1 (zs1 (zs1 (zs0)))))))) (in_3 _ (zs16 (zs1 (zs1 (zs0))))) (in_3 _ (zs16 (zs16 (zs4 (zs1 (zs1 (zs1 (zs0))))))))) rfl rfl rfl ⟨rfl, hz_yJx4a65c_get_915e3_1⟩ ⟨Nat.le_of_ble_eq_true rfl, Nat.le_of_ble_eq_true rfl⟩) ⟨HWL_bl, va_recv hK hP (ci := 0) (q0 := posL 10 (LC cf)) rfl (hI.ob 10 (mF 10 rfl) rfl), (HWL_wi hP hK (WL_D hD) hS hA hEV)⟩ rfl rfl hl.1 rfl (lv_room (Nat.le_of_ble_eq_true rfl)) dX9_readCodes_80 ⟨Nat.le_of_ble_eq_true rfl, Nat.le_of_ble_eq_true rfl⟩) hS hP (fun r35 H locs hw hP hS => ?_)
              obtain rfl := hw
              have lv36 : v56_4.toNatClampNeg < cf 3 := by rw [tn_]; omega
              refine va_castS (cC := dC 7) hx hb hown (hts _ (vA_in _ _ (in_12 _ (zs16 (zs1 (zs1 (zs0))))))) (hK.1 7 _ rfl).2 (va_recv hK hP (ci := 7) (q0 := posL (64 * (v56_4.toNatClampNeg + 1) + 12) (LC cf)) rfl (hI.ob (64 * (v56_4.toNatClampNeg + 1) + 12) (mP 12 v56_4.toNatClampNeg (by decide) lv36 (kl_le hC 3 (by decide))) (shC_p 12 v56_4.toNatClampNeg (by decide)))) dX9_readCodes_83 ?_
              refine lv_astore (lv' := [(5, .ref (ad (64 * (v56_4.toNatClampNeg + 1) + 12))), (4, .int v56_4), (3, .ref (ad (64 * (a0.toNatClampNeg + 1) + 6))), (0, .ref (ad 3)), (1, .int a0), (2, .int a1)]) hx hb dX9_readCodes_86 hl (by decide) rfl (fun ls hl => ?_)
              refine lv_aload hx hb dX9_readCodes_88 (lv_at hl 0 rfl) ?_
              have i37 : 0 ≤ (xi (E (64 * (v56_4.toNatClampNeg + 1) + 12)) 0).toInt ∧ (xi (E (64 * (v56_4.toNatClampNeg + 1) + 12)) 0).toInt ≤ 19 := hI0.iv (64 * (v56_4.toNatClampNeg + 1) + 12) (mP 12 v56_4.toNatClampNeg (by decide) lv36 (kl_le hC 3 (by decide))) (shC_p 12 v56_4.toNatClampNeg (by decide)) (Nat.le_of_ble_eq_true rfl) (spC_p 12 v56_4.toNatClampNeg (by decide) 0)
              refine th_getL (ci := 7) (C := RX6) (T := TX6) (N := 5) (v := .int (xi (E (64 * (v56_4.toNatClampNeg + 1) + 12)) 0)) hx hb hts hinX6 hown hK hP hI (64 * (v56_4.toNatClampNeg + 1) + 12) (mP 12 v56_4.toNatClampNeg (by decide) lv36 (kl_le hC 3 (by decide))) (shC_p 12 v56_4.toNatClampNeg (by decide)) rfl 0 (Nat.le_of_ble_eq_true rfl) (hts _ (vA_in _ _ (in_12 _ (zs16 (zs1 (zs1 (zs1 (zs0)))))))) (fun _ h9 => h9) (th_v0L hKp hI0 (64 * (v56_4.toNatClampNeg + 1) + 12) (mP 12 v56_4.toNatClampNeg (by decide) lv36 (kl_le hC 3 (by decide))) (shC_p 12 v56_4.toNatClampNeg (by decide)) (Nat.le_of_ble_eq_true rfl) (spC_p 12 v56_4.toNatClampNeg (by decide) 0) (wl_p rfl rfl (by omega))) dX9_readCodes_90 ?_
              refine lv_iload_n hx hb dX9_readCodes_93 rfl (lv_at hl 4 rfl) ?_
              refine lv_icmp_ne (tgt := 139) hx hb dX9_readCodes_94 (by decide) (fun c38 => ?_) (fun c38 => ?_)
              · --94 taken
                have t39 : ¬ (xi (E (64 * (v56_4.toNatClampNeg + 1) + 12)) 0).toInt = a0.toInt := ti_ne c38
                obtain ⟨y40, ey40⟩ : ∃ y : Int32, y = v56_4 + (1 : Int32) := ⟨_, rfl⟩
                obtain ⟨ty40, iy40⟩ := ti_add (e := 1) (f := 300) i33 ln_1 ey40 (by decide)
                have ty40 : y40.toInt = v56_4.toInt + 1 := ty40
                have iy40 : 1 ≤ y40.toInt ∧ y40.toInt ≤ 300 := iy40
                refine lv_iinc (v := y40) (lv' := [(4, .int y40), (5, .ref (ad (64 * (v56_4.toNatClampNeg + 1) + 12))), (3, .ref (ad (64 * (a0.toNatClampNeg + 1) + 6))), (0, .ref (ad 3)), (1, .int a0), (2, .int a1)]) hx hb dX9_readCodes_139 hl (k := 1) rfl (by rw [ey40]; rfl) (by decide) rfl (fun ls hl => ?_)
                refine lv_goto (tgt := 56) hx hb dX9_readCodes_142 (by decide) ?_
                exact ih56 y40 E56_ _ _ _ (iv_w iy40 (by decide)) (fun b9 h9 => (hx56_0 b9 h9).no (by rw [tn_ y40, tn_ v56_4]; omega) (show ¬ ((xi (E (64 * (v56_4.toNatClampNeg + 1) + 12)) 0).toInt = a0.toInt ∧ (xi (E (64 * (v56_4.toNatClampNeg + 1) + 12)) 1).toInt = (nI b9).toInt ∧ (xi (E (64 * (v56_4.toNatClampNeg + 1) + 12)) 4).toInt ≤ a1.toInt) by omega)) (fun b9 h9 => (hx56_1 b9 h9).no (by rw [tn_ y40, tn_ v56_4]; omega) (show ¬ ((xi (E (64 * (v56_4.toNatClampNeg + 1) + 12)) 0).toInt = a0.toInt ∧ (xi (E (64 * (v56_4.toNatClampNeg + 1) + 12)) 1).toInt = (nI b9).toInt ∧ (xi (E (64 * (v56_4.toNatClampNeg + 1) + 12)) 4).toInt ≤ a1.toInt) by omega)) (by omega) (by first | exact ms_su hx56_3 ty40 (by decide) | omega) hI hKp hP hS (lv_sub hl [0, 2, 3, 4, 5] rfl)
              · --94 not
                have t41 : (xi (E (64 * (v56_4.toNatClampNeg + 1) + 12)) 0).toInt = a0.toInt := ti_eq c38
                refine lv_aload hx hb dX9_readCodes_97 (lv_at hl 0 rfl) ?_
                have i42 : 0 ≤ (xi (E (64 * (v56_4.toNatClampNeg + 1) + 12)) 4).toInt ∧ (xi (E (64 * (v56_4.toNatClampNeg + 1) + 12)) 4).toInt ≤ 400 := hI0.iv (64 * (v56_4.toNatClampNeg + 1) + 12) (mP 12 v56_4.toNatClampNeg (by decide) lv36 (kl_le hC 3 (by decide))) (shC_p 12 v56_4.toNatClampNeg (by decide)) (Nat.le_of_ble_eq_true rfl) (spC_p 12 v56_4.toNatClampNeg (by decide) 4)
                refine th_getL (ci := 7) (C := RX6) (T := TX6) (N := 5) (v := .int (xi (E (64 * (v56_4.toNatClampNeg + 1) + 12)) 4)) hx hb hts hinX6 hown hK hP hI (64 * (v56_4.toNatClampNeg + 1) + 12) (mP 12 v56_4.toNatClampNeg (by decide) lv36 (kl_le hC 3 (by decide))) (shC_p 12 v56_4.toNatClampNeg (by decide)) rfl 4 (Nat.le_of_ble_eq_true rfl) (hts _ (vA_in _ _ (in_12 _ (zs16 (zs4 (zs0)))))) (fun _ h9 => h9) (th_v0L hKp hI0 (64 * (v56_4.toNatClampNeg + 1) + 12) (mP 12 v56_4.toNatClampNeg (by decide) lv36 (kl_le hC 3 (by decide))) (shC_p 12 v56_4.toNatClampNeg (by decide)) (Nat.le_of_ble_eq_true rfl) (spC_p 12 v56_4.toNatClampNeg (by decide) 4) (wl_p rfl rfl (by omega))) dX9_readCodes_99 ?_
                refine lv_iload_n hx hb dX9_readCodes_102 rfl (lv_at hl 5 rfl) ?_
                refine lv_icmp_le (tgt := 109) hx hb dX9_readCodes_103 (by decide) (fun c43 => ?_) (fun c43 => ?_)
                · --103 taken
                  have t44 : (xi (E (64 * (v56_4.toNatClampNeg + 1) + 12)) 4).toInt ≤ a1.toInt := ti_le c43
                  have i45 : 0 ≤ a1.toInt ∧ a1.toInt ≤ 2147483647 := iv_le_r t44 i42 (iv_all _) (by decide)
                  refine lv_aload_n hx hb dX9_readCodes_109 rfl (lv_at hl 3 rfl) ?_
                  refine th_getL (ci := 10) (C := RX9) (T := TX9) (N := 9) (v := .ref (ad 26)) hx hb hts hinX9 hown hK hP hI 3 (mF 3 rfl) rfl rfl 1 (Nat.le_of_ble_eq_true rfl) (hts _ (vA_in _ _ (in_12 _ (zs4 (zs1 (zs1 (zs0))))))) (fun _ h9 => h9) (hI.fr 3 (mF 3 rfl) rfl (Nat.le_of_ble_eq_true rfl) 26 rfl) dX9_readCodes_110 ?_
                  refine lv_aload hx hb dX9_readCodes_113 (lv_at hl 0 rfl) ?_
                  have i46 : 0 ≤ (xi (E (64 * (v56_4.toNatClampNeg + 1) + 12)) 1).toInt ∧ (xi (E (64 * (v56_4.toNatClampNeg + 1) + 12)) 1).toInt ≤ 15 := hI0.iv (64 * (v56_4.toNatClampNeg + 1) + 12) (mP 12 v56_4.toNatClampNeg (by decide) lv36 (kl_le hC 3 (by decide))) (shC_p 12 v56_4.toNatClampNeg (by decide)) (Nat.le_of_ble_eq_true rfl) (spC_p 12 v56_4.toNatClampNeg (by decide) 1)
                  refine th_getL (ci := 7) (C := RX6) (T := TX6) (N := 5) (v := .int (xi (E (64 * (v56_4.toNatClampNeg + 1) + 12)) 1)) hx hb hts hinX6 hown hK hP hI (64 * (v56_4.toNatClampNeg + 1) + 12) (mP 12 v56_4.toNatClampNeg (by decide) lv36 (kl_le hC 3 (by decide))) (shC_p 12 v56_4.toNatClampNeg (by decide)) rfl 1 (Nat.le_of_ble_eq_true rfl) (hts _ (vA_in _ _ (in_12 _ (zs16 (zs4 (zs1 (zs0))))))) (fun _ h9 => h9) (th_v0L hKp hI0 (64 * (v56_4.toNatClampNeg + 1) + 12) (mP 12 v56_4.toNatClampNeg (by decide) lv36 (kl_le hC 3 (by decide))) (shC_p 12 v56_4.toNatClampNeg (by decide)) (Nat.le_of_ble_eq_true rfl) (spC_p 12 v56_4.toNatClampNeg (by decide) 1) (wl_p rfl rfl (by omega))) dX9_readCodes_115 ?_
                  refine lv_aload hx hb dX9_readCodes_118 (lv_at hl 0 rfl) ?_
                  have i47 : 0 ≤ (xi (E (64 * (v56_4.toNatClampNeg + 1) + 12)) 2).toInt ∧ (xi (E (64 * (v56_4.toNatClampNeg + 1) + 12)) 2).toInt ≤ 4 := hI0.iv (64 * (v56_4.toNatClampNeg + 1) + 12) (mP 12 v56_4.toNatClampNeg (by decide) lv36 (kl_le hC 3 (by decide))) (shC_p 12 v56_4.toNatClampNeg (by decide)) (Nat.le_of_ble_eq_true rfl) (spC_p 12 v56_4.toNatClampNeg (by decide) 2)
                  refine th_getL (ci := 7) (C := RX6) (T := TX6) (N := 5) (v := .int (xi (E (64 * (v56_4.toNatClampNeg + 1) + 12)) 2)) hx hb hts hinX6 hown hK hP hI (64 * (v56_4.toNatClampNeg + 1) + 12) (mP 12 v56_4.toNatClampNeg (by decide) lv36 (kl_le hC 3 (by decide))) (shC_p 12 v56_4.toNatClampNeg (by decide)) rfl 2 (Nat.le_of_ble_eq_true rfl) (hts _ (vA_in _ _ (in_12 _ (zs16 (zs4 (zs1 (zs1 (zs0)))))))) (fun _ h9 => h9) (th_v0L hKp hI0 (64 * (v56_4.toNatClampNeg + 1) + 12) (mP 12 v56_4.toNatClampNeg (by decide) lv36 (kl_le hC 3 (by decide))) (shC_p 12 v56_4.toNatClampNeg (by decide)) (Nat.le_of_ble_eq_true rfl) (spC_p 12 v56_4.toNatClampNeg (by decide) 2) (wl_p rfl rfl (by omega))) dX9_readCodes_120 ?_
                  have n48 : vp_in (xi (E (64 * (v56_4.toNatClampNeg + 1) + 12)) 1) 16 := (iv_in (n := 16) i46 (by decide))
                  refine th_iastL hx hb hK hP (WL_D hD) hS hI 26 (mF 26 rfl) rfl rfl n48 (okI rfl (iv_w i47 (by decide))) dX9_readCodes_123 (fun H locs E49 pw50 hI hP hS => ?_)
                  have hKp := hKp.pw pw50 rfl
                  refine lv_aload_n hx hb dX9_readCodes_124 rfl (lv_at hl 3 rfl) ?_
                  refine th_getL (ci := 10) (C := RX9) (T := TX9) (N := 9) (v := .ref (ad 27)) hx hb hts hinX9 hown hK hP hI 3 (mF 3 rfl) rfl rfl 2 (Nat.le_of_ble_eq_true rfl) (hts _ (vA_in _ _ (in_12 _ (zs4 (zs4 (zs1 (zs1 (zs0)))))))) (fun _ h9 => h9) (hI.fr 3 (mF 3 rfl) rfl (Nat.le_of_ble_eq_true rfl) 27 rfl) dX9_readCodes_125 ?_
                  refine lv_aload hx hb dX9_readCodes_128 (lv_at hl 0 rfl) ?_
                  refine th_getL (ci := 7) (C := RX6) (T := TX6) (N := 5) (v := .int (xi (E (64 * (v56_4.toNatClampNeg + 1) + 12)) 1)) hx hb hts hinX6 hown hK hP hI (64 * (v56_4.toNatClampNeg + 1) + 12) (mP 12 v56_4.toNatClampNeg (by decide) lv36 (kl_le hC 3 (by decide))) (shC_p 12 v56_4.toNatClampNeg (by decide)) rfl 1 (Nat.le_of_ble_eq_true rfl) (hts _ (vA_in _ _ (in_12 _ (zs16 (zs4 (zs1 (zs0))))))) (fun _ h9 => h9) (th_v0L hKp hI0 (64 * (v56_4.toNatClampNeg + 1) + 12) (mP 12 v56_4.toNatClampNeg (by decide) lv36 (kl_le hC 3 (by decide))) (shC_p 12 v56_4.toNatClampNeg (by decide)) (Nat.le_of_ble_eq_true rfl) (spC_p 12 v56_4.toNatClampNeg (by decide) 1) (wl_p rfl rfl (by omega))) dX9_readCodes_130 ?_
                  refine lv_aload hx hb dX9_readCodes_133 (lv_at hl 0 rfl) ?_
                  have i51 : 0 ≤ (xi (E (64 * (v56_4.toNatClampNeg + 1) + 12)) 3).toInt ∧ (xi (E (64 * (v56_4.toNatClampNeg + 1) + 12)) 3).toInt ≤ 200000 := hI0.iv (64 * (v56_4.toNatClampNeg + 1) + 12) (mP 12 v56_4.toNatClampNeg (by decide) lv36 (kl_le hC 3 (by decide))) (shC_p 12 v56_4.toNatClampNeg (by decide)) (Nat.le_of_ble_eq_true rfl) (spC_p 12 v56_4.toNatClampNeg (by decide) 3)
                  refine th_getL (ci := 7) (C := RX6) (T := TX6) (N := 5) (v := .int (xi (E (64 * (v56_4.toNatClampNeg + 1) + 12)) 3)) hx hb hts hinX6 hown hK hP hI (64 * (v56_4.toNatClampNeg + 1) + 12) (mP 12 v56_4.toNatClampNeg (by decide) lv36 (kl_le hC 3 (by decide))) (shC_p 12 v56_4.toNatClampNeg (by decide)) rfl 3 (Nat.le_of_ble_eq_true rfl) (hts _ (vA_in _ _ (in_12 _ (zs16 (zs4 (zs1 (zs1 (zs1 (zs0))))))))) (fun _ h9 => h9) (th_v0L hKp hI0 (64 * (v56_4.toNatClampNeg + 1) + 12) (mP 12 v56_4.toNatClampNeg (by decide) lv36 (kl_le hC 3 (by decide))) (shC_p 12 v56_4.toNatClampNeg (by decide)) (Nat.le_of_ble_eq_true rfl) (spC_p 12 v56_4.toNatClampNeg (by decide) 3) (wl_p rfl rfl (by omega))) dX9_readCodes_135 ?_
                  have n52 : vp_in (xi (E (64 * (v56_4.toNatClampNeg + 1) + 12)) 1) 16 := (iv_in (n := 16) i46 (by decide))
                  refine th_iastL hx hb hK hP (WL_D hD) hS hI 27 (mF 27 rfl) rfl rfl n52 (okI rfl i51) dX9_readCodes_138 (fun H locs E53 pw54 hI hP hS => ?_)
                  have hKp := hKp.pw pw54 rfl
                  obtain ⟨y55, ey55⟩ : ∃ y : Int32, y = v56_4 + (1 : Int32) := ⟨_, rfl⟩
                  obtain ⟨ty55, iy55⟩ := ti_add (e := 1) (f := 300) i33 ln_1 ey55 (by decide)
                  have ty55 : y55.toInt = v56_4.toInt + 1 := ty55
                  have iy55 : 1 ≤ y55.toInt ∧ y55.toInt ≤ 300 := iy55
                  refine lv_iinc (v := y55) (lv' := [(4, .int y55), (5, .ref (ad (64 * (v56_4.toNatClampNeg + 1) + 12))), (3, .ref (ad (64 * (a0.toNatClampNeg + 1) + 6))), (0, .ref (ad 3)), (1, .int a0), (2, .int a1)]) hx hb dX9_readCodes_139 hl (k := 1) rfl (by rw [ey55]; rfl) (by decide) rfl (fun ls hl => ?_)
                  refine lv_goto (tgt := 56) hx hb dX9_readCodes_142 (by decide) ?_
                  exact ih56 y55 E53 _ _ _ (iv_w iy55 (by decide)) (row_o (o := 26) (P := (fun b9 c9 => cdN E a0 a1 y55.toNatClampNeg b9 c9)) (row_x (P := (fun b9 c9 => cdN E a0 a1 v56_4.toNatClampNeg b9 c9)) (Q := (fun b9 c9 => cdN E a0 a1 y55.toNatClampNeg b9 c9)) hx56_0 pw50 (cdN.yes (n := v56_4.toNatClampNeg) (by rw [tn_ y55, tn_ v56_4]; omega) (by rw [tn_]; omega) (by rw [nI_tn (show 0 ≤ (xi (E (64 * (v56_4.toNatClampNeg + 1) + 12)) 1).toInt by omega)]; exact ⟨by omega, by first | rfl | omega, by omega⟩) (by first | rfl | (show (xi (E (64 * (v56_4.toNatClampNeg + 1) + 12)) 2).toInt = (xi (E (64 * (v56_4.toNatClampNeg + 1) + 12)) 2).toInt; omega))) (fun b9 c9 h9 g9 q9 => q9.no (by rw [tn_ y55, tn_ v56_4]; omega) (fun f9 => g9 (by have f8 : (xi (E (64 * (v56_4.toNatClampNeg + 1) + 12)) 1).toInt = (nI b9).toInt := f9.2.1; rw [nI_toInt (by omega)] at f8; have f7 : (xi (E (64 * (v56_4.toNatClampNeg + 1) + 12)) 1).toInt = (xi (E (64 * (v56_4.toNatClampNeg + 1) + 12)) 1).toInt := (by first | rfl | omega); rw [tn_]; omega)))) pw54 (by decide)) (row_x (P := (fun b9 c9 => scN E a0 a1 v56_4.toNatClampNeg b9 c9)) (Q := (fun b9 c9 => scN E a0 a1 y55.toNatClampNeg b9 c9)) (row_o (o := 27) (P := (fun b9 c9 => scN E a0 a1 v56_4.toNatClampNeg b9 c9)) hx56_1 pw50 (by decide)) pw54 (scN.yes (n := v56_4.toNatClampNeg) (by rw [tn_ y55, tn_ v56_4]; omega) (by rw [tn_]; omega) (by rw [nI_tn (show 0 ≤ (xi (E (64 * (v56_4.toNatClampNeg + 1) + 12)) 1).toInt by omega)]; exact ⟨by omega, by first | rfl | omega, by omega⟩) (by first | rfl | (show (xi (E (64 * (v56_4.toNatClampNeg + 1) + 12)) 3).toInt = (xi (E (64 * (v56_4.toNatClampNeg + 1) + 12)) 3).toInt; omega))) (fun b9 c9 h9 g9 q9 => q9.no (by rw [tn_ y55, tn_ v56_4]; omega) (fun f9 => g9 (by have f8 : (xi (E (64 * (v56_4.toNatClampNeg + 1) + 12)) 1).toInt = (nI b9).toInt := f9.2.1; rw [nI_toInt (by omega)] at f8; have f7 : (xi (E (64 * (v56_4.toNatClampNeg + 1) + 12)) 1).toInt = (xi (E (64 * (v56_4.toNatClampNeg + 1) + 12)) 1).toInt := (by first | rfl | omega); rw [tn_]; omega)))) (by omega) (by first | exact ms_su hx56_3 ty55 (by decide) | omega) hI hKp hP hS (lv_sub hl [0, 2, 3, 4, 5] rfl)
                · --103 not
                  have t56 : a1.toInt < (xi (E (64 * (v56_4.toNatClampNeg + 1) + 12)) 4).toInt := ti_nle c43
                  have i57 : -2147483648 ≤ a1.toInt ∧ a1.toInt ≤ 399 := iv_lt_l t56 (iv_all _) i42 (by decide)
                  refine lv_goto (tgt := 139) hx hb dX9_readCodes_106 (by decide) ?_
                  obtain ⟨y58, ey58⟩ : ∃ y : Int32, y = v56_4 + (1 : Int32) := ⟨_, rfl⟩
                  obtain ⟨ty58, iy58⟩ := ti_add (e := 1) (f := 300) i33 ln_1 ey58 (by decide)
                  have ty58 : y58.toInt = v56_4.toInt + 1 := ty58
                  have iy58 : 1 ≤ y58.toInt ∧ y58.toInt ≤ 300 := iy58
                  refine lv_iinc (v := y58) (lv' := [(4, .int y58), (5, .ref (ad (64 * (v56_4.toNatClampNeg + 1) + 12))), (3, .ref (ad (64 * (a0.toNatClampNeg + 1) + 6))), (0, .ref (ad 3)), (1, .int a0), (2, .int a1)]) hx hb dX9_readCodes_139 hl (k := 1) rfl (by rw [ey58]; rfl) (by decide) rfl (fun ls hl => ?_)
                  refine lv_goto (tgt := 56) hx hb dX9_readCodes_142 (by decide) ?_
                  exact ih56 y58 E56_ _ _ _ (iv_w iy58 (by decide)) (fun b9 h9 => (hx56_0 b9 h9).no (by rw [tn_ y58, tn_ v56_4]; omega) (show ¬ ((xi (E (64 * (v56_4.toNatClampNeg + 1) + 12)) 0).toInt = a0.toInt ∧ (xi (E (64 * (v56_4.toNatClampNeg + 1) + 12)) 1).toInt = (nI b9).toInt ∧ (xi (E (64 * (v56_4.toNatClampNeg + 1) + 12)) 4).toInt ≤ a1.toInt) by omega)) (fun b9 h9 => (hx56_1 b9 h9).no (by rw [tn_ y58, tn_ v56_4]; omega) (show ¬ ((xi (E (64 * (v56_4.toNatClampNeg + 1) + 12)) 0).toInt = a0.toInt ∧ (xi (E (64 * (v56_4.toNatClampNeg + 1) + 12)) 1).toInt = (nI b9).toInt ∧ (xi (E (64 * (v56_4.toNatClampNeg + 1) + 12)) 4).toInt ≤ a1.toInt) by omega)) (by omega) (by first | exact ms_su hx56_3 ty58 (by decide) | omega) hI hKp hP hS (lv_sub hl [0, 2, 3, 4, 5] rfl)
        exact hL56 (301) (0 : Int32) E18_ _ _ _ (iv_w ln_0 (by decide)) (fun b9 h9 => cdN.start (n := (0 : Int32).toNatClampNeg) rfl (hx18_0 b9 (by rw [tn_]; omega))) (fun b9 _ => scN.start (n := (0 : Int32).toNatClampNeg) rfl) (by omega) (by have h9 := ln_0; first | exact ms_bu h9.1 (by decide) | omega) hI hKp hP hS (lv_sub hl [0, 1, 2, 3, 4] rfl)
      · --22 not
        have t59 : v18_4.toInt < 16 := ti_nle c3
        have i60 : 0 ≤ v18_4.toInt ∧ v18_4.toInt ≤ 15 := iv_lt_l t59 hv18_4 (il_ 16) (by decide)
        refine lv_aload_n hx hb dX9_readCodes_25 rfl (lv_at hl 2 rfl) ?_
        refine th_getL (ci := 10) (C := RX9) (T := TX9) (N := 9) (v := .ref (ad 26)) hx hb hts hinX9 hown hK hP hI 3 (mF 3 rfl) rfl rfl 1 (Nat.le_of_ble_eq_true rfl) (hts _ (vA_in _ _ (in_12 _ (zs4 (zs1 (zs1 (zs0))))))) (fun _ h9 => h9) (hI.fr 3 (mF 3 rfl) rfl (Nat.le_of_ble_eq_true rfl) 26 rfl) dX9_readCodes_26 ?_
        refine lv_iload hx hb dX9_readCodes_29 (lv_at hl 0 rfl) ?_
        refine lv_aload_n hx hb dX9_readCodes_31 rfl (lv_at hl 1 rfl) ?_
        refine lv_iload hx hb dX9_readCodes_32 (lv_at hl 0 rfl) ?_
        refine lv_iload_n hx hb dX9_readCodes_34 rfl (lv_at hl 4 rfl) ?_
        refine th_riL (va_runV (As := [.int v18_4, .int a1]) (rest := [.int v18_4, .ref (ad 26)]) ⟨hx, hb, hml, hown, hts⟩ (q_isEnteredIn l dC dI cT cf hC ad E18_ H.size v18_4 a1 a0.toNatClampNeg hI (by omega) i60) (cwV 2 hts (gi_V (in_12 _ (zs16 (zs4 (zs4 (zs1 (zs0)))))) (in_6 _ (zs4 (zs4 (zs4 (zs1 (zs1 (zs1 (zs0)))))))) (in_6 _ (zs16 (zs0))) (in_6 _ (zs16 (zs1 (zs0)))) (in_6 _ (zs16 (zs1 (zs1 (zs0)))))) rfl rfl rfl ⟨rfl, hz_yX5_isEnteredIn_2⟩ ⟨Nat.le_of_ble_eq_true rfl, Nat.le_of_ble_eq_true rfl⟩) ⟨HWL_bl, va_recv hK hP (ci := 6) (q0 := posL (64 * (a0.toNatClampNeg + 1) + 6) (LC cf)) rfl (hI.ob (64 * (a0.toNatClampNeg + 1) + 6) (mP 6 a0.toNatClampNeg (by decide) lv2 (kl_le hC 2 (by decide))) (shC_p 6 a0.toNatClampNeg (by decide))), (HWL_wi hP hK (WL_D hD) hS hA hEV)⟩ rfl rfl hl.1 rfl (lv_room (Nat.le_of_ble_eq_true rfl)) dX9_readCodes_35 ⟨Nat.le_of_ble_eq_true rfl, Nat.le_of_ble_eq_true rfl⟩) hS hP (fun r61 H locs hw hP hS => ?_)
        rcases hw with hw | hw
        · -- isEnteredIn, case 0
          obtain ⟨rfl, f62⟩ := hw
          have k63 : entCd E a0.toNatClampNeg v18_4.toNatClampNeg a1.toInt := by have h9 := f62; rw [hKp.ei (64 * (a0.toNatClampNeg + 1) + 7) v18_4.toNatClampNeg (wl_p rfl rfl (by omega))] at h9; exact h9
          refine lv_if_eq (tgt := 45) hx hb dX9_readCodes_38 (by decide) (fun c64 => ?_) (fun c64 => ?_)
          · --38 taken
            exact absurd c64 (by decide)
          · --38 not
            refine lv_iconst (v := 2) hx hb dX9_readCodes_41 (by decide) ?_
            refine lv_goto (tgt := 46) hx hb dX9_readCodes_42 (by decide) ?_
            have n65 : vp_in v18_4 16 := (iv_in (n := 16) i60 (by decide))
            refine th_iastL hx hb hK hP (WL_D hD) hS hI 26 (mF 26 rfl) rfl rfl n65 (okI rfl (iv_w ln_2 (by decide))) dX9_readCodes_46 (fun H locs E66 pw67 hI hP hS => ?_)
            have hKp := hKp.pw pw67 rfl
            obtain ⟨y68, ey68⟩ : ∃ y : Int32, y = v18_4 + (1 : Int32) := ⟨_, rfl⟩
            obtain ⟨ty68, iy68⟩ := ti_add (e := 1) (f := 16) i60 ln_1 ey68 (by decide)
            have ty68 : y68.toInt = v18_4.toInt + 1 := ty68
            have iy68 : 1 ≤ y68.toInt ∧ y68.toInt ≤ 16 := iy68
            refine lv_iinc (v := y68) (lv' := [(4, .int y68), (3, .ref (ad (64 * (a0.toNatClampNeg + 1) + 6))), (0, .ref (ad 3)), (1, .int a0), (2, .int a1)]) hx hb dX9_readCodes_47 hl (k := 0) rfl (by rw [ey68]; rfl) (by decide) rfl (fun ls hl => ?_)
            refine lv_goto (tgt := 18) hx hb dX9_readCodes_50 (by decide) ?_
            exact ih18 y68 E66 _ _ _ (iv_w iy68 (by decide)) (row_s (P := (fun b9 c9 => cd0 E a0.toNatClampNeg b9 a1.toInt c9)) hx18_0 pw67 (cd0_y k63) (by omega) (by omega)) (by first | exact ms_su hx18_1 ty68 (by decide) | omega) hI hKp hP hS (lv_sub hl [0, 1, 2, 3, 4] rfl)
        · -- isEnteredIn, case 1
          obtain ⟨rfl, f69⟩ := hw
          have k70 : ¬ entCd E a0.toNatClampNeg v18_4.toNatClampNeg a1.toInt := by have h9 := f69; rw [hKp.ei (64 * (a0.toNatClampNeg + 1) + 7) v18_4.toNatClampNeg (wl_p rfl rfl (by omega))] at h9; exact h9
          refine lv_if_eq (tgt := 45) hx hb dX9_readCodes_38 (by decide) (fun c71 => ?_) (fun c71 => ?_)
          · --38 taken
            refine lv_iconst (v := -1) hx hb dX9_readCodes_45 (by decide) ?_
            have n72 : vp_in v18_4 16 := (iv_in (n := 16) i60 (by decide))
            refine th_iastL hx hb hK hP (WL_D hD) hS hI 26 (mF 26 rfl) rfl rfl n72 (okI rfl (iv_w ln_m1 (by decide))) dX9_readCodes_46 (fun H locs E73 pw74 hI hP hS => ?_)
            have hKp := hKp.pw pw74 rfl
            obtain ⟨y75, ey75⟩ : ∃ y : Int32, y = v18_4 + (1 : Int32) := ⟨_, rfl⟩
            obtain ⟨ty75, iy75⟩ := ti_add (e := 1) (f := 16) i60 ln_1 ey75 (by decide)
            have ty75 : y75.toInt = v18_4.toInt + 1 := ty75
            have iy75 : 1 ≤ y75.toInt ∧ y75.toInt ≤ 16 := iy75
            refine lv_iinc (v := y75) (lv' := [(4, .int y75), (3, .ref (ad (64 * (a0.toNatClampNeg + 1) + 6))), (0, .ref (ad 3)), (1, .int a0), (2, .int a1)]) hx hb dX9_readCodes_47 hl (k := 0) rfl (by rw [ey75]; rfl) (by decide) rfl (fun ls hl => ?_)
            refine lv_goto (tgt := 18) hx hb dX9_readCodes_50 (by decide) ?_
            exact ih18 y75 E73 _ _ _ (iv_w iy75 (by decide)) (row_s (P := (fun b9 c9 => cd0 E a0.toNatClampNeg b9 a1.toInt c9)) hx18_0 pw74 (cd0_n k70) (by omega) (by omega)) (by first | exact ms_su hx18_1 ty75 (by decide) | omega) hI hKp hP hS (lv_sub hl [0, 1, 2, 3, 4] rfl)
          · --38 not
            exact absurd c71 (by decide)
  exact hL18 (17) (0 : Int32) E _ _ _ (iv_w ln_0 (by decide)) (fun b9 h9 => absurd h9 (Nat.not_lt_zero b9)) (by have h9 := ln_0; first | exact ms_bu h9.1 (by decide) | omega) hI hKp hP hS (lv_sub hl [0, 1, 2, 3, 4] rfl)
def v_u_codedX : List Cond := .code yX12_coded cX12_coded 4 (some .int) :: vA
abbrev rm_u_codedX : Room := { frames := 5, cells := 0, slots := 0, locals := 200 }
def w_u_codedX : Nat → Nat → Bool := wl [26, 27] []
set_option maxHeartbeats 4000000 in
set_option maxRecDepth 100000 in
theorem q_u_codedX (l : Launch) (dC : Nat → ClassId) (dI : Nat → Nat → Nat) (cT : Nat → ClassId) (cf : Nat → Nat) (hC : CF cf) (ad : Nat → Nat) (E : Nat → va_E) (sz : Nat) (a0 : Int32) (a1 : Int32) (a2 : Int32) (hI0 : IXL cT (shC cf) (spC cf) (LC cf) ad E)  : Met l yX12_coded v_u_codedX rm_u_codedX (va_Pc [.ref (ad 0), .int a0, .int a1, .int a2] (HWL dC dI (TYC cT) cf ad E sz)) (va_Qi (S := Nat → va_E) (fun r u => IXL cT (shC cf) (spC cf) (LC cf) ad u ∧ Kp w_u_codedX E u ∧ (((((((0 ≤ a2.toInt ∧ a2.toInt ≤ (xi (E 1) 0).toInt) ∧ (0 ≤ a0.toInt ∧ a0.toInt < ((cf 2 : Nat) : Int)) ∧ (xi (E (64 * (a0.toNatClampNeg + 1) + 6)) 0).toInt ≤ a2.toInt) ∧ (0 ≤ a1.toInt ∧ a1.toInt < (xi (E 1) 1).toInt)) → (CdR cf E a0 a2 a1.toNatClampNeg r.toInt)) ∧ (¬ (((0 ≤ a2.toInt ∧ a2.toInt ≤ (xi (E 1) 0).toInt) ∧ (0 ≤ a0.toInt ∧ a0.toInt < ((cf 2 : Nat) : Int)) ∧ (xi (E (64 * (a0.toNatClampNeg + 1) + 6)) 0).toInt ≤ a2.toInt) ∧ (0 ≤ a1.toInt ∧ a1.toInt < (xi (E 1) 1).toInt)) → (r.toInt = -1)))))) (HBL dC dI (LC cf) ad) (va_A (WL (LC cf) ad E) sz)) 0 0 (va_A (WL (LC cf) ad E) sz) := by
  obtain ⟨⟨hc0, hc1, hc2, hc3, hc4, hc5⟩, hcr⟩ := id hC
  refine Met.ofW (cc := cX12_coded) (maxL := 4) (ret := (some .int)) (by decide) rfl ?_
  intro p e s m args below meth c s₁ B hml hv
  obtain ⟨hargs, hsz, hP, hK, hD0, hEV⟩ := hv
  subst hsz
  have hx := B.exec
  have hb := B.bytes
  have hr := B.returns
  have hts := atoms_spec (ws := v_u_codedX) B.pre
  have hown : s.vm.findClass RX12 = some m.cls := findClass_of_methodNamed B.named
  have hlocks := B.notSynchronized
  have hinX12 : ∀ w ∈ u_ws RX12 TX12 6, w ∈ v_u_codedX := fun w h => vA_in _ w (in_X12 w h)
  have hinX9 : ∀ w ∈ u_ws RX9 TX9 9, w ∈ v_u_codedX := fun w h => vA_in _ w (in_X9 w h)
  generalize hAe : va_A (WL (LC cf) ad E) s.heap.size = A at hEV ⊢
  have hA : ∀ q : Nat, s.heap.size ≤ q → A q := fun q h => by rw [← hAe]; exact Or.inr h
  have hD : va_D A (WL (LC cf) ad E) := by rw [← hAe]; exact hD0.self
  have hS : va_S A s.heap s.heap [] := va_S.rf
  have hI := hI0
  have hKp : Kp w_u_codedX E E := Kp.rf
  have hl := lv_entry ([.ref (ad 0), .int a0, .int a1, .int a2]) (n := 4) (Nat.le_of_ble_eq_true rfl)
  obtain ⟨Q, hQ⟩ : ∃ Q, Q = MQ below (va_Qi (S := Nat → va_E) (fun r u => IXL cT (shC cf) (spC cf) (LC cf) ad u ∧ Kp w_u_codedX E u ∧ (((((((0 ≤ a2.toInt ∧ a2.toInt ≤ (xi (E 1) 0).toInt) ∧ (0 ≤ a0.toInt ∧ a0.toInt < ((cf 2 : Nat) : Int)) ∧ (xi (E (64 * (a0.toNatClampNeg + 1) + 6)) 0).toInt ≤ a2.toInt) ∧ (0 ≤ a1.toInt ∧ a1.toInt < (xi (E 1) 1).toInt)) → (CdR cf E a0 a2 a1.toNatClampNeg r.toInt)) ∧ (¬ (((0 ≤ a2.toInt ∧ a2.toInt ≤ (xi (E 1) 0).toInt) ∧ (0 ≤ a0.toInt ∧ a0.toInt < ((cf 2 : Nat) : Int)) ∧ (xi (E (64 * (a0.toNatClampNeg + 1) + 6)) 0).toInt ≤ a2.toInt) ∧ (0 ≤ a1.toInt ∧ a1.toInt < (xi (E 1) 1).toInt)) → (r.toInt = -1)))))) (HBL dC dI (LC cf) ad) (A)) args s 0 0 (A) := ⟨_, rfl⟩
  rw [← hQ, show entryFrame m args 4 = _ from (congrArg (fun z => entryFrame m z 4) hargs).trans (lg_entry_eq _ _ _)]
  generalize (lg_sl ([.ref (ad 0), .int a0, .int a1, .int a2]) ++ List.replicate (4 - (lg_sl ([.ref (ad 0), .int a0, .int a1, .int a2])).length) Slot.unset).toArray = ls at hl ⊢
  have hl : lv_has ls 4 [(0, .ref (ad 0)), (1, .int a0), (2, .int a1), (3, .int a2)] := hl
  refine lv_aload_n hx hb dX12_coded_0 rfl (lv_at hl 0 rfl) ?_
  refine th_getL (ci := 13) (C := RX12) (T := TX12) (N := 6) (v := .ref (ad 1)) hx hb hts hinX12 hown hK hP hI 0 (mF 0 rfl) rfl rfl 0 (Nat.le_of_ble_eq_true rfl) (hts _ (vA_in _ _ (in_10 _ (zs16 (zs1 (zs0)))))) (fun _ h9 => h9) (hI.fr 0 (mF 0 rfl) rfl (Nat.le_of_ble_eq_true rfl) 1 rfl) dX12_coded_1 ?_
  refine lv_iload_n hx hb dX12_coded_4 rfl (lv_at hl 1 rfl) ?_
  refine lv_iload_n hx hb dX12_coded_5 rfl (lv_at hl 3 rfl) ?_
  refine th_riL (va_runV (As := [.int a0, .int a2]) (rest := []) ⟨hx, hb, hml, hown, hts⟩ (q_isCountedC l dC dI cT cf hC ad E s.heap.size a0 a2 hI) (cwV 2 hts (gi_V (in_13 _ (zs16 (zs16 (zs4 (zs1 (zs1 (zs0))))))) (in_13 _ (zs16 (zs16 (zs4 (zs1 (zs1 (zs1 (zs0)))))))) (in_14 _ zs0) (in_5 _ (zs4 (zs1 (zs1 (zs0))))) (in_5 _ (zs16 (zs16 (zs4 (zs1 (zs1 (zs1 (zs0))))))))) rfl rfl rfl ⟨rfl, hz_yX0_isCounted_2⟩ ⟨Nat.le_of_ble_eq_true rfl, Nat.le_of_ble_eq_true rfl⟩) ⟨HWL_bl, va_recv hK hP (ci := 1) (q0 := posL 1 (LC cf)) rfl (hI.ob 1 (mF 1 rfl) rfl), (HWL_wi hP hK (WL_D hD) hS hA hEV)⟩ rfl rfl hl.1 rfl (lv_room (Nat.le_of_ble_eq_true rfl)) dX12_coded_6 ⟨Nat.le_of_ble_eq_true rfl, Nat.le_of_ble_eq_true rfl⟩) hS hP (fun r1 H locs hw hP hS => ?_)
  rcases hw with hw | hw
  · -- isCountedC, case 0
    obtain ⟨rfl, f2, f3, f4⟩ := hw
    have i5 : 0 ≤ (xi (E 1) 0).toInt ∧ (xi (E 1) 0).toInt ≤ 400 := hI0.iv 1 (mF 1 rfl) rfl (Nat.le_of_ble_eq_true rfl) rfl
    refine lv_if_eq (tgt := 23) hx hb dX12_coded_9 (by decide) (fun c6 => ?_) (fun c6 => ?_)
    · --9 taken
      exact absurd c6 (by decide)
    · --9 not
      refine lv_aload_n hx hb dX12_coded_12 rfl (lv_at hl 0 rfl) ?_
      refine th_getL (ci := 13) (C := RX12) (T := TX12) (N := 6) (v := .ref (ad 1)) hx hb hts hinX12 hown hK hP hI 0 (mF 0 rfl) rfl rfl 0 (Nat.le_of_ble_eq_true rfl) (hts _ (vA_in _ _ (in_10 _ (zs16 (zs1 (zs0)))))) (fun _ h9 => h9) (hI.fr 0 (mF 0 rfl) rfl (Nat.le_of_ble_eq_true rfl) 1 rfl) dX12_coded_13 ?_
      refine lv_iload_n hx hb dX12_coded_16 rfl (lv_at hl 2 rfl) ?_
      refine th_riL (va_runV (As := [.int a1]) (rest := []) ⟨hx, hb, hml, hown, hts⟩ (q_isBoatC l dC dI cT cf hC ad E H.size a1 hI) (cwV 1 hts (gi_V (in_10 _ (zs16 (zs4 (zs4 (zs1 (zs1 (zs1 (zs0)))))))) (in_6 _ (zs4 (zs4 (zs4 (zs0))))) (in_6 _ (zs4 (zs4 (zs4 (zs1 (zs0)))))) (in_5 _ (zs4 (zs1 (zs1 (zs0))))) (in_5 _ (zs16 (zs16 (zs4 (zs1 (zs1 (zs0)))))))) rfl rfl rfl ⟨rfl, hz_yX0_isBoat_1⟩ ⟨Nat.le_of_ble_eq_true rfl, Nat.le_of_ble_eq_true rfl⟩) ⟨HWL_bl, va_recv hK hP (ci := 1) (q0 := posL 1 (LC cf)) rfl (hI.ob 1 (mF 1 rfl) rfl), (HWL_wi hP hK (WL_D hD) hS hA hEV)⟩ rfl rfl hl.1 rfl (lv_room (Nat.le_of_ble_eq_true rfl)) dX12_coded_17 ⟨Nat.le_of_ble_eq_true rfl, Nat.le_of_ble_eq_true rfl⟩) hS hP (fun r7 H locs hw hP hS => ?_)
      rcases hw with hw | hw
      · -- isBoatC, case 0
        obtain ⟨rfl, f8, f9⟩ := hw
        have i10 : 0 ≤ (xi (E 1) 1).toInt ∧ (xi (E 1) 1).toInt ≤ 16 := hI0.iv 1 (mF 1 rfl) rfl (Nat.le_of_ble_eq_true rfl) rfl
        refine lv_if_ne (tgt := 25) hx hb dX12_coded_20 (by decide) (fun c11 => ?_) (fun c11 => ?_)
        · --20 taken
          refine lv_aload_n hx hb dX12_coded_25 rfl (lv_at hl 0 rfl) ?_
          refine th_getL (ci := 13) (C := RX12) (T := TX12) (N := 6) (v := .ref (ad 3)) hx hb hts hinX12 hown hK hP hI 0 (mF 0 rfl) rfl rfl 2 (Nat.le_of_ble_eq_true rfl) (hts _ (vA_in _ _ (in_13 _ (zs16 (zs16 (zs4 (zs0))))))) (fun _ h9 => h9) (hI.fr 0 (mF 0 rfl) rfl (Nat.le_of_ble_eq_true rfl) 3 rfl) dX12_coded_26 ?_
          refine lv_iload_n hx hb dX12_coded_29 rfl (lv_at hl 1 rfl) ?_
          refine lv_iload_n hx hb dX12_coded_30 rfl (lv_at hl 3 rfl) ?_
          refine th_vL (va_runV (As := [.int a0, .int a2]) (rest := []) ⟨hx, hb, hml, hown, hts⟩ (q_readCodesX l dC dI cT cf hC ad E H.size a0 a2 hI f3 (by omega)) (cwV 2 hts (gi_V (in_14 _ (zs1 (zs0))) (in_12 _ (zs4 (zs4 (zs4 (zs1 (zs1 (zs0))))))) (in_12 _ (zs4 (zs4 (zs4 (zs1 (zs1 (zs1 (zs0)))))))) (in_11 _ (zs16 (zs16 (zs4 (zs1 (zs0)))))) (in_12 _ (zs16 (zs0)))) rfl rfl rfl ⟨rfl, hz_yX9_readCodes_2⟩ ⟨Nat.le_of_ble_eq_true rfl, Nat.le_of_ble_eq_true rfl⟩) ⟨HWL_bl, va_recv hK hP (ci := 10) (q0 := posL 3 (LC cf)) rfl (hI.ob 3 (mF 3 rfl) rfl), (HWL_wi hP hK (WL_D hD) hS hA hEV)⟩ rfl rfl hl.1 rfl (lv_room (Nat.le_of_ble_eq_true rfl)) dX12_coded_31 ⟨Nat.le_of_ble_eq_true rfl, Nat.le_of_ble_eq_true rfl⟩) (WL_D hD) hS hA (fun E13 H locs hw hP hS => ?_)
          obtain ⟨hI, kq14, hw⟩ := hw
          have hKb := hKp
          have hKp := hKp.tr kq14 (wl_sub rfl rfl)
          have f15 := hw
          refine lv_aload_n hx hb dX12_coded_34 rfl (lv_at hl 0 rfl) ?_
          refine th_getL (ci := 13) (C := RX12) (T := TX12) (N := 6) (v := .ref (ad 3)) hx hb hts hinX12 hown hK hP hI 0 (mF 0 rfl) rfl rfl 2 (Nat.le_of_ble_eq_true rfl) (hts _ (vA_in _ _ (in_13 _ (zs16 (zs16 (zs4 (zs0))))))) (fun _ h9 => h9) (hI.fr 0 (mF 0 rfl) rfl (Nat.le_of_ble_eq_true rfl) 3 rfl) dX12_coded_35 ?_
          refine th_getL (ci := 10) (C := RX9) (T := TX9) (N := 9) (v := .ref (ad 26)) hx hb hts hinX9 hown hK hP hI 3 (mF 3 rfl) rfl rfl 1 (Nat.le_of_ble_eq_true rfl) (hts _ (vA_in _ _ (in_13 _ (zs16 (zs16 (zs4 (zs1 (zs0)))))))) (fun _ h9 => h9) (hI.fr 3 (mF 3 rfl) rfl (Nat.le_of_ble_eq_true rfl) 26 rfl) dX12_coded_38 ?_
          refine lv_iload_n hx hb dX12_coded_41 rfl (lv_at hl 2 rfl) ?_
          have n17 : vp_in a1 16 := (iv_in (n := 16) f9 (by decide))
          refine th_ialdL hx hb hK hP hI 26 (mF 26 rfl) rfl rfl n17 dX12_coded_42 (fun y16 ey16 => ?_)
          have iy16 : -1 ≤ y16.toInt ∧ y16.toInt ≤ 5 := hI.el 26 (mF 26 rfl) rfl n17 (fun _ => rfl) ey16
          rw [hQ]
          exact W.iret (v := y16) hx hb hr (fun t ht hW => ⟨⟨y16, E13, rfl, ⟨hI, hKp, ⟨fun _ => by rw [ey16]; exact (f15 _ (by rw [tn_]; omega)).1, fun g9 => by exfalso; omega⟩⟩, by show va_P (dC, dI) vwCl (WL (LC cf) ad E13) t.heap; rw [ht]; exact hP⟩, hS.F ht⟩) hS.2.2 dX12_coded_43
        · --20 not
          exact absurd c11 (by decide)
      · -- isBoatC, case 1
        obtain ⟨rfl, f18⟩ := hw
        have i19 : 0 ≤ (xi (E 1) 1).toInt ∧ (xi (E 1) 1).toInt ≤ 16 := hI0.iv 1 (mF 1 rfl) rfl (Nat.le_of_ble_eq_true rfl) rfl
        refine lv_if_ne (tgt := 25) hx hb dX12_coded_20 (by decide) (fun c20 => ?_) (fun c20 => ?_)
        · --20 taken
          exact absurd c20 (by decide)
        · --20 not
          refine lv_iconst (v := -1) hx hb dX12_coded_23 (by decide) ?_
          rw [hQ]
          exact W.iret (v := (-1)) hx hb hr (fun t ht hW => ⟨⟨(-1), E, rfl, ⟨hI, hKp, ⟨fun g9 => by exfalso; omega, fun _ => rfl⟩⟩, by show va_P (dC, dI) vwCl (WL (LC cf) ad E) t.heap; rw [ht]; exact hP⟩, hS.F ht⟩) hS.2.2 dX12_coded_24
  · -- isCountedC, case 1
    obtain ⟨rfl, f21⟩ := hw
    have i22 : 0 ≤ (xi (E 1) 0).toInt ∧ (xi (E 1) 0).toInt ≤ 400 := hI0.iv 1 (mF 1 rfl) rfl (Nat.le_of_ble_eq_true rfl) rfl
    refine lv_if_eq (tgt := 23) hx hb dX12_coded_9 (by decide) (fun c23 => ?_) (fun c23 => ?_)
    · --9 taken
      refine lv_iconst (v := -1) hx hb dX12_coded_23 (by decide) ?_
      rw [hQ]
      exact W.iret (v := (-1)) hx hb hr (fun t ht hW => ⟨⟨(-1), E, rfl, ⟨hI, hKp, ⟨fun g9 => by exfalso; omega, fun _ => rfl⟩⟩, by show va_P (dC, dI) vwCl (WL (LC cf) ad E) t.heap; rw [ht]; exact hP⟩, hS.F ht⟩) hS.2.2 dX12_coded_24
    · --9 not
      exact absurd c23 (by decide)
def v_u_countX : List Cond := .code yX12_count cX12_count 2 (some .int) :: vA
abbrev rm_u_countX : Room := { frames := 5, cells := 0, slots := 0, locals := 200 }
def w_u_countX : Nat → Nat → Bool := wl [] []
set_option maxHeartbeats 4000000 in
set_option maxRecDepth 100000 in
theorem q_u_countX (l : Launch) (dC : Nat → ClassId) (dI : Nat → Nat → Nat) (cT : Nat → ClassId) (cf : Nat → Nat) (hC : CF cf) (ad : Nat → Nat) (E : Nat → va_E) (sz : Nat) (a0 : Int32) (hI0 : IXL cT (shC cf) (spC cf) (LC cf) ad E)  : Met l yX12_count v_u_countX rm_u_countX (va_Pc [.ref (ad 0), .int a0] (HWL dC dI (TYC cT) cf ad E sz)) (va_Qi (S := Nat → va_E) (fun r u => IXL cT (shC cf) (spC cf) (LC cf) ad u ∧ Kp w_u_countX E u ∧ (((a0.toInt = 0 → r.toInt = (xi (E 1) 0).toInt) ∧ (a0.toInt = 1 → r.toInt = (xi (E 1) 1).toInt) ∧ (a0.toInt = 2 → r.toInt = ((cf 0 : Nat) : Int)) ∧ (a0.toInt = 3 → r.toInt = ((cf 1 : Nat) : Int)) ∧ (a0.toInt = 4 → r.toInt = ((cf 2 : Nat) : Int)) ∧ (a0.toInt = 5 → r.toInt = ((cf 3 : Nat) : Int)) ∧ (a0.toInt = 6 → r.toInt = ((cf 4 : Nat) : Int)) ∧ (a0.toInt = 7 → r.toInt = ((cf 5 : Nat) : Int)) ∧ (a0.toInt = 8 → r.toInt = (xi (E 2) 1).toInt) ∧ (a0.toInt = 9 → r.toInt = (xi (E 1) 2).toInt) ∧ (a0.toInt = 10 → Cn2 (fun r9 b9 => exF (outC E ((r9 : Nat) : Int) (xi (E 1) 0).toInt ((b9 : Nat) : Int)) (cf 5)) 16 (cf 2) r.toInt) ∧ (¬ (0 ≤ a0.toInt ∧ a0.toInt ≤ 10) → r.toInt = -1)))) (HBL dC dI (LC cf) ad) (va_A (WL (LC cf) ad E) sz)) 0 0 (va_A (WL (LC cf) ad E) sz) := by
  obtain ⟨⟨hc0, hc1, hc2, hc3, hc4, hc5⟩, hcr⟩ := id hC
  refine Met.ofW (cc := cX12_count) (maxL := 2) (ret := (some .int)) (by decide) rfl ?_
  intro p e s m args below meth c s₁ B hml hv
  obtain ⟨hargs, hsz, hP, hK, hD0, hEV⟩ := hv
  subst hsz
  have hx := B.exec
  have hb := B.bytes
  have hr := B.returns
  have hts := atoms_spec (ws := v_u_countX) B.pre
  have hown : s.vm.findClass RX12 = some m.cls := findClass_of_methodNamed B.named
  have hlocks := B.notSynchronized
  have hinX0 : ∀ w ∈ u_ws RX0 TX0 11, w ∈ v_u_countX := fun w h => vA_in _ w (in_X0 w h)
  have hinX10 : ∀ w ∈ u_ws RX10 TX10 10, w ∈ v_u_countX := fun w h => vA_in _ w (in_X10 w h)
  have hinX12 : ∀ w ∈ u_ws RX12 TX12 6, w ∈ v_u_countX := fun w h => vA_in _ w (in_X12 w h)
  generalize hAe : va_A (WL (LC cf) ad E) s.heap.size = A at hEV ⊢
  have hA : ∀ q : Nat, s.heap.size ≤ q → A q := fun q h => by rw [← hAe]; exact Or.inr h
  have hD : va_D A (WL (LC cf) ad E) := by rw [← hAe]; exact hD0.self
  have hS : va_S A s.heap s.heap [] := va_S.rf
  have hI := hI0
  have hKp : Kp w_u_countX E E := Kp.rf
  have hl := lv_entry ([.ref (ad 0), .int a0]) (n := 2) (Nat.le_of_ble_eq_true rfl)
  obtain ⟨Q, hQ⟩ : ∃ Q, Q = MQ below (va_Qi (S := Nat → va_E) (fun r u => IXL cT (shC cf) (spC cf) (LC cf) ad u ∧ Kp w_u_countX E u ∧ (((a0.toInt = 0 → r.toInt = (xi (E 1) 0).toInt) ∧ (a0.toInt = 1 → r.toInt = (xi (E 1) 1).toInt) ∧ (a0.toInt = 2 → r.toInt = ((cf 0 : Nat) : Int)) ∧ (a0.toInt = 3 → r.toInt = ((cf 1 : Nat) : Int)) ∧ (a0.toInt = 4 → r.toInt = ((cf 2 : Nat) : Int)) ∧ (a0.toInt = 5 → r.toInt = ((cf 3 : Nat) : Int)) ∧ (a0.toInt = 6 → r.toInt = ((cf 4 : Nat) : Int)) ∧ (a0.toInt = 7 → r.toInt = ((cf 5 : Nat) : Int)) ∧ (a0.toInt = 8 → r.toInt = (xi (E 2) 1).toInt) ∧ (a0.toInt = 9 → r.toInt = (xi (E 1) 2).toInt) ∧ (a0.toInt = 10 → Cn2 (fun r9 b9 => exF (outC E ((r9 : Nat) : Int) (xi (E 1) 0).toInt ((b9 : Nat) : Int)) (cf 5)) 16 (cf 2) r.toInt) ∧ (¬ (0 ≤ a0.toInt ∧ a0.toInt ≤ 10) → r.toInt = -1)))) (HBL dC dI (LC cf) ad) (A)) args s 0 0 (A) := ⟨_, rfl⟩
  rw [← hQ, show entryFrame m args 2 = _ from (congrArg (fun z => entryFrame m z 2) hargs).trans (lg_entry_eq _ _ _)]
  generalize (lg_sl ([.ref (ad 0), .int a0]) ++ List.replicate (2 - (lg_sl ([.ref (ad 0), .int a0])).length) Slot.unset).toArray = ls at hl ⊢
  have hl : lv_has ls 2 [(0, .ref (ad 0)), (1, .int a0)] := hl
  refine lv_iload_n hx hb dX12_count_0 rfl (lv_at hl 1 rfl) ?_
  rcases (show (a0.toInt < 0 ∨ 10 < a0.toInt) ∨ a0.toInt = 0 ∨ a0.toInt = 1 ∨ a0.toInt = 2 ∨ a0.toInt = 3 ∨ a0.toInt = 4 ∨ a0.toInt = 5 ∨ a0.toInt = 6 ∨ a0.toInt = 7 ∨ a0.toInt = 8 ∨ a0.toInt = 9 ∨ a0.toInt = 10 by omega) with c1 | c1 | c1 | c1 | c1 | c1 | c1 | c1 | c1 | c1 | c1 | c1
  · --None
    refine lv_tableOut (tgt := 166) hx hb dX12_count_1 c1 (by decide) ?_
    refine lv_iconst (v := -1) hx hb dX12_count_166 (by decide) ?_
    rw [hQ]
    exact W.iret (v := (-1)) hx hb hr (fun t ht hW => ⟨⟨(-1), E, rfl, ⟨hI, hKp, ⟨fun q9 => by have z9 := ln_m1; omega, fun q9 => by have z9 := ln_m1; omega, fun q9 => by have z9 := ln_m1; omega, fun q9 => by have z9 := ln_m1; omega, fun q9 => by have z9 := ln_m1; omega, fun q9 => by have z9 := ln_m1; omega, fun q9 => by have z9 := ln_m1; omega, fun q9 => by have z9 := ln_m1; omega, fun q9 => by have z9 := ln_m1; omega, fun q9 => by have z9 := ln_m1; omega, fun q9 => by exfalso; omega, fun q9 => by have z9 := ln_m1; omega⟩⟩, by show va_P (dC, dI) vwCl (WL (LC cf) ad E) t.heap; rw [ht]; exact hP⟩, hS.F ht⟩) hS.2.2 dX12_count_167
  · --0
    refine lv_tableIn (off := 59) (tgt := 60) hx hb dX12_count_1 (by omega) (by omega) (by rw [c1]; rfl) (by decide) ?_
    refine lv_aload_n hx hb dX12_count_60 rfl (lv_at hl 0 rfl) ?_
    refine th_getL (ci := 13) (C := RX12) (T := TX12) (N := 6) (v := .ref (ad 1)) hx hb hts hinX12 hown hK hP hI 0 (mF 0 rfl) rfl rfl 0 (Nat.le_of_ble_eq_true rfl) (hts _ (vA_in _ _ (in_10 _ (zs16 (zs1 (zs0)))))) (fun _ h9 => h9) (hI.fr 0 (mF 0 rfl) rfl (Nat.le_of_ble_eq_true rfl) 1 rfl) dX12_count_61 ?_
    have i2 : 0 ≤ (xi (E 1) 0).toInt ∧ (xi (E 1) 0).toInt ≤ 400 := hI0.iv 1 (mF 1 rfl) rfl (Nat.le_of_ble_eq_true rfl) rfl
    refine th_getL (ci := 1) (C := RX0) (T := TX0) (N := 11) (v := .int (xi (E 1) 0)) hx hb hts hinX0 hown hK hP hI 1 (mF 1 rfl) rfl rfl 0 (Nat.le_of_ble_eq_true rfl) (hts _ (vA_in _ _ (in_10 _ (zs16 (zs4 (zs4 (zs1 (zs1 (zs0))))))))) (fun _ h9 => h9) (th_v0L hKp hI0 1 (mF 1 rfl) rfl (Nat.le_of_ble_eq_true rfl) rfl rfl) dX12_count_64 ?_
    rw [hQ]
    exact W.iret (v := (xi (E 1) 0)) hx hb hr (fun t ht hW => ⟨⟨(xi (E 1) 0), E, rfl, ⟨hI, hKp, ⟨fun q9 => by omega, fun q9 => by omega, fun q9 => by omega, fun q9 => by omega, fun q9 => by omega, fun q9 => by omega, fun q9 => by omega, fun q9 => by omega, fun q9 => by omega, fun q9 => by omega, fun q9 => by exfalso; omega, fun q9 => by omega⟩⟩, by show va_P (dC, dI) vwCl (WL (LC cf) ad E) t.heap; rw [ht]; exact hP⟩, hS.F ht⟩) hS.2.2 dX12_count_67
  · --1
    refine lv_tableIn (off := 67) (tgt := 68) hx hb dX12_count_1 (by omega) (by omega) (by rw [c1]; rfl) (by decide) ?_
    refine lv_aload_n hx hb dX12_count_68 rfl (lv_at hl 0 rfl) ?_
    refine th_getL (ci := 13) (C := RX12) (T := TX12) (N := 6) (v := .ref (ad 1)) hx hb hts hinX12 hown hK hP hI 0 (mF 0 rfl) rfl rfl 0 (Nat.le_of_ble_eq_true rfl) (hts _ (vA_in _ _ (in_10 _ (zs16 (zs1 (zs0)))))) (fun _ h9 => h9) (hI.fr 0 (mF 0 rfl) rfl (Nat.le_of_ble_eq_true rfl) 1 rfl) dX12_count_69 ?_
    have i3 : 0 ≤ (xi (E 1) 1).toInt ∧ (xi (E 1) 1).toInt ≤ 16 := hI0.iv 1 (mF 1 rfl) rfl (Nat.le_of_ble_eq_true rfl) rfl
    refine th_getL (ci := 1) (C := RX0) (T := TX0) (N := 11) (v := .int (xi (E 1) 1)) hx hb hts hinX0 hown hK hP hI 1 (mF 1 rfl) rfl rfl 1 (Nat.le_of_ble_eq_true rfl) (hts _ (vA_in _ _ (in_10 _ (zs16 (zs1 (zs1 (zs0))))))) (fun _ h9 => h9) (th_v0L hKp hI0 1 (mF 1 rfl) rfl (Nat.le_of_ble_eq_true rfl) rfl rfl) dX12_count_72 ?_
    rw [hQ]
    exact W.iret (v := (xi (E 1) 1)) hx hb hr (fun t ht hW => ⟨⟨(xi (E 1) 1), E, rfl, ⟨hI, hKp, ⟨fun q9 => by omega, fun q9 => by omega, fun q9 => by omega, fun q9 => by omega, fun q9 => by omega, fun q9 => by omega, fun q9 => by omega, fun q9 => by omega, fun q9 => by omega, fun q9 => by omega, fun q9 => by exfalso; omega, fun q9 => by omega⟩⟩, by show va_P (dC, dI) vwCl (WL (LC cf) ad E) t.heap; rw [ht]; exact hP⟩, hS.F ht⟩) hS.2.2 dX12_count_75
  · --2
    refine lv_tableIn (off := 75) (tgt := 76) hx hb dX12_count_1 (by omega) (by omega) (by rw [c1]; rfl) (by decide) ?_
    refine lv_aload_n hx hb dX12_count_76 rfl (lv_at hl 0 rfl) ?_
    refine th_getL (ci := 13) (C := RX12) (T := TX12) (N := 6) (v := .ref (ad 1)) hx hb hts hinX12 hown hK hP hI 0 (mF 0 rfl) rfl rfl 0 (Nat.le_of_ble_eq_true rfl) (hts _ (vA_in _ _ (in_10 _ (zs16 (zs1 (zs0)))))) (fun _ h9 => h9) (hI.fr 0 (mF 0 rfl) rfl (Nat.le_of_ble_eq_true rfl) 1 rfl) dX12_count_77 ?_
    refine th_getL (ci := 1) (C := RX0) (T := TX0) (N := 11) (v := .ref (ad 7)) hx hb hts hinX0 hown hK hP hI 1 (mF 1 rfl) rfl rfl 3 (Nat.le_of_ble_eq_true rfl) (hts _ (vA_in _ _ (in_10 _ (zs16 (zs4 (zs1 (zs1 (zs0)))))))) (fun _ h9 => h9) (hI.fr 1 (mF 1 rfl) rfl (Nat.le_of_ble_eq_true rfl) 7 rfl) dX12_count_80 ?_
    refine th_riL (va_runV (As := []) (rest := []) ⟨hx, hb, hml, hown, hts⟩ (q_size0 l dC dI cT cf hC ad E s.heap.size hI) (cwV 0 hts (gi_V (in_10 _ (zs16 (zs16 (zs0)))) (in_4 _ (zs16 (zs16 (zs1 (zs1 (zs1 (zs0))))))) (in_4 _ (zs16 (zs16 (zs4 (zs0))))) (in_3 _ (zs16 (zs1 (zs1 (zs0))))) (in_4 _ (zs16 (zs1 (zs1 (zs1 (zs0))))))) rfl rfl rfl ⟨rfl, hz_yJx4a65c_size_8abf5_0⟩ ⟨Nat.le_of_ble_eq_true rfl, Nat.le_of_ble_eq_true rfl⟩) ⟨HWL_bl, va_recv hK hP (ci := 0) (q0 := posL 7 (LC cf)) rfl (hI.ob 7 (mF 7 rfl) rfl), (HWL_wi hP hK (WL_D hD) hS hA hEV)⟩ rfl rfl hl.1 rfl (lv_room (Nat.le_of_ble_eq_true rfl)) dX12_count_83 ⟨Nat.le_of_ble_eq_true rfl, Nat.le_of_ble_eq_true rfl⟩) hS hP (fun r4 H locs hw hP hS => ?_)
    obtain ⟨f5, f6⟩ := hw
    rw [hQ]
    exact W.iret (v := r4) hx hb hr (fun t ht hW => ⟨⟨r4, E, rfl, ⟨hI, hKp, ⟨fun q9 => by omega, fun q9 => by omega, fun q9 => by omega, fun q9 => by omega, fun q9 => by omega, fun q9 => by omega, fun q9 => by omega, fun q9 => by omega, fun q9 => by omega, fun q9 => by omega, fun q9 => by exfalso; omega, fun q9 => by omega⟩⟩, by show va_P (dC, dI) vwCl (WL (LC cf) ad E) t.heap; rw [ht]; exact hP⟩, hS.F ht⟩) hS.2.2 dX12_count_86
  · --3
    refine lv_tableIn (off := 86) (tgt := 87) hx hb dX12_count_1 (by omega) (by omega) (by rw [c1]; rfl) (by decide) ?_
    refine lv_aload_n hx hb dX12_count_87 rfl (lv_at hl 0 rfl) ?_
    refine th_getL (ci := 13) (C := RX12) (T := TX12) (N := 6) (v := .ref (ad 1)) hx hb hts hinX12 hown hK hP hI 0 (mF 0 rfl) rfl rfl 0 (Nat.le_of_ble_eq_true rfl) (hts _ (vA_in _ _ (in_10 _ (zs16 (zs1 (zs0)))))) (fun _ h9 => h9) (hI.fr 0 (mF 0 rfl) rfl (Nat.le_of_ble_eq_true rfl) 1 rfl) dX12_count_88 ?_
    refine th_getL (ci := 1) (C := RX0) (T := TX0) (N := 11) (v := .ref (ad 8)) hx hb hts hinX0 hown hK hP hI 1 (mF 1 rfl) rfl rfl 4 (Nat.le_of_ble_eq_true rfl) (hts _ (vA_in _ _ (in_14 _ (zs4 (zs1 (zs1 (zs0))))))) (fun _ h9 => h9) (hI.fr 1 (mF 1 rfl) rfl (Nat.le_of_ble_eq_true rfl) 8 rfl) dX12_count_91 ?_
    refine th_riL (va_runV (As := []) (rest := []) ⟨hx, hb, hml, hown, hts⟩ (q_size1 l dC dI cT cf hC ad E s.heap.size hI) (cwV 0 hts (gi_V (in_10 _ (zs16 (zs16 (zs0)))) (in_4 _ (zs16 (zs16 (zs1 (zs1 (zs1 (zs0))))))) (in_4 _ (zs16 (zs16 (zs4 (zs0))))) (in_3 _ (zs16 (zs1 (zs1 (zs0))))) (in_4 _ (zs16 (zs1 (zs1 (zs1 (zs0))))))) rfl rfl rfl ⟨rfl, hz_yJx4a65c_size_8abf5_0⟩ ⟨Nat.le_of_ble_eq_true rfl, Nat.le_of_ble_eq_true rfl⟩) ⟨HWL_bl, va_recv hK hP (ci := 0) (q0 := posL 8 (LC cf)) rfl (hI.ob 8 (mF 8 rfl) rfl), (HWL_wi hP hK (WL_D hD) hS hA hEV)⟩ rfl rfl hl.1 rfl (lv_room (Nat.le_of_ble_eq_true rfl)) dX12_count_94 ⟨Nat.le_of_ble_eq_true rfl, Nat.le_of_ble_eq_true rfl⟩) hS hP (fun r7 H locs hw hP hS => ?_)
    obtain ⟨f8, f9⟩ := hw
    rw [hQ]
    exact W.iret (v := r7) hx hb hr (fun t ht hW => ⟨⟨r7, E, rfl, ⟨hI, hKp, ⟨fun q9 => by omega, fun q9 => by omega, fun q9 => by omega, fun q9 => by omega, fun q9 => by omega, fun q9 => by omega, fun q9 => by omega, fun q9 => by omega, fun q9 => by omega, fun q9 => by omega, fun q9 => by exfalso; omega, fun q9 => by omega⟩⟩, by show va_P (dC, dI) vwCl (WL (LC cf) ad E) t.heap; rw [ht]; exact hP⟩, hS.F ht⟩) hS.2.2 dX12_count_97
  · --4
    refine lv_tableIn (off := 97) (tgt := 98) hx hb dX12_count_1 (by omega) (by omega) (by rw [c1]; rfl) (by decide) ?_
    refine lv_aload_n hx hb dX12_count_98 rfl (lv_at hl 0 rfl) ?_
    refine th_getL (ci := 13) (C := RX12) (T := TX12) (N := 6) (v := .ref (ad 1)) hx hb hts hinX12 hown hK hP hI 0 (mF 0 rfl) rfl rfl 0 (Nat.le_of_ble_eq_true rfl) (hts _ (vA_in _ _ (in_10 _ (zs16 (zs1 (zs0)))))) (fun _ h9 => h9) (hI.fr 0 (mF 0 rfl) rfl (Nat.le_of_ble_eq_true rfl) 1 rfl) dX12_count_99 ?_
    refine th_getL (ci := 1) (C := RX0) (T := TX0) (N := 11) (v := .ref (ad 9)) hx hb hts hinX0 hown hK hP hI 1 (mF 1 rfl) rfl rfl 5 (Nat.le_of_ble_eq_true rfl) (hts _ (vA_in _ _ (in_14 _ (zs4 (zs1 (zs1 (zs1 (zs0)))))))) (fun _ h9 => h9) (hI.fr 1 (mF 1 rfl) rfl (Nat.le_of_ble_eq_true rfl) 9 rfl) dX12_count_102 ?_
    refine th_riL (va_runV (As := []) (rest := []) ⟨hx, hb, hml, hown, hts⟩ (q_size2 l dC dI cT cf hC ad E s.heap.size hI) (cwV 0 hts (gi_V (in_10 _ (zs16 (zs16 (zs0)))) (in_4 _ (zs16 (zs16 (zs1 (zs1 (zs1 (zs0))))))) (in_4 _ (zs16 (zs16 (zs4 (zs0))))) (in_3 _ (zs16 (zs1 (zs1 (zs0))))) (in_4 _ (zs16 (zs1 (zs1 (zs1 (zs0))))))) rfl rfl rfl ⟨rfl, hz_yJx4a65c_size_8abf5_0⟩ ⟨Nat.le_of_ble_eq_true rfl, Nat.le_of_ble_eq_true rfl⟩) ⟨HWL_bl, va_recv hK hP (ci := 0) (q0 := posL 9 (LC cf)) rfl (hI.ob 9 (mF 9 rfl) rfl), (HWL_wi hP hK (WL_D hD) hS hA hEV)⟩ rfl rfl hl.1 rfl (lv_room (Nat.le_of_ble_eq_true rfl)) dX12_count_105 ⟨Nat.le_of_ble_eq_true rfl, Nat.le_of_ble_eq_true rfl⟩) hS hP (fun r10 H locs hw hP hS => ?_)
    obtain ⟨f11, f12⟩ := hw
    rw [hQ]
    exact W.iret (v := r10) hx hb hr (fun t ht hW => ⟨⟨r10, E, rfl, ⟨hI, hKp, ⟨fun q9 => by omega, fun q9 => by omega, fun q9 => by omega, fun q9 => by omega, fun q9 => by omega, fun q9 => by omega, fun q9 => by omega, fun q9 => by omega, fun q9 => by omega, fun q9 => by omega, fun q9 => by exfalso; omega, fun q9 => by omega⟩⟩, by show va_P (dC, dI) vwCl (WL (LC cf) ad E) t.heap; rw [ht]; exact hP⟩, hS.F ht⟩) hS.2.2 dX12_count_108
  · --5
    refine lv_tableIn (off := 108) (tgt := 109) hx hb dX12_count_1 (by omega) (by omega) (by rw [c1]; rfl) (by decide) ?_
    refine lv_aload_n hx hb dX12_count_109 rfl (lv_at hl 0 rfl) ?_
    refine th_getL (ci := 13) (C := RX12) (T := TX12) (N := 6) (v := .ref (ad 1)) hx hb hts hinX12 hown hK hP hI 0 (mF 0 rfl) rfl rfl 0 (Nat.le_of_ble_eq_true rfl) (hts _ (vA_in _ _ (in_10 _ (zs16 (zs1 (zs0)))))) (fun _ h9 => h9) (hI.fr 0 (mF 0 rfl) rfl (Nat.le_of_ble_eq_true rfl) 1 rfl) dX12_count_110 ?_
    refine th_getL (ci := 1) (C := RX0) (T := TX0) (N := 11) (v := .ref (ad 10)) hx hb hts hinX0 hown hK hP hI 1 (mF 1 rfl) rfl rfl 6 (Nat.le_of_ble_eq_true rfl) (hts _ (vA_in _ _ (in_14 _ (zs4 (zs4 (zs0)))))) (fun _ h9 => h9) (hI.fr 1 (mF 1 rfl) rfl (Nat.le_of_ble_eq_true rfl) 10 rfl) dX12_count_113 ?_
    refine th_riL (va_runV (As := []) (rest := []) ⟨hx, hb, hml, hown, hts⟩ (q_size3 l dC dI cT cf hC ad E s.heap.size hI) (cwV 0 hts (gi_V (in_10 _ (zs16 (zs16 (zs0)))) (in_4 _ (zs16 (zs16 (zs1 (zs1 (zs1 (zs0))))))) (in_4 _ (zs16 (zs16 (zs4 (zs0))))) (in_3 _ (zs16 (zs1 (zs1 (zs0))))) (in_4 _ (zs16 (zs1 (zs1 (zs1 (zs0))))))) rfl rfl rfl ⟨rfl, hz_yJx4a65c_size_8abf5_0⟩ ⟨Nat.le_of_ble_eq_true rfl, Nat.le_of_ble_eq_true rfl⟩) ⟨HWL_bl, va_recv hK hP (ci := 0) (q0 := posL 10 (LC cf)) rfl (hI.ob 10 (mF 10 rfl) rfl), (HWL_wi hP hK (WL_D hD) hS hA hEV)⟩ rfl rfl hl.1 rfl (lv_room (Nat.le_of_ble_eq_true rfl)) dX12_count_116 ⟨Nat.le_of_ble_eq_true rfl, Nat.le_of_ble_eq_true rfl⟩) hS hP (fun r13 H locs hw hP hS => ?_)
    obtain ⟨f14, f15⟩ := hw
    rw [hQ]
    exact W.iret (v := r13) hx hb hr (fun t ht hW => ⟨⟨r13, E, rfl, ⟨hI, hKp, ⟨fun q9 => by omega, fun q9 => by omega, fun q9 => by omega, fun q9 => by omega, fun q9 => by omega, fun q9 => by omega, fun q9 => by omega, fun q9 => by omega, fun q9 => by omega, fun q9 => by omega, fun q9 => by exfalso; omega, fun q9 => by omega⟩⟩, by show va_P (dC, dI) vwCl (WL (LC cf) ad E) t.heap; rw [ht]; exact hP⟩, hS.F ht⟩) hS.2.2 dX12_count_119
  · --6
    refine lv_tableIn (off := 119) (tgt := 120) hx hb dX12_count_1 (by omega) (by omega) (by rw [c1]; rfl) (by decide) ?_
    refine lv_aload_n hx hb dX12_count_120 rfl (lv_at hl 0 rfl) ?_
    refine th_getL (ci := 13) (C := RX12) (T := TX12) (N := 6) (v := .ref (ad 1)) hx hb hts hinX12 hown hK hP hI 0 (mF 0 rfl) rfl rfl 0 (Nat.le_of_ble_eq_true rfl) (hts _ (vA_in _ _ (in_10 _ (zs16 (zs1 (zs0)))))) (fun _ h9 => h9) (hI.fr 0 (mF 0 rfl) rfl (Nat.le_of_ble_eq_true rfl) 1 rfl) dX12_count_121 ?_
    refine th_getL (ci := 1) (C := RX0) (T := TX0) (N := 11) (v := .ref (ad 11)) hx hb hts hinX0 hown hK hP hI 1 (mF 1 rfl) rfl rfl 7 (Nat.le_of_ble_eq_true rfl) (hts _ (vA_in _ _ (in_14 _ (zs4 (zs4 (zs1 (zs0))))))) (fun _ h9 => h9) (hI.fr 1 (mF 1 rfl) rfl (Nat.le_of_ble_eq_true rfl) 11 rfl) dX12_count_124 ?_
    refine th_riL (va_runV (As := []) (rest := []) ⟨hx, hb, hml, hown, hts⟩ (q_size4 l dC dI cT cf hC ad E s.heap.size hI) (cwV 0 hts (gi_V (in_10 _ (zs16 (zs16 (zs0)))) (in_4 _ (zs16 (zs16 (zs1 (zs1 (zs1 (zs0))))))) (in_4 _ (zs16 (zs16 (zs4 (zs0))))) (in_3 _ (zs16 (zs1 (zs1 (zs0))))) (in_4 _ (zs16 (zs1 (zs1 (zs1 (zs0))))))) rfl rfl rfl ⟨rfl, hz_yJx4a65c_size_8abf5_0⟩ ⟨Nat.le_of_ble_eq_true rfl, Nat.le_of_ble_eq_true rfl⟩) ⟨HWL_bl, va_recv hK hP (ci := 0) (q0 := posL 11 (LC cf)) rfl (hI.ob 11 (mF 11 rfl) rfl), (HWL_wi hP hK (WL_D hD) hS hA hEV)⟩ rfl rfl hl.1 rfl (lv_room (Nat.le_of_ble_eq_true rfl)) dX12_count_127 ⟨Nat.le_of_ble_eq_true rfl, Nat.le_of_ble_eq_true rfl⟩) hS hP (fun r16 H locs hw hP hS => ?_)
    obtain ⟨f17, f18⟩ := hw
    rw [hQ]
    exact W.iret (v := r16) hx hb hr (fun t ht hW => ⟨⟨r16, E, rfl, ⟨hI, hKp, ⟨fun q9 => by omega, fun q9 => by omega, fun q9 => by omega, fun q9 => by omega, fun q9 => by omega, fun q9 => by omega, fun q9 => by omega, fun q9 => by omega, fun q9 => by omega, fun q9 => by omega, fun q9 => by exfalso; omega, fun q9 => by omega⟩⟩, by show va_P (dC, dI) vwCl (WL (LC cf) ad E) t.heap; rw [ht]; exact hP⟩, hS.F ht⟩) hS.2.2 dX12_count_130
  · --7
    refine lv_tableIn (off := 130) (tgt := 131) hx hb dX12_count_1 (by omega) (by omega) (by rw [c1]; rfl) (by decide) ?_
    refine lv_aload_n hx hb dX12_count_131 rfl (lv_at hl 0 rfl) ?_
    refine th_getL (ci := 13) (C := RX12) (T := TX12) (N := 6) (v := .ref (ad 1)) hx hb hts hinX12 hown hK hP hI 0 (mF 0 rfl) rfl rfl 0 (Nat.le_of_ble_eq_true rfl) (hts _ (vA_in _ _ (in_10 _ (zs16 (zs1 (zs0)))))) (fun _ h9 => h9) (hI.fr 0 (mF 0 rfl) rfl (Nat.le_of_ble_eq_true rfl) 1 rfl) dX12_count_132 ?_
    refine th_getL (ci := 1) (C := RX0) (T := TX0) (N := 11) (v := .ref (ad 12)) hx hb hts hinX0 hown hK hP hI 1 (mF 1 rfl) rfl rfl 8 (Nat.le_of_ble_eq_true rfl) (hts _ (vA_in _ _ (in_14 _ (zs4 (zs4 (zs1 (zs1 (zs0)))))))) (fun _ h9 => h9) (hI.fr 1 (mF 1 rfl) rfl (Nat.le_of_ble_eq_true rfl) 12 rfl) dX12_count_135 ?_
    refine th_riL (va_runV (As := []) (rest := []) ⟨hx, hb, hml, hown, hts⟩ (q_size5 l dC dI cT cf hC ad E s.heap.size hI) (cwV 0 hts (gi_V (in_10 _ (zs16 (zs16 (zs0)))) (in_4 _ (zs16 (zs16 (zs1 (zs1 (zs1 (zs0))))))) (in_4 _ (zs16 (zs16 (zs4 (zs0))))) (in_3 _ (zs16 (zs1 (zs1 (zs0))))) (in_4 _ (zs16 (zs1 (zs1 (zs1 (zs0))))))) rfl rfl rfl ⟨rfl, hz_yJx4a65c_size_8abf5_0⟩ ⟨Nat.le_of_ble_eq_true rfl, Nat.le_of_ble_eq_true rfl⟩) ⟨HWL_bl, va_recv hK hP (ci := 0) (q0 := posL 12 (LC cf)) rfl (hI.ob 12 (mF 12 rfl) rfl), (HWL_wi hP hK (WL_D hD) hS hA hEV)⟩ rfl rfl hl.1 rfl (lv_room (Nat.le_of_ble_eq_true rfl)) dX12_count_138 ⟨Nat.le_of_ble_eq_true rfl, Nat.le_of_ble_eq_true rfl⟩) hS hP (fun r19 H locs hw hP hS => ?_)
    obtain ⟨f20, f21⟩ := hw
    rw [hQ]
    exact W.iret (v := r19) hx hb hr (fun t ht hW => ⟨⟨r19, E, rfl, ⟨hI, hKp, ⟨fun q9 => by omega, fun q9 => by omega, fun q9 => by omega, fun q9 => by omega, fun q9 => by omega, fun q9 => by omega, fun q9 => by omega, fun q9 => by omega, fun q9 => by omega, fun q9 => by omega, fun q9 => by exfalso; omega, fun q9 => by omega⟩⟩, by show va_P (dC, dI) vwCl (WL (LC cf) ad E) t.heap; rw [ht]; exact hP⟩, hS.F ht⟩) hS.2.2 dX12_count_141
  · --8
    refine lv_tableIn (off := 141) (tgt := 142) hx hb dX12_count_1 (by omega) (by omega) (by rw [c1]; rfl) (by decide) ?_
    refine lv_aload_n hx hb dX12_count_142 rfl (lv_at hl 0 rfl) ?_
    refine th_getL (ci := 13) (C := RX12) (T := TX12) (N := 6) (v := .ref (ad 2)) hx hb hts hinX12 hown hK hP hI 0 (mF 0 rfl) rfl rfl 1 (Nat.le_of_ble_eq_true rfl) (hts _ (vA_in _ _ (in_14 _ (zs4 (zs4 (zs1 (zs1 (zs1 (zs0))))))))) (fun _ h9 => h9) (hI.fr 0 (mF 0 rfl) rfl (Nat.le_of_ble_eq_true rfl) 2 rfl) dX12_count_143 ?_
    have i22 : 0 ≤ (xi (E 2) 1).toInt ∧ (xi (E 2) 1).toInt ≤ 200 := hI0.iv 2 (mF 2 rfl) rfl (Nat.le_of_ble_eq_true rfl) rfl
    refine th_getL (ci := 11) (C := RX10) (T := TX10) (N := 10) (v := .int (xi (E 2) 1)) hx hb hts hinX10 hown hK hP hI 2 (mF 2 rfl) rfl rfl 1 (Nat.le_of_ble_eq_true rfl) (hts _ (vA_in _ _ (in_14 _ (zs4 (zs4 (zs4 (zs0))))))) (fun _ h9 => h9) (th_v0L hKp hI0 2 (mF 2 rfl) rfl (Nat.le_of_ble_eq_true rfl) rfl rfl) dX12_count_146 ?_
    rw [hQ]
    exact W.iret (v := (xi (E 2) 1)) hx hb hr (fun t ht hW => ⟨⟨(xi (E 2) 1), E, rfl, ⟨hI, hKp, ⟨fun q9 => by omega, fun q9 => by omega, fun q9 => by omega, fun q9 => by omega, fun q9 => by omega, fun q9 => by omega, fun q9 => by omega, fun q9 => by omega, fun q9 => by omega, fun q9 => by omega, fun q9 => by exfalso; omega, fun q9 => by omega⟩⟩, by show va_P (dC, dI) vwCl (WL (LC cf) ad E) t.heap; rw [ht]; exact hP⟩, hS.F ht⟩) hS.2.2 dX12_count_149
  · --9
    refine lv_tableIn (off := 149) (tgt := 150) hx hb dX12_count_1 (by omega) (by omega) (by rw [c1]; rfl) (by decide) ?_
    refine lv_aload_n hx hb dX12_count_150 rfl (lv_at hl 0 rfl) ?_
    refine th_getL (ci := 13) (C := RX12) (T := TX12) (N := 6) (v := .ref (ad 1)) hx hb hts hinX12 hown hK hP hI 0 (mF 0 rfl) rfl rfl 0 (Nat.le_of_ble_eq_true rfl) (hts _ (vA_in _ _ (in_10 _ (zs16 (zs1 (zs0)))))) (fun _ h9 => h9) (hI.fr 0 (mF 0 rfl) rfl (Nat.le_of_ble_eq_true rfl) 1 rfl) dX12_count_151 ?_
    have i23 : 0 ≤ (xi (E 1) 2).toInt ∧ (xi (E 1) 2).toInt ≤ 20 := hI0.iv 1 (mF 1 rfl) rfl (Nat.le_of_ble_eq_true rfl) rfl
    refine th_getL (ci := 1) (C := RX0) (T := TX0) (N := 11) (v := .int (xi (E 1) 2)) hx hb hts hinX0 hown hK hP hI 1 (mF 1 rfl) rfl rfl 2 (Nat.le_of_ble_eq_true rfl) (hts _ (vA_in _ _ (in_14 _ (zs4 (zs4 (zs4 (zs1 (zs0)))))))) (fun _ h9 => h9) (th_v0L hKp hI0 1 (mF 1 rfl) rfl (Nat.le_of_ble_eq_true rfl) rfl rfl) dX12_count_154 ?_
    rw [hQ]
    exact W.iret (v := (xi (E 1) 2)) hx hb hr (fun t ht hW => ⟨⟨(xi (E 1) 2), E, rfl, ⟨hI, hKp, ⟨fun q9 => by omega, fun q9 => by omega, fun q9 => by omega, fun q9 => by omega, fun q9 => by omega, fun q9 => by omega, fun q9 => by omega, fun q9 => by omega, fun q9 => by omega, fun q9 => by omega, fun q9 => by exfalso; omega, fun q9 => by omega⟩⟩, by show va_P (dC, dI) vwCl (WL (LC cf) ad E) t.heap; rw [ht]; exact hP⟩, hS.F ht⟩) hS.2.2 dX12_count_157
  · --10
    refine lv_tableIn (off := 157) (tgt := 158) hx hb dX12_count_1 (by omega) (by omega) (by rw [c1]; rfl) (by decide) ?_
    refine lv_aload_n hx hb dX12_count_158 rfl (lv_at hl 0 rfl) ?_
    refine th_getL (ci := 13) (C := RX12) (T := TX12) (N := 6) (v := .ref (ad 1)) hx hb hts hinX12 hown hK hP hI 0 (mF 0 rfl) rfl rfl 0 (Nat.le_of_ble_eq_true rfl) (hts _ (vA_in _ _ (in_10 _ (zs16 (zs1 (zs0)))))) (fun _ h9 => h9) (hI.fr 0 (mF 0 rfl) rfl (Nat.le_of_ble_eq_true rfl) 1 rfl) dX12_count_159 ?_
    refine th_riL (va_runV (As := []) (rest := []) ⟨hx, hb, hml, hown, hts⟩ (q_disqualifiedX l dC dI cT cf hC ad E s.heap.size hI) (cwV 0 hts (gi_V (in_14 _ (zs4 (zs4 (zs4 (zs1 (zs1 (zs0))))))) (in_14 _ (zs4 (zs4 (zs4 (zs1 (zs1 (zs1 (zs0)))))))) (in_14 _ (zs16 (zs0))) (in_5 _ (zs4 (zs1 (zs1 (zs0))))) (in_5 _ zs0)) rfl rfl rfl ⟨rfl, hz_yX0_disqualified_0⟩ ⟨Nat.le_of_ble_eq_true rfl, Nat.le_of_ble_eq_true rfl⟩) ⟨HWL_bl, va_recv hK hP (ci := 1) (q0 := posL 1 (LC cf)) rfl (hI.ob 1 (mF 1 rfl) rfl), (HWL_wi hP hK (WL_D hD) hS hA hEV)⟩ rfl rfl hl.1 rfl (lv_room (Nat.le_of_ble_eq_true rfl)) dX12_count_162 ⟨Nat.le_of_ble_eq_true rfl, Nat.le_of_ble_eq_true rfl⟩) hS hP (fun r24 H locs hw hP hS => ?_)
    obtain ⟨f25, f26⟩ := hw
    have i27 : 0 ≤ (xi (E 1) 0).toInt ∧ (xi (E 1) 0).toInt ≤ 400 := hI0.iv 1 (mF 1 rfl) rfl (Nat.le_of_ble_eq_true rfl) rfl
    rw [hQ]
    exact W.iret (v := r24) hx hb hr (fun t ht hW => ⟨⟨r24, E, rfl, ⟨hI, hKp, ⟨fun q9 => by omega, fun q9 => by omega, fun q9 => by omega, fun q9 => by omega, fun q9 => by omega, fun q9 => by omega, fun q9 => by omega, fun q9 => by omega, fun q9 => by omega, fun q9 => by omega, fun _ => f26, fun q9 => by omega⟩⟩, by show va_P (dC, dI) vwCl (WL (LC cf) ad E) t.heap; rw [ht]; exact hP⟩, hS.F ht⟩) hS.2.2 dX12_count_165
