set_option maxRecDepth 100000 in
theorem zh_dX3_suspectedOf_0_0 : zc cX3_suspectedOf 0 [42, 27, 182, 0, 119, 62, 29, 7, 162, 0, 6, 18, 108, 172, 3, 54] = true := by decide +kernel
set_option maxRecDepth 100000 in
theorem zh_dX3_suspectedOf_15_16 : zc cX3_suspectedOf 16 [4, 21, 4, 29, 162, 0, 48, 42, 180, 0, 34, 21, 4, 17, 3, 232] = true := by decide +kernel
set_option maxRecDepth 100000 in
theorem zh_dX3_suspectedOf_32_32 : zc cX3_suspectedOf 32 [42, 180, 0, 28, 21, 4, 46, 104, 4, 42, 180, 0, 22, 42, 180, 0] = true := by decide +kernel
set_option maxRecDepth 100000 in
theorem zh_dX3_suspectedOf_46_48 : zc cX3_suspectedOf 48 [25, 21, 4, 46, 27, 184, 0, 89, 46, 184, 0, 129, 108, 79, 132, 4] = true := by decide +kernel
set_option maxRecDepth 100000 in
theorem zh_dX3_suspectedOf_62_64 : zc cX3_suspectedOf 64 [1, 167, 255, 208, 5, 54, 4, 42, 5, 29, 182, 0, 134, 54, 5, 6] = true := by decide +kernel
set_option maxRecDepth 100000 in
theorem zh_dX3_suspectedOf_80_80 : zc cX3_suspectedOf 80 [54, 6, 21, 6, 29, 5, 100, 163, 0, 42, 42, 21, 6, 29, 182, 0] = true := by decide +kernel
set_option maxRecDepth 100000 in
theorem zh_dX3_suspectedOf_94_96 : zc cX3_suspectedOf 96 [134, 54, 7, 21, 7, 184, 0, 137, 21, 5, 184, 0, 137, 163, 0, 6] = true := by decide +kernel
set_option maxRecDepth 100000 in
theorem zh_dX3_suspectedOf_112_112 : zc cX3_suspectedOf 112 [167, 0, 11, 21, 6, 54, 4, 21, 7, 54, 5, 132, 6, 1, 167, 255] = true := by decide +kernel
set_option maxRecDepth 100000 in
theorem zh_dX3_suspectedOf_126_128 : zc cX3_suspectedOf 128 [212, 28, 154, 0, 13, 42, 180, 0, 25, 21, 4, 46, 167, 0, 5, 21] = true := by decide +kernel
set_option maxRecDepth 100000 in
theorem zh_dX3_suspectedOf_143_144 : zc cX3_suspectedOf 144 [5, 172] = true := by decide +kernel
set_option maxRecDepth 100000 in
theorem zh_dX3_jumpAt_0_0 : zc cX3_jumpAt 0 [42, 27, 28, 182, 0, 140, 42, 3, 27, 182, 0, 140, 100, 172] = true := by decide +kernel
set_option maxRecDepth 100000 in
theorem zh_dX3_meanOf_0_0 : zc cX3_meanOf 0 [9, 66, 27, 54, 5, 21, 5, 28, 162, 0, 20, 33, 42, 180, 0, 34] = true := by decide +kernel
set_option maxRecDepth 100000 in
theorem zh_dX3_meanOf_16_16 : zc cX3_meanOf 16 [21, 5, 46, 133, 97, 66, 132, 5, 1, 167, 255, 236, 28, 27, 164, 0] = true := by decide +kernel
set_option maxRecDepth 100000 in
theorem zh_dX3_meanOf_30_32 : zc cX3_meanOf 32 [13, 33, 28, 27, 100, 133, 109, 136, 167, 0, 4, 3, 172] = true := by decide +kernel
set_option maxRecDepth 100000 in
theorem zh_dX12_suspect_0_0 : zc cX12_suspect 0 [42, 180, 0, 10, 27, 182, 0, 66, 153, 0, 12, 28, 3, 4, 184, 0] = true := by decide +kernel
set_option maxRecDepth 100000 in
theorem zh_dX12_suspect_14_16 : zc cX12_suspect 16 [59, 154, 0, 6, 18, 172, 172, 42, 180, 0, 51, 182, 0, 249, 42, 180] = true := by decide +kernel
set_option maxRecDepth 100000 in
theorem zh_dX12_suspect_31_32 : zc cX12_suspect 32 [0, 51, 27, 28, 182, 1, 14, 172] = true := by decide +kernel
theorem dX3_suspectedOf_0 : decode cX3_suspectedOf 0 = .ok (.aload_n 0, 1) := zo_42 (zi_at zh_dX3_suspectedOf_0_0 0 rfl)
theorem dX3_suspectedOf_1 : decode cX3_suspectedOf 1 = .ok (.iload_n 1, 1) := zo_27 (zi_at zh_dX3_suspectedOf_0_0 1 rfl)
theorem dX3_suspectedOf_2 : decode cX3_suspectedOf 2 = .ok (.invokevirtual 119, 3) := zo_182 (zi_at zh_dX3_suspectedOf_0_0 2 rfl) (zi_at zh_dX3_suspectedOf_0_0 3 rfl) (zi_at zh_dX3_suspectedOf_0_0 4 rfl) rfl
theorem dX3_suspectedOf_5 : decode cX3_suspectedOf 5 = .ok (.istore_n 3, 1) := zo_62 (zi_at zh_dX3_suspectedOf_0_0 5 rfl)
theorem dX3_suspectedOf_6 : decode cX3_suspectedOf 6 = .ok (.iload_n 3, 1) := zo_29 (zi_at zh_dX3_suspectedOf_0_0 6 rfl)
theorem dX3_suspectedOf_7 : decode cX3_suspectedOf 7 = .ok (.iconst 4, 1) := zo_7 (zi_at zh_dX3_suspectedOf_0_0 7 rfl)
theorem dX3_suspectedOf_8 : decode cX3_suspectedOf 8 = .ok (.if_icmp .ge 6, 3) := zo_162 (zi_at zh_dX3_suspectedOf_0_0 8 rfl) (zi_at zh_dX3_suspectedOf_0_0 9 rfl) (zi_at zh_dX3_suspectedOf_0_0 10 rfl) rfl
theorem dX3_suspectedOf_11 : decode cX3_suspectedOf 11 = .ok (.ldc 108, 2) := zo_18 (zi_at zh_dX3_suspectedOf_0_0 11 rfl) (zi_at zh_dX3_suspectedOf_0_0 12 rfl)
theorem dX3_suspectedOf_13 : decode cX3_suspectedOf 13 = .ok (.ireturn, 1) := zo_172 (zi_at zh_dX3_suspectedOf_0_0 13 rfl)
theorem dX3_suspectedOf_14 : decode cX3_suspectedOf 14 = .ok (.iconst 0, 1) := zo_3 (zi_at zh_dX3_suspectedOf_0_0 14 rfl)
theorem dX3_suspectedOf_15 : decode cX3_suspectedOf 15 = .ok (.istore 4, 2) := zo_54 (zi_at zh_dX3_suspectedOf_0_0 15 rfl) (zi_at zh_dX3_suspectedOf_15_16 0 rfl)
theorem dX3_suspectedOf_17 : decode cX3_suspectedOf 17 = .ok (.iload 4, 2) := zo_21 (zi_at zh_dX3_suspectedOf_15_16 1 rfl) (zi_at zh_dX3_suspectedOf_15_16 2 rfl)
theorem dX3_suspectedOf_19 : decode cX3_suspectedOf 19 = .ok (.iload_n 3, 1) := zo_29 (zi_at zh_dX3_suspectedOf_15_16 3 rfl)
theorem dX3_suspectedOf_20 : decode cX3_suspectedOf 20 = .ok (.if_icmp .ge 48, 3) := zo_162 (zi_at zh_dX3_suspectedOf_15_16 4 rfl) (zi_at zh_dX3_suspectedOf_15_16 5 rfl) (zi_at zh_dX3_suspectedOf_15_16 6 rfl) rfl
theorem dX3_suspectedOf_23 : decode cX3_suspectedOf 23 = .ok (.aload_n 0, 1) := zo_42 (zi_at zh_dX3_suspectedOf_15_16 7 rfl)
theorem dX3_suspectedOf_24 : decode cX3_suspectedOf 24 = .ok (.getfield 34, 3) := zo_180 (zi_at zh_dX3_suspectedOf_15_16 8 rfl) (zi_at zh_dX3_suspectedOf_15_16 9 rfl) (zi_at zh_dX3_suspectedOf_15_16 10 rfl) rfl
theorem dX3_suspectedOf_27 : decode cX3_suspectedOf 27 = .ok (.iload 4, 2) := zo_21 (zi_at zh_dX3_suspectedOf_15_16 11 rfl) (zi_at zh_dX3_suspectedOf_15_16 12 rfl)
theorem dX3_suspectedOf_29 : decode cX3_suspectedOf 29 = .ok (.sipush 1000, 3) := zo_17 (zi_at zh_dX3_suspectedOf_15_16 13 rfl) (zi_at zh_dX3_suspectedOf_15_16 14 rfl) (zi_at zh_dX3_suspectedOf_15_16 15 rfl) rfl
theorem dX3_suspectedOf_32 : decode cX3_suspectedOf 32 = .ok (.aload_n 0, 1) := zo_42 (zi_at zh_dX3_suspectedOf_32_32 0 rfl)
theorem dX3_suspectedOf_33 : decode cX3_suspectedOf 33 = .ok (.getfield 28, 3) := zo_180 (zi_at zh_dX3_suspectedOf_32_32 1 rfl) (zi_at zh_dX3_suspectedOf_32_32 2 rfl) (zi_at zh_dX3_suspectedOf_32_32 3 rfl) rfl
theorem dX3_suspectedOf_36 : decode cX3_suspectedOf 36 = .ok (.iload 4, 2) := zo_21 (zi_at zh_dX3_suspectedOf_32_32 4 rfl) (zi_at zh_dX3_suspectedOf_32_32 5 rfl)
theorem dX3_suspectedOf_38 : decode cX3_suspectedOf 38 = .ok (.iaload, 1) := zo_46 (zi_at zh_dX3_suspectedOf_32_32 6 rfl)
theorem dX3_suspectedOf_39 : decode cX3_suspectedOf 39 = .ok (.imul, 1) := zo_104 (zi_at zh_dX3_suspectedOf_32_32 7 rfl)
theorem dX3_suspectedOf_40 : decode cX3_suspectedOf 40 = .ok (.iconst 1, 1) := zo_4 (zi_at zh_dX3_suspectedOf_32_32 8 rfl)
theorem dX3_suspectedOf_41 : decode cX3_suspectedOf 41 = .ok (.aload_n 0, 1) := zo_42 (zi_at zh_dX3_suspectedOf_32_32 9 rfl)
theorem dX3_suspectedOf_42 : decode cX3_suspectedOf 42 = .ok (.getfield 22, 3) := zo_180 (zi_at zh_dX3_suspectedOf_32_32 10 rfl) (zi_at zh_dX3_suspectedOf_32_32 11 rfl) (zi_at zh_dX3_suspectedOf_32_32 12 rfl) rfl
theorem dX3_suspectedOf_45 : decode cX3_suspectedOf 45 = .ok (.aload_n 0, 1) := zo_42 (zi_at zh_dX3_suspectedOf_32_32 13 rfl)
theorem dX3_suspectedOf_46 : decode cX3_suspectedOf 46 = .ok (.getfield 25, 3) := zo_180 (zi_at zh_dX3_suspectedOf_32_32 14 rfl) (zi_at zh_dX3_suspectedOf_32_32 15 rfl) (zi_at zh_dX3_suspectedOf_46_48 0 rfl) rfl
theorem dX3_suspectedOf_49 : decode cX3_suspectedOf 49 = .ok (.iload 4, 2) := zo_21 (zi_at zh_dX3_suspectedOf_46_48 1 rfl) (zi_at zh_dX3_suspectedOf_46_48 2 rfl)
theorem dX3_suspectedOf_51 : decode cX3_suspectedOf 51 = .ok (.iaload, 1) := zo_46 (zi_at zh_dX3_suspectedOf_46_48 3 rfl)
theorem dX3_suspectedOf_52 : decode cX3_suspectedOf 52 = .ok (.iload_n 1, 1) := zo_27 (zi_at zh_dX3_suspectedOf_46_48 4 rfl)
theorem dX3_suspectedOf_53 : decode cX3_suspectedOf 53 = .ok (.invokestatic 89, 3) := zo_184 (zi_at zh_dX3_suspectedOf_46_48 5 rfl) (zi_at zh_dX3_suspectedOf_46_48 6 rfl) (zi_at zh_dX3_suspectedOf_46_48 7 rfl) rfl
theorem dX3_suspectedOf_56 : decode cX3_suspectedOf 56 = .ok (.iaload, 1) := zo_46 (zi_at zh_dX3_suspectedOf_46_48 8 rfl)
theorem dX3_suspectedOf_57 : decode cX3_suspectedOf 57 = .ok (.invokestatic 129, 3) := zo_184 (zi_at zh_dX3_suspectedOf_46_48 9 rfl) (zi_at zh_dX3_suspectedOf_46_48 10 rfl) (zi_at zh_dX3_suspectedOf_46_48 11 rfl) rfl
theorem dX3_suspectedOf_60 : decode cX3_suspectedOf 60 = .ok (.idiv, 1) := zo_108 (zi_at zh_dX3_suspectedOf_46_48 12 rfl)
theorem dX3_suspectedOf_61 : decode cX3_suspectedOf 61 = .ok (.iastore, 1) := zo_79 (zi_at zh_dX3_suspectedOf_46_48 13 rfl)
theorem dX3_suspectedOf_62 : decode cX3_suspectedOf 62 = .ok (.iinc 4 1, 3) := zo_132 (zi_at zh_dX3_suspectedOf_46_48 14 rfl) (zi_at zh_dX3_suspectedOf_46_48 15 rfl) (zi_at zh_dX3_suspectedOf_62_64 0 rfl) rfl
theorem dX3_suspectedOf_65 : decode cX3_suspectedOf 65 = .ok (.goto (-48), 3) := zo_167 (zi_at zh_dX3_suspectedOf_62_64 1 rfl) (zi_at zh_dX3_suspectedOf_62_64 2 rfl) (zi_at zh_dX3_suspectedOf_62_64 3 rfl) rfl
theorem dX3_suspectedOf_68 : decode cX3_suspectedOf 68 = .ok (.iconst 2, 1) := zo_5 (zi_at zh_dX3_suspectedOf_62_64 4 rfl)
theorem dX3_suspectedOf_69 : decode cX3_suspectedOf 69 = .ok (.istore 4, 2) := zo_54 (zi_at zh_dX3_suspectedOf_62_64 5 rfl) (zi_at zh_dX3_suspectedOf_62_64 6 rfl)
theorem dX3_suspectedOf_71 : decode cX3_suspectedOf 71 = .ok (.aload_n 0, 1) := zo_42 (zi_at zh_dX3_suspectedOf_62_64 7 rfl)
theorem dX3_suspectedOf_72 : decode cX3_suspectedOf 72 = .ok (.iconst 2, 1) := zo_5 (zi_at zh_dX3_suspectedOf_62_64 8 rfl)
theorem dX3_suspectedOf_73 : decode cX3_suspectedOf 73 = .ok (.iload_n 3, 1) := zo_29 (zi_at zh_dX3_suspectedOf_62_64 9 rfl)
theorem dX3_suspectedOf_74 : decode cX3_suspectedOf 74 = .ok (.invokevirtual 134, 3) := zo_182 (zi_at zh_dX3_suspectedOf_62_64 10 rfl) (zi_at zh_dX3_suspectedOf_62_64 11 rfl) (zi_at zh_dX3_suspectedOf_62_64 12 rfl) rfl
theorem dX3_suspectedOf_77 : decode cX3_suspectedOf 77 = .ok (.istore 5, 2) := zo_54 (zi_at zh_dX3_suspectedOf_62_64 13 rfl) (zi_at zh_dX3_suspectedOf_62_64 14 rfl)
theorem dX3_suspectedOf_79 : decode cX3_suspectedOf 79 = .ok (.iconst 3, 1) := zo_6 (zi_at zh_dX3_suspectedOf_62_64 15 rfl)
theorem dX3_suspectedOf_80 : decode cX3_suspectedOf 80 = .ok (.istore 6, 2) := zo_54 (zi_at zh_dX3_suspectedOf_80_80 0 rfl) (zi_at zh_dX3_suspectedOf_80_80 1 rfl)
theorem dX3_suspectedOf_82 : decode cX3_suspectedOf 82 = .ok (.iload 6, 2) := zo_21 (zi_at zh_dX3_suspectedOf_80_80 2 rfl) (zi_at zh_dX3_suspectedOf_80_80 3 rfl)
theorem dX3_suspectedOf_84 : decode cX3_suspectedOf 84 = .ok (.iload_n 3, 1) := zo_29 (zi_at zh_dX3_suspectedOf_80_80 4 rfl)
theorem dX3_suspectedOf_85 : decode cX3_suspectedOf 85 = .ok (.iconst 2, 1) := zo_5 (zi_at zh_dX3_suspectedOf_80_80 5 rfl)
theorem dX3_suspectedOf_86 : decode cX3_suspectedOf 86 = .ok (.isub, 1) := zo_100 (zi_at zh_dX3_suspectedOf_80_80 6 rfl)
theorem dX3_suspectedOf_87 : decode cX3_suspectedOf 87 = .ok (.if_icmp .gt 42, 3) := zo_163 (zi_at zh_dX3_suspectedOf_80_80 7 rfl) (zi_at zh_dX3_suspectedOf_80_80 8 rfl) (zi_at zh_dX3_suspectedOf_80_80 9 rfl) rfl
theorem dX3_suspectedOf_90 : decode cX3_suspectedOf 90 = .ok (.aload_n 0, 1) := zo_42 (zi_at zh_dX3_suspectedOf_80_80 10 rfl)
theorem dX3_suspectedOf_91 : decode cX3_suspectedOf 91 = .ok (.iload 6, 2) := zo_21 (zi_at zh_dX3_suspectedOf_80_80 11 rfl) (zi_at zh_dX3_suspectedOf_80_80 12 rfl)
theorem dX3_suspectedOf_93 : decode cX3_suspectedOf 93 = .ok (.iload_n 3, 1) := zo_29 (zi_at zh_dX3_suspectedOf_80_80 13 rfl)
theorem dX3_suspectedOf_94 : decode cX3_suspectedOf 94 = .ok (.invokevirtual 134, 3) := zo_182 (zi_at zh_dX3_suspectedOf_80_80 14 rfl) (zi_at zh_dX3_suspectedOf_80_80 15 rfl) (zi_at zh_dX3_suspectedOf_94_96 0 rfl) rfl
theorem dX3_suspectedOf_97 : decode cX3_suspectedOf 97 = .ok (.istore 7, 2) := zo_54 (zi_at zh_dX3_suspectedOf_94_96 1 rfl) (zi_at zh_dX3_suspectedOf_94_96 2 rfl)
theorem dX3_suspectedOf_99 : decode cX3_suspectedOf 99 = .ok (.iload 7, 2) := zo_21 (zi_at zh_dX3_suspectedOf_94_96 3 rfl) (zi_at zh_dX3_suspectedOf_94_96 4 rfl)
theorem dX3_suspectedOf_101 : decode cX3_suspectedOf 101 = .ok (.invokestatic 137, 3) := zo_184 (zi_at zh_dX3_suspectedOf_94_96 5 rfl) (zi_at zh_dX3_suspectedOf_94_96 6 rfl) (zi_at zh_dX3_suspectedOf_94_96 7 rfl) rfl
theorem dX3_suspectedOf_104 : decode cX3_suspectedOf 104 = .ok (.iload 5, 2) := zo_21 (zi_at zh_dX3_suspectedOf_94_96 8 rfl) (zi_at zh_dX3_suspectedOf_94_96 9 rfl)
theorem dX3_suspectedOf_106 : decode cX3_suspectedOf 106 = .ok (.invokestatic 137, 3) := zo_184 (zi_at zh_dX3_suspectedOf_94_96 10 rfl) (zi_at zh_dX3_suspectedOf_94_96 11 rfl) (zi_at zh_dX3_suspectedOf_94_96 12 rfl) rfl
theorem dX3_suspectedOf_109 : decode cX3_suspectedOf 109 = .ok (.if_icmp .gt 6, 3) := zo_163 (zi_at zh_dX3_suspectedOf_94_96 13 rfl) (zi_at zh_dX3_suspectedOf_94_96 14 rfl) (zi_at zh_dX3_suspectedOf_94_96 15 rfl) rfl
theorem dX3_suspectedOf_112 : decode cX3_suspectedOf 112 = .ok (.goto 11, 3) := zo_167 (zi_at zh_dX3_suspectedOf_112_112 0 rfl) (zi_at zh_dX3_suspectedOf_112_112 1 rfl) (zi_at zh_dX3_suspectedOf_112_112 2 rfl) rfl
theorem dX3_suspectedOf_115 : decode cX3_suspectedOf 115 = .ok (.iload 6, 2) := zo_21 (zi_at zh_dX3_suspectedOf_112_112 3 rfl) (zi_at zh_dX3_suspectedOf_112_112 4 rfl)
theorem dX3_suspectedOf_117 : decode cX3_suspectedOf 117 = .ok (.istore 4, 2) := zo_54 (zi_at zh_dX3_suspectedOf_112_112 5 rfl) (zi_at zh_dX3_suspectedOf_112_112 6 rfl)
theorem dX3_suspectedOf_119 : decode cX3_suspectedOf 119 = .ok (.iload 7, 2) := zo_21 (zi_at zh_dX3_suspectedOf_112_112 7 rfl) (zi_at zh_dX3_suspectedOf_112_112 8 rfl)
theorem dX3_suspectedOf_121 : decode cX3_suspectedOf 121 = .ok (.istore 5, 2) := zo_54 (zi_at zh_dX3_suspectedOf_112_112 9 rfl) (zi_at zh_dX3_suspectedOf_112_112 10 rfl)
theorem dX3_suspectedOf_123 : decode cX3_suspectedOf 123 = .ok (.iinc 6 1, 3) := zo_132 (zi_at zh_dX3_suspectedOf_112_112 11 rfl) (zi_at zh_dX3_suspectedOf_112_112 12 rfl) (zi_at zh_dX3_suspectedOf_112_112 13 rfl) rfl
theorem dX3_suspectedOf_126 : decode cX3_suspectedOf 126 = .ok (.goto (-44), 3) := zo_167 (zi_at zh_dX3_suspectedOf_112_112 14 rfl) (zi_at zh_dX3_suspectedOf_112_112 15 rfl) (zi_at zh_dX3_suspectedOf_126_128 0 rfl) rfl
theorem dX3_suspectedOf_129 : decode cX3_suspectedOf 129 = .ok (.iload_n 2, 1) := zo_28 (zi_at zh_dX3_suspectedOf_126_128 1 rfl)
theorem dX3_suspectedOf_130 : decode cX3_suspectedOf 130 = .ok (.ifCond .ne 13, 3) := zo_154 (zi_at zh_dX3_suspectedOf_126_128 2 rfl) (zi_at zh_dX3_suspectedOf_126_128 3 rfl) (zi_at zh_dX3_suspectedOf_126_128 4 rfl) rfl
theorem dX3_suspectedOf_133 : decode cX3_suspectedOf 133 = .ok (.aload_n 0, 1) := zo_42 (zi_at zh_dX3_suspectedOf_126_128 5 rfl)
theorem dX3_suspectedOf_134 : decode cX3_suspectedOf 134 = .ok (.getfield 25, 3) := zo_180 (zi_at zh_dX3_suspectedOf_126_128 6 rfl) (zi_at zh_dX3_suspectedOf_126_128 7 rfl) (zi_at zh_dX3_suspectedOf_126_128 8 rfl) rfl
theorem dX3_suspectedOf_137 : decode cX3_suspectedOf 137 = .ok (.iload 4, 2) := zo_21 (zi_at zh_dX3_suspectedOf_126_128 9 rfl) (zi_at zh_dX3_suspectedOf_126_128 10 rfl)
theorem dX3_suspectedOf_139 : decode cX3_suspectedOf 139 = .ok (.iaload, 1) := zo_46 (zi_at zh_dX3_suspectedOf_126_128 11 rfl)
theorem dX3_suspectedOf_140 : decode cX3_suspectedOf 140 = .ok (.goto 5, 3) := zo_167 (zi_at zh_dX3_suspectedOf_126_128 12 rfl) (zi_at zh_dX3_suspectedOf_126_128 13 rfl) (zi_at zh_dX3_suspectedOf_126_128 14 rfl) rfl
theorem dX3_suspectedOf_143 : decode cX3_suspectedOf 143 = .ok (.iload 5, 2) := zo_21 (zi_at zh_dX3_suspectedOf_126_128 15 rfl) (zi_at zh_dX3_suspectedOf_143_144 0 rfl)
theorem dX3_suspectedOf_145 : decode cX3_suspectedOf 145 = .ok (.ireturn, 1) := zo_172 (zi_at zh_dX3_suspectedOf_143_144 1 rfl)
theorem dX3_jumpAt_0 : decode cX3_jumpAt 0 = .ok (.aload_n 0, 1) := zo_42 (zi_at zh_dX3_jumpAt_0_0 0 rfl)
theorem dX3_jumpAt_1 : decode cX3_jumpAt 1 = .ok (.iload_n 1, 1) := zo_27 (zi_at zh_dX3_jumpAt_0_0 1 rfl)
theorem dX3_jumpAt_2 : decode cX3_jumpAt 2 = .ok (.iload_n 2, 1) := zo_28 (zi_at zh_dX3_jumpAt_0_0 2 rfl)
theorem dX3_jumpAt_3 : decode cX3_jumpAt 3 = .ok (.invokevirtual 140, 3) := zo_182 (zi_at zh_dX3_jumpAt_0_0 3 rfl) (zi_at zh_dX3_jumpAt_0_0 4 rfl) (zi_at zh_dX3_jumpAt_0_0 5 rfl) rfl
theorem dX3_jumpAt_6 : decode cX3_jumpAt 6 = .ok (.aload_n 0, 1) := zo_42 (zi_at zh_dX3_jumpAt_0_0 6 rfl)
theorem dX3_jumpAt_7 : decode cX3_jumpAt 7 = .ok (.iconst 0, 1) := zo_3 (zi_at zh_dX3_jumpAt_0_0 7 rfl)
theorem dX3_jumpAt_8 : decode cX3_jumpAt 8 = .ok (.iload_n 1, 1) := zo_27 (zi_at zh_dX3_jumpAt_0_0 8 rfl)
theorem dX3_jumpAt_9 : decode cX3_jumpAt 9 = .ok (.invokevirtual 140, 3) := zo_182 (zi_at zh_dX3_jumpAt_0_0 9 rfl) (zi_at zh_dX3_jumpAt_0_0 10 rfl) (zi_at zh_dX3_jumpAt_0_0 11 rfl) rfl
theorem dX3_jumpAt_12 : decode cX3_jumpAt 12 = .ok (.isub, 1) := zo_100 (zi_at zh_dX3_jumpAt_0_0 12 rfl)
theorem dX3_jumpAt_13 : decode cX3_jumpAt 13 = .ok (.ireturn, 1) := zo_172 (zi_at zh_dX3_jumpAt_0_0 13 rfl)
theorem dX3_meanOf_0 : decode cX3_meanOf 0 = .ok (.lconst 0, 1) := zo_9 (zi_at zh_dX3_meanOf_0_0 0 rfl)
theorem dX3_meanOf_1 : decode cX3_meanOf 1 = .ok (.lstore_n 3, 1) := zo_66 (zi_at zh_dX3_meanOf_0_0 1 rfl)
theorem dX3_meanOf_2 : decode cX3_meanOf 2 = .ok (.iload_n 1, 1) := zo_27 (zi_at zh_dX3_meanOf_0_0 2 rfl)
theorem dX3_meanOf_3 : decode cX3_meanOf 3 = .ok (.istore 5, 2) := zo_54 (zi_at zh_dX3_meanOf_0_0 3 rfl) (zi_at zh_dX3_meanOf_0_0 4 rfl)
theorem dX3_meanOf_5 : decode cX3_meanOf 5 = .ok (.iload 5, 2) := zo_21 (zi_at zh_dX3_meanOf_0_0 5 rfl) (zi_at zh_dX3_meanOf_0_0 6 rfl)
theorem dX3_meanOf_7 : decode cX3_meanOf 7 = .ok (.iload_n 2, 1) := zo_28 (zi_at zh_dX3_meanOf_0_0 7 rfl)
theorem dX3_meanOf_8 : decode cX3_meanOf 8 = .ok (.if_icmp .ge 20, 3) := zo_162 (zi_at zh_dX3_meanOf_0_0 8 rfl) (zi_at zh_dX3_meanOf_0_0 9 rfl) (zi_at zh_dX3_meanOf_0_0 10 rfl) rfl
theorem dX3_meanOf_11 : decode cX3_meanOf 11 = .ok (.lload_n 3, 1) := zo_33 (zi_at zh_dX3_meanOf_0_0 11 rfl)
theorem dX3_meanOf_12 : decode cX3_meanOf 12 = .ok (.aload_n 0, 1) := zo_42 (zi_at zh_dX3_meanOf_0_0 12 rfl)
theorem dX3_meanOf_13 : decode cX3_meanOf 13 = .ok (.getfield 34, 3) := zo_180 (zi_at zh_dX3_meanOf_0_0 13 rfl) (zi_at zh_dX3_meanOf_0_0 14 rfl) (zi_at zh_dX3_meanOf_0_0 15 rfl) rfl
theorem dX3_meanOf_16 : decode cX3_meanOf 16 = .ok (.iload 5, 2) := zo_21 (zi_at zh_dX3_meanOf_16_16 0 rfl) (zi_at zh_dX3_meanOf_16_16 1 rfl)
theorem dX3_meanOf_18 : decode cX3_meanOf 18 = .ok (.iaload, 1) := zo_46 (zi_at zh_dX3_meanOf_16_16 2 rfl)
theorem dX3_meanOf_19 : decode cX3_meanOf 19 = .ok (.i2l, 1) := zo_133 (zi_at zh_dX3_meanOf_16_16 3 rfl)
theorem dX3_meanOf_20 : decode cX3_meanOf 20 = .ok (.ladd, 1) := zo_97 (zi_at zh_dX3_meanOf_16_16 4 rfl)
theorem dX3_meanOf_21 : decode cX3_meanOf 21 = .ok (.lstore_n 3, 1) := zo_66 (zi_at zh_dX3_meanOf_16_16 5 rfl)
theorem dX3_meanOf_22 : decode cX3_meanOf 22 = .ok (.iinc 5 1, 3) := zo_132 (zi_at zh_dX3_meanOf_16_16 6 rfl) (zi_at zh_dX3_meanOf_16_16 7 rfl) (zi_at zh_dX3_meanOf_16_16 8 rfl) rfl
theorem dX3_meanOf_25 : decode cX3_meanOf 25 = .ok (.goto (-20), 3) := zo_167 (zi_at zh_dX3_meanOf_16_16 9 rfl) (zi_at zh_dX3_meanOf_16_16 10 rfl) (zi_at zh_dX3_meanOf_16_16 11 rfl) rfl
theorem dX3_meanOf_28 : decode cX3_meanOf 28 = .ok (.iload_n 2, 1) := zo_28 (zi_at zh_dX3_meanOf_16_16 12 rfl)
theorem dX3_meanOf_29 : decode cX3_meanOf 29 = .ok (.iload_n 1, 1) := zo_27 (zi_at zh_dX3_meanOf_16_16 13 rfl)
theorem dX3_meanOf_30 : decode cX3_meanOf 30 = .ok (.if_icmp .le 13, 3) := zo_164 (zi_at zh_dX3_meanOf_16_16 14 rfl) (zi_at zh_dX3_meanOf_16_16 15 rfl) (zi_at zh_dX3_meanOf_30_32 0 rfl) rfl
theorem dX3_meanOf_33 : decode cX3_meanOf 33 = .ok (.lload_n 3, 1) := zo_33 (zi_at zh_dX3_meanOf_30_32 1 rfl)
theorem dX3_meanOf_34 : decode cX3_meanOf 34 = .ok (.iload_n 2, 1) := zo_28 (zi_at zh_dX3_meanOf_30_32 2 rfl)
theorem dX3_meanOf_35 : decode cX3_meanOf 35 = .ok (.iload_n 1, 1) := zo_27 (zi_at zh_dX3_meanOf_30_32 3 rfl)
theorem dX3_meanOf_36 : decode cX3_meanOf 36 = .ok (.isub, 1) := zo_100 (zi_at zh_dX3_meanOf_30_32 4 rfl)
theorem dX3_meanOf_37 : decode cX3_meanOf 37 = .ok (.i2l, 1) := zo_133 (zi_at zh_dX3_meanOf_30_32 5 rfl)
theorem dX3_meanOf_38 : decode cX3_meanOf 38 = .ok (.ldiv, 1) := zo_109 (zi_at zh_dX3_meanOf_30_32 6 rfl)
theorem dX3_meanOf_39 : decode cX3_meanOf 39 = .ok (.l2i, 1) := zo_136 (zi_at zh_dX3_meanOf_30_32 7 rfl)
theorem dX3_meanOf_40 : decode cX3_meanOf 40 = .ok (.goto 4, 3) := zo_167 (zi_at zh_dX3_meanOf_30_32 8 rfl) (zi_at zh_dX3_meanOf_30_32 9 rfl) (zi_at zh_dX3_meanOf_30_32 10 rfl) rfl
theorem dX3_meanOf_43 : decode cX3_meanOf 43 = .ok (.iconst 0, 1) := zo_3 (zi_at zh_dX3_meanOf_30_32 11 rfl)
theorem dX3_meanOf_44 : decode cX3_meanOf 44 = .ok (.ireturn, 1) := zo_172 (zi_at zh_dX3_meanOf_30_32 12 rfl)
theorem dX12_suspect_0 : decode cX12_suspect 0 = .ok (.aload_n 0, 1) := zo_42 (zi_at zh_dX12_suspect_0_0 0 rfl)
theorem dX12_suspect_1 : decode cX12_suspect 1 = .ok (.getfield 10, 3) := zo_180 (zi_at zh_dX12_suspect_0_0 1 rfl) (zi_at zh_dX12_suspect_0_0 2 rfl) (zi_at zh_dX12_suspect_0_0 3 rfl) rfl
theorem dX12_suspect_4 : decode cX12_suspect 4 = .ok (.iload_n 1, 1) := zo_27 (zi_at zh_dX12_suspect_0_0 4 rfl)
theorem dX12_suspect_5 : decode cX12_suspect 5 = .ok (.invokevirtual 66, 3) := zo_182 (zi_at zh_dX12_suspect_0_0 5 rfl) (zi_at zh_dX12_suspect_0_0 6 rfl) (zi_at zh_dX12_suspect_0_0 7 rfl) rfl
theorem dX12_suspect_8 : decode cX12_suspect 8 = .ok (.ifCond .eq 12, 3) := zo_153 (zi_at zh_dX12_suspect_0_0 8 rfl) (zi_at zh_dX12_suspect_0_0 9 rfl) (zi_at zh_dX12_suspect_0_0 10 rfl) rfl
theorem dX12_suspect_11 : decode cX12_suspect 11 = .ok (.iload_n 2, 1) := zo_28 (zi_at zh_dX12_suspect_0_0 11 rfl)
theorem dX12_suspect_12 : decode cX12_suspect 12 = .ok (.iconst 0, 1) := zo_3 (zi_at zh_dX12_suspect_0_0 12 rfl)
theorem dX12_suspect_13 : decode cX12_suspect 13 = .ok (.iconst 1, 1) := zo_4 (zi_at zh_dX12_suspect_0_0 13 rfl)
theorem dX12_suspect_14 : decode cX12_suspect 14 = .ok (.invokestatic 59, 3) := zo_184 (zi_at zh_dX12_suspect_0_0 14 rfl) (zi_at zh_dX12_suspect_0_0 15 rfl) (zi_at zh_dX12_suspect_14_16 0 rfl) rfl
theorem dX12_suspect_17 : decode cX12_suspect 17 = .ok (.ifCond .ne 6, 3) := zo_154 (zi_at zh_dX12_suspect_14_16 1 rfl) (zi_at zh_dX12_suspect_14_16 2 rfl) (zi_at zh_dX12_suspect_14_16 3 rfl) rfl
theorem dX12_suspect_20 : decode cX12_suspect 20 = .ok (.ldc 172, 2) := zo_18 (zi_at zh_dX12_suspect_14_16 4 rfl) (zi_at zh_dX12_suspect_14_16 5 rfl)
theorem dX12_suspect_22 : decode cX12_suspect 22 = .ok (.ireturn, 1) := zo_172 (zi_at zh_dX12_suspect_14_16 6 rfl)
theorem dX12_suspect_23 : decode cX12_suspect 23 = .ok (.aload_n 0, 1) := zo_42 (zi_at zh_dX12_suspect_14_16 7 rfl)
theorem dX12_suspect_24 : decode cX12_suspect 24 = .ok (.getfield 51, 3) := zo_180 (zi_at zh_dX12_suspect_14_16 8 rfl) (zi_at zh_dX12_suspect_14_16 9 rfl) (zi_at zh_dX12_suspect_14_16 10 rfl) rfl
theorem dX12_suspect_27 : decode cX12_suspect 27 = .ok (.invokevirtual 249, 3) := zo_182 (zi_at zh_dX12_suspect_14_16 11 rfl) (zi_at zh_dX12_suspect_14_16 12 rfl) (zi_at zh_dX12_suspect_14_16 13 rfl) rfl
theorem dX12_suspect_30 : decode cX12_suspect 30 = .ok (.aload_n 0, 1) := zo_42 (zi_at zh_dX12_suspect_14_16 14 rfl)
theorem dX12_suspect_31 : decode cX12_suspect 31 = .ok (.getfield 51, 3) := zo_180 (zi_at zh_dX12_suspect_14_16 15 rfl) (zi_at zh_dX12_suspect_31_32 0 rfl) (zi_at zh_dX12_suspect_31_32 1 rfl) rfl
theorem dX12_suspect_34 : decode cX12_suspect 34 = .ok (.iload_n 1, 1) := zo_27 (zi_at zh_dX12_suspect_31_32 2 rfl)
theorem dX12_suspect_35 : decode cX12_suspect 35 = .ok (.iload_n 2, 1) := zo_28 (zi_at zh_dX12_suspect_31_32 3 rfl)
theorem dX12_suspect_36 : decode cX12_suspect 36 = .ok (.invokevirtual 270, 3) := zo_182 (zi_at zh_dX12_suspect_31_32 4 rfl) (zi_at zh_dX12_suspect_31_32 5 rfl) (zi_at zh_dX12_suspect_31_32 6 rfl) rfl
theorem dX12_suspect_39 : decode cX12_suspect 39 = .ok (.ireturn, 1) := zo_172 (zi_at zh_dX12_suspect_31_32 7 rfl)
theorem hz_yX3_meanOf_2 : yX3_meanOf.cls ≠ "java/lang/invoke/MethodHandle" ∧ yX3_meanOf.cls ≠ "java/lang/invoke/VarHandle" ∧ (parseMethodDescriptor yX3_meanOf.desc).map (fun d => d.parameters.length) = some 2 := by decide +kernel
theorem hz_yX3_jumpAt_2 : yX3_jumpAt.cls ≠ "java/lang/invoke/MethodHandle" ∧ yX3_jumpAt.cls ≠ "java/lang/invoke/VarHandle" ∧ (parseMethodDescriptor yX3_jumpAt.desc).map (fun d => d.parameters.length) = some 2 := by decide +kernel
theorem hz_yX3_suspectedOf_2 : yX3_suspectedOf.cls ≠ "java/lang/invoke/MethodHandle" ∧ yX3_suspectedOf.cls ≠ "java/lang/invoke/VarHandle" ∧ (parseMethodDescriptor yX3_suspectedOf.desc).map (fun d => d.parameters.length) = some 2 := by decide +kernel

def v_meanOfX : List Cond := .code yX3_meanOf cX3_meanOf 6 (some .int) :: vA
abbrev rm_meanOfX : Room := { frames := 0, cells := 0, slots := 0, locals := 0 }
set_option maxHeartbeats 4000000 in
set_option maxRecDepth 100000 in
theorem q_meanOfX (l : Launch) (dC : Nat → ClassId) (dI : Nat → Nat → Nat) (cT : Nat → ClassId) (cf : Nat → Nat) (hC : CF cf) (ad : Nat → Nat) (E : Nat → va_E) (sz : Nat) (a0 : Int32) (a1 : Int32) (hI0 : IXL cT (shC cf) (spC cf) (LC cf) ad E) (hh0 : 0 ≤ a0.toInt ∧ a0.toInt ≤ 20) (hh1 : 0 ≤ a1.toInt ∧ a1.toInt ≤ 20) (hh2 : a0.toInt < a1.toInt) (hh3 : ∀ i9 : Nat, i9 < a1.toNatClampNeg → 0 ≤ (xi (E 50) i9).toInt ∧ (xi (E 50) i9).toInt ≤ 400000000) : Met l yX3_meanOf v_meanOfX rm_meanOfX (va_Pc [.ref (ad 6), .int a0, .int a1] (HWL dC dI (TYC cT) cf ad E sz)) (va_Qi (S := Unit) (fun r _ => (0 ≤ r.toInt ∧ r.toInt ≤ 400000000) ∧ (r.toInt = mnG (fun i8 : Nat => (xi (E 50) i8).toInt) a0.toNatClampNeg a1.toNatClampNeg)) (fun _ _ => True) (fun _ => False)) 0 0 (fun _ => False) := by
  obtain ⟨⟨hc0, hc1, hc2, hc3, hc4, hc5⟩, hcr⟩ := id hC
  refine Met.ofW (cc := cX3_meanOf) (maxL := 6) (ret := (some .int)) (by decide) rfl ?_
  intro p e s m args below meth c s₁ B hml hv
  obtain ⟨hargs, hsz, hP, hK, hD0, hEV⟩ := hv
  subst hsz
  have hx := B.exec
  have hb := B.bytes
  have hr := B.returns
  have hts := atoms_spec (ws := v_meanOfX) B.pre
  have hown : s.vm.findClass RX3 = some m.cls := findClass_of_methodNamed B.named
  have hlocks := B.notSynchronized
  have hinX3 : ∀ w ∈ u_ws RX3 TX3 18, w ∈ v_meanOfX := fun w h => vA_in _ w (in_X3 w h)
  have hS : va_S (fun _ : Nat => False) s.heap s.heap [] := va_S.rf
  have hD := hD0
  have hI := hI0
  have hKp : Kp (wl [] []) E E := Kp.rf
  have hl := lv_entry ([.ref (ad 6), .int a0, .int a1]) (n := 6) (Nat.le_of_ble_eq_true rfl)
  obtain ⟨Q, hQ⟩ : ∃ Q, Q = MQ below (va_Qi (S := Unit) (fun r _ => (0 ≤ r.toInt ∧ r.toInt ≤ 400000000) ∧ (r.toInt = mnG (fun i8 : Nat => (xi (E 50) i8).toInt) a0.toNatClampNeg a1.toNatClampNeg)) (fun _ _ => True) (fun _ => False)) args s 0 0 (fun _ => False) := ⟨_, rfl⟩
  rw [← hQ, show entryFrame m args 6 = _ from (congrArg (fun z => entryFrame m z 6) hargs).trans (lg_entry_eq _ _ _)]
  generalize (lg_sl ([.ref (ad 6), .int a0, .int a1]) ++ List.replicate (6 - (lg_sl ([.ref (ad 6), .int a0, .int a1])).length) Slot.unset).toArray = ls at hl ⊢
  have hl : lv_has ls 6 [(0, .ref (ad 6)), (1, .int a0), (2, .int a1)] := hl
  refine lv_lconst hx hb dX3_meanOf_0 rfl ?_
  refine lv_topl (fun y1 ey1 => ?_)
  refine lv_lstore_n (lv' := [(3, .long y1), (0, .ref (ad 6)), (1, .int a0), (2, .int a1)]) hx hb dX3_meanOf_1 rfl hl (by decide) rfl (fun ls hl => ?_)
  refine lv_iload_n hx hb dX3_meanOf_2 rfl (lv_at hl 2 rfl) ?_
  refine lv_istore (lv' := [(5, .int a0), (3, .long y1), (0, .ref (ad 6)), (1, .int a0), (2, .int a1)]) hx hb dX3_meanOf_3 hl (by decide) rfl (fun ls hl => ?_)
  have hL5 : ∀ d : Nat, ∀ (v5_5 : Int32) (v5_3 : Int64) (H : Heap) (locs : List Loc) (ls : Array Slot), 0 ≤ v5_5.toInt ∧ v5_5.toInt ≤ 20 → a0.toInt ≤ v5_5.toInt ∧ v5_5.toInt ≤ a1.toInt → v5_3.toInt = sumF (fun i9 => (xi (E 50) (a0.toNatClampNeg + i9)).toInt) (v5_5.toNatClampNeg - a0.toNatClampNeg) → 0 ≤ v5_3.toInt ∧ v5_3.toInt ≤ 400000000 * (v5_5.toInt - a0.toInt) → 20 - v5_5.toInt < (d : Int) → va_P (dC, dI) vwCl (WL (LC cf) ad E) H → va_S (fun _ : Nat => False) s.heap H locs → lv_has ls 6 [(5, .int v5_5), (3, .long v5_3), (0, .ref (ad 6)), (1, .int a0), (2, .int a1)] → W p l e (headSpec v_meanOfX rm_meanOfX).room s m args below meth c H locs 0 0 Q (F0 m 5 ls []) := by
    intro d
    induction d with
    | zero =>
      intro v5_5 v5_3 H locs ls hv5_5 hx5_0 hx5_1 hx5_2 hx5_3 hP hS hl
      exact absurd hx5_3 (by first | exact ms_zu hv5_5.2 | omega)
    | succ d ih5 =>
      intro v5_5 v5_3 H locs ls hv5_5 hx5_0 hx5_1 hx5_2 hx5_3 hP hS hl
      refine lv_iload hx hb dX3_meanOf_5 (lv_at hl 0 rfl) ?_
      refine lv_iload_n hx hb dX3_meanOf_7 rfl (lv_at hl 4 rfl) ?_
      refine lv_icmp_ge (tgt := 28) hx hb dX3_meanOf_8 (by decide) (fun c2 => ?_) (fun c2 => ?_)
      · --8 taken
        have t3 : a1.toInt ≤ v5_5.toInt := ti_le c2
        refine lv_iload_n hx hb dX3_meanOf_28 rfl (lv_at hl 4 rfl) ?_
        refine lv_iload_n hx hb dX3_meanOf_29 rfl (lv_at hl 3 rfl) ?_
        refine lv_icmp_le (tgt := 43) hx hb dX3_meanOf_30 (by decide) (fun c4 => ?_) (fun c4 => ?_)
        · --30 taken
          have t5 : a1.toInt ≤ a0.toInt := ti_le c4
          refine lv_iconst (v := 0) hx hb dX3_meanOf_43 (by decide) ?_
          rw [hQ]
          exact W.iret (v := 0) hx hb hr (fun t ht hW => ⟨⟨0, (), rfl, ⟨(iv_w ln_0 (by decide)), (by exfalso; omega)⟩, trivial⟩, hS.F ht⟩) hS.2.2 dX3_meanOf_44
        · --30 not
          have t6 : a0.toInt < a1.toInt := ti_nle c4
          have i7 : 0 ≤ a0.toInt ∧ a0.toInt ≤ 19 := iv_lt_l t6 hh0 hh1 (by decide)
          have i8 : 1 ≤ a1.toInt ∧ a1.toInt ≤ 20 := iv_lt_r t6 hh0 hh1 (by decide)
          refine lv_lload_n hx hb dX3_meanOf_33 rfl (lv_at hl 1 rfl) ?_
          refine lv_iload_n hx hb dX3_meanOf_34 rfl (lv_at hl 4 rfl) ?_
          refine lv_iload_n hx hb dX3_meanOf_35 rfl (lv_at hl 3 rfl) ?_
          refine lv_isub hx hb dX3_meanOf_36 ?_
          refine lv_topi (fun y9 ey9 => ?_)
          obtain ⟨ty9, iy9⟩ := ti_sub (e := (-18)) (f := 20) i8 i7 ey9 (by decide)
          have ty9 : y9.toInt = a1.toInt - a0.toInt := ty9
          have iy9 : -18 ≤ y9.toInt ∧ y9.toInt ≤ 20 := iy9
          refine lv_i2l hx hb dX3_meanOf_37 rfl ?_
          refine lv_topl (fun y10 ey10 => ?_)
          refine lv_ldiv hx hb dX3_meanOf_38 (i2l_n0 ey10 (by omega)) ?_
          refine lv_topl (fun y11 ey11 => ?_)
          refine lv_l2i hx hb dX3_meanOf_39 rfl ?_
          refine lv_topi (fun y12 ey12 => ?_)
          have k13 : y12.toInt = v5_3.toInt / y9.toInt ∧ 0 ≤ y12.toInt ∧ y12.toInt ≤ 400000000 := mn_of ey10 ey11 ey12 (by omega) (by omega)
          have i14 : 0 ≤ y12.toInt ∧ y12.toInt ≤ 400000000 := by omega
          refine lv_goto (tgt := 44) hx hb dX3_meanOf_40 (by decide) ?_
          rw [hQ]
          exact W.iret (v := y12) hx hb hr (fun t ht hW => ⟨⟨y12, (), rfl, ⟨i14, (mnG_of (g := (fun i8 : Nat => (xi (E 50) i8).toInt)) (a := a0.toNatClampNeg) (n := a1.toNatClampNeg) (s := v5_3.toInt) (d := y9.toInt) (by rw [tn_ a0, tn_ a1]; omega) (by have h8 := hx5_1; rw [show v5_5.toNatClampNeg = a1.toNatClampNeg by rw [tn_ v5_5, tn_ a1]; omega] at h8; exact h8) (by rw [tn_ a0, tn_ a1]; omega) k13.1)⟩, trivial⟩, hS.F ht⟩) hS.2.2 dX3_meanOf_44
      · --8 not
        have t15 : v5_5.toInt < a1.toInt := ti_nle c2
        have i16 : 0 ≤ v5_5.toInt ∧ v5_5.toInt ≤ 19 := iv_lt_l t15 hv5_5 hh1 (by decide)
        have i17 : 1 ≤ a1.toInt ∧ a1.toInt ≤ 20 := iv_lt_r t15 hv5_5 hh1 (by decide)
        refine lv_lload_n hx hb dX3_meanOf_11 rfl (lv_at hl 1 rfl) ?_
        refine lv_aload_n hx hb dX3_meanOf_12 rfl (lv_at hl 2 rfl) ?_
        refine th_getL (ci := 4) (C := RX3) (T := TX3) (N := 18) (v := .ref (ad 50)) hx hb hts hinX3 hown hK hP hI 6 (mF 6 rfl) rfl rfl 9 (Nat.le_of_ble_eq_true rfl) (hts _ (vA_in _ _ (in_19 _ (zs16 (zs4 (zs4 (zs1 (zs1 (zs0))))))))) (fun _ h9 => h9) (hI.fr 6 (mF 6 rfl) rfl (Nat.le_of_ble_eq_true rfl) 50 rfl) dX3_meanOf_13 ?_
        refine lv_iload hx hb dX3_meanOf_16 (lv_at hl 0 rfl) ?_
        have n19 : vp_in v5_5 20 := (iv_in (n := 20) i16 (by decide))
        refine th_ialdL hx hb hK hP hI 50 (mF 50 rfl) rfl rfl n19 dX3_meanOf_18 (fun y18 ey18 => ?_)
        have ey18 := ey18.trans (hKp.ei 50 _ rfl)
        refine lv_i2l hx hb dX3_meanOf_19 rfl ?_
        refine lv_topl (fun y20 ey20 => ?_)
        refine lv_ladd hx hb dX3_meanOf_20 ?_
        refine lv_topl (fun y21 ey21 => ?_)
        have k22 : y21.toInt = v5_3.toInt + y18.toInt ∧ 0 ≤ y18.toInt ∧ y18.toInt ≤ 400000000 := by have q1 : y20.toInt = y18.toInt := (by rw [ey20, l_of]); have q2 := hh3 v5_5.toNatClampNeg (by rw [tn_ v5_5, tn_ a1]; omega); rw [← ey18] at q2; have q3 := hx5_2; have q4 := l_add ey21 (by omega) (by omega); omega
        refine lv_lstore_n (lv' := [(3, .long y21), (5, .int v5_5), (0, .ref (ad 6)), (1, .int a0), (2, .int a1)]) hx hb dX3_meanOf_21 rfl hl (by decide) rfl (fun ls hl => ?_)
        obtain ⟨y23, ey23⟩ : ∃ y : Int32, y = v5_5 + (1 : Int32) := ⟨_, rfl⟩
        obtain ⟨ty23, iy23⟩ := ti_add (e := 1) (f := 20) i16 ln_1 ey23 (by decide)
        have ty23 : y23.toInt = v5_5.toInt + 1 := ty23
        have iy23 : 1 ≤ y23.toInt ∧ y23.toInt ≤ 20 := iy23
        refine lv_iinc (v := y23) (lv' := [(5, .int y23), (3, .long y21), (0, .ref (ad 6)), (1, .int a0), (2, .int a1)]) hx hb dX3_meanOf_22 hl (k := 1) rfl (by rw [ey23]; rfl) (by decide) rfl (fun ls hl => ?_)
        refine lv_goto (tgt := 5) hx hb dX3_meanOf_25 (by decide) ?_
        exact ih5 y23 y21 _ _ _ (iv_w iy23 (by decide)) (by omega) (sumF_st hx5_1 (by rw [tn_ y23, tn_ v5_5, tn_ a0]; omega) (by rw [show a0.toNatClampNeg + (v5_5.toNatClampNeg - a0.toNatClampNeg) = v5_5.toNatClampNeg by rw [tn_ a0, tn_ v5_5]; omega]; have h9 := k22.1; have h8 := congrArg Int32.toInt ey18; omega)) (by have h9 := k22; omega) (by first | exact ms_su hx5_3 ty23 (by decide) | omega) hP hS (lv_sub hl [0, 1, 2, 3, 4] rfl)
  exact hL5 (21) a0 y1 _ _ _ hh0 (by omega) (by have z0 : y1.toInt = 0 := (by rw [ey1]; decide); rw [show a0.toNatClampNeg - a0.toNatClampNeg = 0 by omega]; exact z0) (by have z0 : y1.toInt = 0 := (by rw [ey1]; decide); omega) (by have h9 := hh0; first | exact ms_bu h9.1 (by decide) | omega) hP hS (lv_sub hl [0, 1, 2, 3, 4] rfl)
def v_jumpAtX : List Cond := .code yX3_jumpAt cX3_jumpAt 3 (some .int) :: vA
abbrev rm_jumpAtX : Room := { frames := 1, cells := 0, slots := 0, locals := 40 }
set_option maxHeartbeats 4000000 in
set_option maxRecDepth 100000 in
theorem q_jumpAtX (l : Launch) (dC : Nat → ClassId) (dI : Nat → Nat → Nat) (cT : Nat → ClassId) (cf : Nat → Nat) (hC : CF cf) (ad : Nat → Nat) (E : Nat → va_E) (sz : Nat) (a0 : Int32) (a1 : Int32) (hI0 : IXL cT (shC cf) (spC cf) (LC cf) ad E) (hh0 : 1 ≤ a0.toInt ∧ a0.toInt ≤ 19) (hh1 : 2 ≤ a1.toInt ∧ a1.toInt ≤ 20) (hh2 : a0.toInt < a1.toInt) (hh3 : ∀ i9 : Nat, i9 < a1.toNatClampNeg → 0 ≤ (xi (E 50) i9).toInt ∧ (xi (E 50) i9).toInt ≤ 400000000) : Met l yX3_jumpAt v_jumpAtX rm_jumpAtX (va_Pc [.ref (ad 6), .int a0, .int a1] (HWL dC dI (TYC cT) cf ad E sz)) (va_Qi (S := Unit) (fun r _ => (-400000000 ≤ r.toInt ∧ r.toInt ≤ 400000000) ∧ (r.toInt = jpG (fun i8 : Nat => (xi (E 50) i8).toInt) a0.toNatClampNeg a1.toNatClampNeg)) (fun _ _ => True) (fun _ => False)) 0 0 (fun _ => False) := by
  obtain ⟨⟨hc0, hc1, hc2, hc3, hc4, hc5⟩, hcr⟩ := id hC
  refine Met.ofW (cc := cX3_jumpAt) (maxL := 3) (ret := (some .int)) (by decide) rfl ?_
  intro p e s m args below meth c s₁ B hml hv
  obtain ⟨hargs, hsz, hP, hK, hD0, hEV⟩ := hv
  subst hsz
  have hx := B.exec
  have hb := B.bytes
  have hr := B.returns
  have hts := atoms_spec (ws := v_jumpAtX) B.pre
  have hown : s.vm.findClass RX3 = some m.cls := findClass_of_methodNamed B.named
  have hlocks := B.notSynchronized
  have hS : va_S (fun _ : Nat => False) s.heap s.heap [] := va_S.rf
  have hD := hD0
  have hI := hI0
  have hKp : Kp (wl [] []) E E := Kp.rf
  have hl := lv_entry ([.ref (ad 6), .int a0, .int a1]) (n := 3) (Nat.le_of_ble_eq_true rfl)
  obtain ⟨Q, hQ⟩ : ∃ Q, Q = MQ below (va_Qi (S := Unit) (fun r _ => (-400000000 ≤ r.toInt ∧ r.toInt ≤ 400000000) ∧ (r.toInt = jpG (fun i8 : Nat => (xi (E 50) i8).toInt) a0.toNatClampNeg a1.toNatClampNeg)) (fun _ _ => True) (fun _ => False)) args s 0 0 (fun _ => False) := ⟨_, rfl⟩
  rw [← hQ, show entryFrame m args 3 = _ from (congrArg (fun z => entryFrame m z 3) hargs).trans (lg_entry_eq _ _ _)]
  generalize (lg_sl ([.ref (ad 6), .int a0, .int a1]) ++ List.replicate (3 - (lg_sl ([.ref (ad 6), .int a0, .int a1])).length) Slot.unset).toArray = ls at hl ⊢
  have hl : lv_has ls 3 [(0, .ref (ad 6)), (1, .int a0), (2, .int a1)] := hl
  refine lv_aload_n hx hb dX3_jumpAt_0 rfl (lv_at hl 0 rfl) ?_
  refine lv_iload_n hx hb dX3_jumpAt_1 rfl (lv_at hl 1 rfl) ?_
  refine lv_iload_n hx hb dX3_jumpAt_2 rfl (lv_at hl 2 rfl) ?_
  refine th_riL (va_runV (As := [.int a0, .int a1]) (rest := []) ⟨hx, hb, hml, hown, hts⟩ (q_meanOfX l dC dI cT cf hC ad E s.heap.size a0 a1 hI (iv_w hh0 (by decide)) (iv_w hh1 (by decide)) (by have z9 := ln_0; omega) (by exact hh3)) (cwV 2 hts (gi_V (in_23 _ (zs16 (zs0))) (in_23 _ (zs16 (zs1 (zs0)))) (in_23 _ (zs16 (zs1 (zs1 (zs0))))) (in_11 _ (zs4 (zs4 (zs4 (zs1 (zs1 (zs1 (zs0)))))))) (in_23 _ (zs16 (zs1 (zs1 (zs1 (zs0))))))) rfl rfl rfl ⟨rfl, hz_yX3_meanOf_2⟩ ⟨Nat.le_of_ble_eq_true rfl, Nat.le_of_ble_eq_true rfl⟩) ⟨HWL_bl, va_recv hK hP (ci := 4) (q0 := posL 6 (LC cf)) rfl (hI.ob 6 (mF 6 rfl) rfl), (HWL_wiR hP hK (WL_D hD) hS hEV)⟩ rfl rfl hl.1 rfl (lv_room (Nat.le_of_ble_eq_true rfl)) dX3_jumpAt_3 ⟨Nat.le_of_ble_eq_true rfl, Nat.le_of_ble_eq_true rfl⟩) hS hP (fun r1 H locs hw hP hS => ?_)
  obtain ⟨f2, f3⟩ := hw
  refine lv_aload_n hx hb dX3_jumpAt_6 rfl (lv_at hl 0 rfl) ?_
  refine lv_iconst (v := 0) hx hb dX3_jumpAt_7 (by decide) ?_
  refine lv_iload_n hx hb dX3_jumpAt_8 rfl (lv_at hl 1 rfl) ?_
  have z0 := ln_0
  refine th_riL (va_runV (As := [.int 0, .int a0]) (rest := [.int r1]) ⟨hx, hb, hml, hown, hts⟩ (q_meanOfX l dC dI cT cf hC ad E H.size (0 : Int32) a0 hI (iv_w ln_0 (by decide)) (iv_w hh0 (by decide)) (by have z9 := ln_0; omega) (by exact fun i9 h9 => hh3 i9 (by rw [tn_] at h9 ⊢; omega))) (cwV 2 hts (gi_V (in_23 _ (zs16 (zs0))) (in_23 _ (zs16 (zs1 (zs0)))) (in_23 _ (zs16 (zs1 (zs1 (zs0))))) (in_11 _ (zs4 (zs4 (zs4 (zs1 (zs1 (zs1 (zs0)))))))) (in_23 _ (zs16 (zs1 (zs1 (zs1 (zs0))))))) rfl rfl rfl ⟨rfl, hz_yX3_meanOf_2⟩ ⟨Nat.le_of_ble_eq_true rfl, Nat.le_of_ble_eq_true rfl⟩) ⟨HWL_bl, va_recv hK hP (ci := 4) (q0 := posL 6 (LC cf)) rfl (hI.ob 6 (mF 6 rfl) rfl), (HWL_wiR hP hK (WL_D hD) hS hEV)⟩ rfl rfl hl.1 rfl (lv_room (Nat.le_of_ble_eq_true rfl)) dX3_jumpAt_9 ⟨Nat.le_of_ble_eq_true rfl, Nat.le_of_ble_eq_true rfl⟩) hS hP (fun r4 H locs hw hP hS => ?_)
  obtain ⟨f5, f6⟩ := hw
  refine lv_isub hx hb dX3_jumpAt_12 ?_
  refine lv_topi (fun y7 ey7 => ?_)
  obtain ⟨ty7, iy7⟩ := ti_sub (e := (-400000000)) (f := 400000000) f2 f5 ey7 (by decide)
  have ty7 : y7.toInt = r1.toInt - r4.toInt := ty7
  have iy7 : -400000000 ≤ y7.toInt ∧ y7.toInt ≤ 400000000 := iy7
  rw [hQ]
  exact W.iret (v := y7) hx hb hr (fun t ht hW => ⟨⟨y7, (), rfl, ⟨iy7, (by unfold jpG; have h9 := f3; have h8 := f6; rw [show (0 : Int32).toNatClampNeg = 0 from rfl] at h8; omega)⟩, trivial⟩, hS.F ht⟩) hS.2.2 dX3_jumpAt_13
def v_suspectedOfX : List Cond := .code yX3_suspectedOf cX3_suspectedOf 8 (some .int) :: vA
abbrev rm_suspectedOfX : Room := { frames := 5, cells := 0, slots := 0, locals := 200 }
def w_suspectedOfX : Nat → Nat → Bool := wl [47, 48, 50, 51] []
set_option maxHeartbeats 4000000 in
set_option maxRecDepth 100000 in
theorem q_suspectedOfX (l : Launch) (dC : Nat → ClassId) (dI : Nat → Nat → Nat) (cT : Nat → ClassId) (cf : Nat → Nat) (hC : CF cf) (ad : Nat → Nat) (E : Nat → va_E) (sz : Nat) (a0 : Int32) (a1 : Int32) (hI0 : IXL cT (shC cf) (spC cf) (LC cf) ad E) (hh0 : 0 ≤ a0.toInt ∧ a0.toInt ≤ 15) (hh1 : ∀ (r9 : Nat) (m9 : Int32), r9 < cf 2 → MdO E r9 a0.toNatClampNeg m9 → m9.toInt = -1000000000 ∨ (0 ≤ m9.toInt ∧ m9.toInt ≤ 400000)) : Met l yX3_suspectedOf v_suspectedOfX rm_suspectedOfX (va_Pc [.ref (ad 6), .int a0, .int a1] (HWL dC dI (TYC cT) cf ad E sz)) (va_Qi (S := Nat → va_E) (fun r u => IXL cT (shC cf) (spC cf) (LC cf) ad u ∧ Kp w_suspectedOfX E u ∧ ((SpR (ctO E a0.toNatClampNeg) (dyC E) (fun r9 x9 => ∃ m9 : Int32, MdO E r9 a0.toNatClampNeg m9 ∧ x9 = rtI m9 (xi (E 46) (16 * r9 + a0.toNatClampNeg))) (cf 2) a1.toInt r.toInt))) (HBL dC dI (LC cf) ad) (va_A (WL (LC cf) ad E) sz)) 0 0 (va_A (WL (LC cf) ad E) sz) := by
  obtain ⟨⟨hc0, hc1, hc2, hc3, hc4, hc5⟩, hcr⟩ := id hC
  refine Met.ofW (cc := cX3_suspectedOf) (maxL := 8) (ret := (some .int)) (by decide) rfl ?_
  intro p e s m args below meth c s₁ B hml hv
  obtain ⟨hargs, hsz, hP, hK, hD0, hEV⟩ := hv
  subst hsz
  have hx := B.exec
  have hb := B.bytes
  have hr := B.returns
  have hts := atoms_spec (ws := v_suspectedOfX) B.pre
  have hown : s.vm.findClass RX3 = some m.cls := findClass_of_methodNamed B.named
  have hlocks := B.notSynchronized
  have hinX3 : ∀ w ∈ u_ws RX3 TX3 18, w ∈ v_suspectedOfX := fun w h => vA_in _ w (in_X3 w h)
  generalize hAe : va_A (WL (LC cf) ad E) s.heap.size = A at hEV ⊢
  have hA : ∀ q : Nat, s.heap.size ≤ q → A q := fun q h => by rw [← hAe]; exact Or.inr h
  have hD : va_D A (WL (LC cf) ad E) := by rw [← hAe]; exact hD0.self
  have hS : va_S A s.heap s.heap [] := va_S.rf
  have hI := hI0
  have hKp : Kp w_suspectedOfX E E := Kp.rf
  have hl := lv_entry ([.ref (ad 6), .int a0, .int a1]) (n := 8) (Nat.le_of_ble_eq_true rfl)
  obtain ⟨Q, hQ⟩ : ∃ Q, Q = MQ below (va_Qi (S := Nat → va_E) (fun r u => IXL cT (shC cf) (spC cf) (LC cf) ad u ∧ Kp w_suspectedOfX E u ∧ ((SpR (ctO E a0.toNatClampNeg) (dyC E) (fun r9 x9 => ∃ m9 : Int32, MdO E r9 a0.toNatClampNeg m9 ∧ x9 = rtI m9 (xi (E 46) (16 * r9 + a0.toNatClampNeg))) (cf 2) a1.toInt r.toInt))) (HBL dC dI (LC cf) ad) (A)) args s 0 0 (A) := ⟨_, rfl⟩
  rw [← hQ, show entryFrame m args 8 = _ from (congrArg (fun z => entryFrame m z 8) hargs).trans (lg_entry_eq _ _ _)]
  generalize (lg_sl ([.ref (ad 6), .int a0, .int a1]) ++ List.replicate (8 - (lg_sl ([.ref (ad 6), .int a0, .int a1])).length) Slot.unset).toArray = ls at hl ⊢
  have hl : lv_has ls 8 [(0, .ref (ad 6)), (1, .int a0), (2, .int a1)] := hl
  have z0z : (0 : Int32).toInt = 0 := rfl
  refine lv_aload_n hx hb dX3_suspectedOf_0 rfl (lv_at hl 0 rfl) ?_
  refine lv_iload_n hx hb dX3_suspectedOf_1 rfl (lv_at hl 1 rfl) ?_
  refine th_iL (va_runV (As := [.int a0]) (rest := []) ⟨hx, hb, hml, hown, hts⟩ (q_gatherX l dC dI cT cf hC ad E s.heap.size a0 hI hh0) (cwV 1 hts (gi_V (in_17 _ (zs4 (zs4 (zs4 (zs1 (zs0)))))) (in_17 _ (zs4 (zs4 (zs4 (zs1 (zs1 (zs0))))))) (in_17 _ (zs4 (zs4 (zs4 (zs1 (zs1 (zs1 (zs0)))))))) (in_11 _ (zs4 (zs4 (zs4 (zs1 (zs1 (zs1 (zs0)))))))) (in_17 _ (zs16 (zs0)))) rfl rfl rfl ⟨rfl, hz_yX3_gather_1⟩ ⟨Nat.le_of_ble_eq_true rfl, Nat.le_of_ble_eq_true rfl⟩) ⟨HWL_bl, va_recv hK hP (ci := 4) (q0 := posL 6 (LC cf)) rfl (hI.ob 6 (mF 6 rfl) rfl), (HWL_wi hP hK (WL_D hD) hS hA hEV)⟩ rfl rfl hl.1 rfl (lv_room (Nat.le_of_ble_eq_true rfl)) dX3_suspectedOf_2 ⟨Nat.le_of_ble_eq_true rfl, Nat.le_of_ble_eq_true rfl⟩) (WL_D hD) hS hA (fun r1 E2 H locs hw hP hS => ?_)
  obtain ⟨hI, kq3, hw⟩ := hw
  have hKb := hKp
  have hKp := hKp.tr kq3 (wl_sub rfl rfl)
  obtain ⟨f4, f5⟩ := hw
  obtain ⟨g6, hg6⟩ : ∃ g, xi (E2 47) = g := ⟨_, rfl⟩
  obtain ⟨g7, hg7⟩ : ∃ g, xi (E2 48) = g := ⟨_, rfl⟩
  obtain ⟨g8, hg8⟩ : ∃ g, xi (E2 50) = g := ⟨_, rfl⟩
  have k9 : GaG E a0.toNatClampNeg (cf 2) r1.toNatClampNeg g6 g7 := by have h9 := f5; rw [show xi (E2 47) = g6 from hg6, show xi (E2 48) = g7 from hg7] at h9; exact h9
  refine lv_istore_n (lv' := [(3, .int r1), (0, .ref (ad 6)), (1, .int a0), (2, .int a1)]) hx hb dX3_suspectedOf_5 rfl hl (by decide) rfl (fun ls hl => ?_)
  refine lv_iload_n hx hb dX3_suspectedOf_6 rfl (lv_at hl 0 rfl) ?_
  refine lv_iconst (v := 4) hx hb dX3_suspectedOf_7 (by decide) ?_
  refine lv_icmp_ge (tgt := 14) hx hb dX3_suspectedOf_8 (by decide) (fun c11 => ?_) (fun c11 => ?_)
  · --8 taken
    have t12 : (4 : Int) ≤ r1.toInt := ti_le c11
    have i13 : 4 ≤ r1.toInt ∧ r1.toInt ≤ 20 := iv_le_r t12 (il_ 4) f4 (by decide)
    refine lv_iconst (v := 0) hx hb dX3_suspectedOf_14 (by decide) ?_
    refine lv_istore (lv' := [(4, .int 0), (3, .int r1), (0, .ref (ad 6)), (1, .int a0), (2, .int a1)]) hx hb dX3_suspectedOf_15 hl (by decide) rfl (fun ls hl => ?_)
    have hL17 : ∀ d : Nat, ∀ (g17_50 : Nat → Int32) (v17_4 : Int32) (E17_ : Nat → va_E) (H : Heap) (locs : List Loc) (ls : Array Slot), 0 ≤ v17_4.toInt ∧ v17_4.toInt ≤ 20 → (∀ b9 : Nat, b9 < v17_4.toNatClampNeg → (g17_50 b9).toInt = rtI (g7 b9) (xi (E 46) (16 * (g6 b9).toNatClampNeg + a0.toNatClampNeg))) → v17_4.toInt ≤ r1.toInt → 20 - v17_4.toInt < (d : Int) → IXL cT (shC cf) (spC cf) (LC cf) ad E17_ → Kp w_suspectedOfX E E17_ → xi (E17_ 47) = g6 → xi (E17_ 48) = g7 → xi (E17_ 50) = g17_50 → va_P (dC, dI) vwCl (WL (LC cf) ad E17_) H → va_S A s.heap H locs → lv_has ls 8 [(4, .int v17_4), (3, .int r1), (0, .ref (ad 6)), (1, .int a0), (2, .int a1)] → W p l e (headSpec v_suspectedOfX rm_suspectedOfX).room s m args below meth c H locs 0 0 Q (F0 m 17 ls []) := by
      intro d
      induction d with
      | zero =>
        intro g17_50 v17_4 E17_ H locs ls hv17_4 hx17_0 hx17_1 hx17_2 hI hKp hr17_47 hr17_48 hr17_50 hP hS hl
        exact absurd hx17_2 (by first | exact ms_zu hv17_4.2 | omega)
      | succ d ih17 =>
        intro g17_50 v17_4 E17_ H locs ls hv17_4 hx17_0 hx17_1 hx17_2 hI hKp hr17_47 hr17_48 hr17_50 hP hS hl
        refine lv_iload hx hb dX3_suspectedOf_17 (lv_at hl 0 rfl) ?_
        refine lv_iload_n hx hb dX3_suspectedOf_19 rfl (lv_at hl 1 rfl) ?_
        refine lv_icmp_ge (tgt := 68) hx hb dX3_suspectedOf_20 (by decide) (fun c14 => ?_) (fun c14 => ?_)
        · --20 taken
          have t15 : r1.toInt ≤ v17_4.toInt := ti_le c14
          have i16 : 4 ≤ v17_4.toInt ∧ v17_4.toInt ≤ 20 := iv_le_r t15 i13 hv17_4 (by decide)
          have k17 : ∀ i9 : Nat, i9 < r1.toNatClampNeg → 0 ≤ (xi (E17_ 50) i9).toInt ∧ (xi (E17_ 50) i9).toInt ≤ 400000000 := fun i9 h9 => by obtain ⟨q1, q2, q3⟩ := k9.mid (i := i9) h9; rw [show xi (E17_ 50) = g17_50 from hr17_50, hx17_0 i9 (by rw [tn_] at h9 ⊢; omega)]; exact rtI_in ((hh1 _ _ q3 q2).resolve_left q1)
          refine lv_iconst (v := 2) hx hb dX3_suspectedOf_68 (by decide) ?_
          refine lv_istore (lv' := [(4, .int 2), (3, .int r1), (0, .ref (ad 6)), (1, .int a0), (2, .int a1)]) hx hb dX3_suspectedOf_69 hl (by decide) rfl (fun ls hl => ?_)
          refine lv_aload_n hx hb dX3_suspectedOf_71 rfl (lv_at hl 2 rfl) ?_
          refine lv_iconst (v := 2) hx hb dX3_suspectedOf_72 (by decide) ?_
          refine lv_iload_n hx hb dX3_suspectedOf_73 rfl (lv_at hl 1 rfl) ?_
          have z2 := ln_2
          refine th_riL (va_runV (As := [.int 2, .int r1]) (rest := []) ⟨hx, hb, hml, hown, hts⟩ (q_jumpAtX l dC dI cT cf hC ad E17_ H.size (2 : Int32) r1 hI (iv_w ln_2 (by decide)) (iv_w i13 (by decide)) (by have z9 := ln_2; omega) (by exact k17)) (cwV 2 hts (gi_V (in_23 _ (zs4 (zs4 (zs4 (zs0))))) (in_23 _ (zs4 (zs4 (zs4 (zs1 (zs0)))))) (in_23 _ (zs4 (zs4 (zs4 (zs1 (zs1 (zs0))))))) (in_11 _ (zs4 (zs4 (zs4 (zs1 (zs1 (zs1 (zs0)))))))) (in_23 _ (zs4 (zs4 (zs4 (zs1 (zs1 (zs1 (zs0))))))))) rfl rfl rfl ⟨rfl, hz_yX3_jumpAt_2⟩ ⟨Nat.le_of_ble_eq_true rfl, Nat.le_of_ble_eq_true rfl⟩) ⟨HWL_bl, va_recv hK hP (ci := 4) (q0 := posL 6 (LC cf)) rfl (hI.ob 6 (mF 6 rfl) rfl), (HWL_wi hP hK (WL_D hD) hS hA hEV)⟩ rfl rfl hl.1 rfl (lv_room (Nat.le_of_ble_eq_true rfl)) dX3_suspectedOf_74 ⟨Nat.le_of_ble_eq_true rfl, Nat.le_of_ble_eq_true rfl⟩) hS hP (fun r18 H locs hw hP hS => ?_)
          obtain ⟨f19, f20⟩ := hw
          refine lv_istore (lv' := [(5, .int r18), (4, .int 2), (3, .int r1), (0, .ref (ad 6)), (1, .int a0), (2, .int a1)]) hx hb dX3_suspectedOf_77 hl (by decide) rfl (fun ls hl => ?_)
          refine lv_iconst (v := 3) hx hb dX3_suspectedOf_79 (by decide) ?_
          refine lv_istore (lv' := [(6, .int 3), (5, .int r18), (4, .int 2), (3, .int r1), (0, .ref (ad 6)), (1, .int a0), (2, .int a1)]) hx hb dX3_suspectedOf_80 hl (by decide) rfl (fun ls hl => ?_)
          have hL82 : ∀ d : Nat, ∀ (v82_6 : Int32) (v82_5 : Int32) (v82_4 : Int32) (H : Heap) (locs : List Loc) (ls : Array Slot), 3 ≤ v82_6.toInt ∧ v82_6.toInt ≤ 19 → -400000000 ≤ v82_5.toInt ∧ v82_5.toInt ≤ 400000000 → 2 ≤ v82_4.toInt ∧ v82_4.toInt ≤ 19 → BsF (fun k9 : Nat => jpG (fun i8 : Nat => (xi (E17_ 50) i8).toInt) k9 r1.toNatClampNeg) v82_6.toNatClampNeg v82_4.toNatClampNeg → v82_5.toInt = jpG (fun i8 : Nat => (xi (E17_ 50) i8).toInt) v82_4.toNatClampNeg r1.toNatClampNeg → v82_6.toInt ≤ r1.toInt - 1 → 19 - v82_6.toInt < (d : Int) → va_P (dC, dI) vwCl (WL (LC cf) ad E17_) H → va_S A s.heap H locs → lv_has ls 8 [(6, .int v82_6), (5, .int v82_5), (4, .int v82_4), (3, .int r1), (0, .ref (ad 6)), (1, .int a0), (2, .int a1)] → W p l e (headSpec v_suspectedOfX rm_suspectedOfX).room s m args below meth c H locs 0 0 Q (F0 m 82 ls []) := by
            intro d
            induction d with
            | zero =>
              intro v82_6 v82_5 v82_4 H locs ls hv82_6 hv82_5 hv82_4 hx82_0 hx82_1 hx82_2 hx82_3 hP hS hl
              exact absurd hx82_3 (by first | exact ms_zu hv82_6.2 | omega)
            | succ d ih82 =>
              intro v82_6 v82_5 v82_4 H locs ls hv82_6 hv82_5 hv82_4 hx82_0 hx82_1 hx82_2 hx82_3 hP hS hl
              refine lv_iload hx hb dX3_suspectedOf_82 (lv_at hl 0 rfl) ?_
              refine lv_iload_n hx hb dX3_suspectedOf_84 rfl (lv_at hl 3 rfl) ?_
              refine lv_iconst (v := 2) hx hb dX3_suspectedOf_85 (by decide) ?_
              refine lv_isub hx hb dX3_suspectedOf_86 ?_
              refine lv_topi (fun y21 ey21 => ?_)
              obtain ⟨ty21, iy21⟩ := ti_sub (e := 2) (f := 18) i13 ln_2 ey21 (by decide)
              have ty21 : y21.toInt = r1.toInt - 2 := ty21
              have iy21 : 2 ≤ y21.toInt ∧ y21.toInt ≤ 18 := iy21
              refine lv_icmp_gt (tgt := 129) hx hb dX3_suspectedOf_87 (by decide) (fun c22 => ?_) (fun c22 => ?_)
              · --87 taken
                have t23 : y21.toInt < v82_6.toInt := ti_lt c22
                refine lv_iload_n hx hb dX3_suspectedOf_129 rfl (lv_at hl 6 rfl) ?_
                refine lv_if_ne (tgt := 143) hx hb dX3_suspectedOf_130 (by decide) (fun c24 => ?_) (fun c24 => ?_)
                · --130 taken
                  have t25 : ¬ a1.toInt = 0 := ti_ne c24
                  refine lv_iload hx hb dX3_suspectedOf_143 (lv_at hl 1 rfl) ?_
                  rw [hQ]
                  exact W.iret (v := v82_5) hx hb hr (fun t ht hW => ⟨⟨v82_5, E17_, rfl, ⟨hI, hKp, (GaG.sp1 (f := v82_4.toNatClampNeg) (g := (fun i8 : Nat => (xi (E17_ 50) i8).toInt)) k9 (fun i9 h9 => by have q9 := hx17_0 i9 (by rw [tn_] at h9 ⊢; omega); show (xi (E17_ 50) i9).toInt = _; rw [show xi (E17_ 50) = g17_50 from hr17_50]; exact q9) (by rw [tn_]; omega) (by have h9 := hx82_0; rw [show v82_6.toNatClampNeg = r1.toNatClampNeg - 1 by rw [tn_, tn_]; omega] at h9; exact h9) (by rw [if_neg (by omega)]; exact hx82_1))⟩, by show va_P (dC, dI) vwCl (WL (LC cf) ad E17_) t.heap; rw [ht]; exact hP⟩, hS.F ht⟩) hS.2.2 dX3_suspectedOf_145
                · --130 not
                  have t26 : a1.toInt = 0 := ti_eq c24
                  have i27 : 0 ≤ a1.toInt ∧ a1.toInt ≤ 0 := iv_eqi t26 (iv_all _) (il_ 0) (by decide)
                  refine lv_aload_n hx hb dX3_suspectedOf_133 rfl (lv_at hl 4 rfl) ?_
                  refine th_getL (ci := 4) (C := RX3) (T := TX3) (N := 18) (v := .ref (ad 47)) hx hb hts hinX3 hown hK hP hI 6 (mF 6 rfl) rfl rfl 6 (Nat.le_of_ble_eq_true rfl) (hts _ (vA_in _ _ (in_17 _ (zs4 (zs4 (zs1 (zs1 (zs1 (zs0))))))))) (fun _ h9 => h9) (hI.fr 6 (mF 6 rfl) rfl (Nat.le_of_ble_eq_true rfl) 47 rfl) dX3_suspectedOf_134 ?_
                  refine lv_iload hx hb dX3_suspectedOf_137 (lv_at hl 2 rfl) ?_
                  have n29 : vp_in v82_4 20 := (iv_in (n := 20) hv82_4 (by decide))
                  refine th_ialdL hx hb hK hP hI 47 (mF 47 rfl) rfl rfl n29 dX3_suspectedOf_139 (fun y28 ey28 => ?_)
                  have jy28 : 0 ≤ y28.toInt ∧ y28.toInt ≤ ((cf 2 - 1 : Nat) : Int) := hI.el 47 (mF 47 rfl) rfl n29 (fun _ => rfl) ey28
                  have iy28 : 0 ≤ y28.toInt ∧ y28.toInt ≤ 19 := by omega
                  have ey28 := ey28.trans (congrFun hr17_47 _)
                  refine lv_goto (tgt := 145) hx hb dX3_suspectedOf_140 (by decide) ?_
                  rw [hQ]
                  exact W.iret (v := y28) hx hb hr (fun t ht hW => ⟨⟨y28, E17_, rfl, ⟨hI, hKp, (GaG.sp1 (f := v82_4.toNatClampNeg) (g := (fun i8 : Nat => (xi (E17_ 50) i8).toInt)) k9 (fun i9 h9 => by have q9 := hx17_0 i9 (by rw [tn_] at h9 ⊢; omega); show (xi (E17_ 50) i9).toInt = _; rw [show xi (E17_ 50) = g17_50 from hr17_50]; exact q9) (by rw [tn_]; omega) (by have h9 := hx82_0; rw [show v82_6.toNatClampNeg = r1.toNatClampNeg - 1 by rw [tn_, tn_]; omega] at h9; exact h9) (by rw [if_pos (by omega), ← ey28, tn_ y28]; omega))⟩, by show va_P (dC, dI) vwCl (WL (LC cf) ad E17_) t.heap; rw [ht]; exact hP⟩, hS.F ht⟩) hS.2.2 dX3_suspectedOf_145
              · --87 not
                have t30 : v82_6.toInt ≤ y21.toInt := ti_nlt c22
                have i31 : 3 ≤ v82_6.toInt ∧ v82_6.toInt ≤ 18 := iv_le_l t30 hv82_6 iy21 (by decide)
                have i32 : 3 ≤ y21.toInt ∧ y21.toInt ≤ 18 := iv_le_r t30 hv82_6 iy21 (by decide)
                refine lv_aload_n hx hb dX3_suspectedOf_90 rfl (lv_at hl 4 rfl) ?_
                refine lv_iload hx hb dX3_suspectedOf_91 (lv_at hl 0 rfl) ?_
                refine lv_iload_n hx hb dX3_suspectedOf_93 rfl (lv_at hl 3 rfl) ?_
                refine th_riL (va_runV (As := [.int v82_6, .int r1]) (rest := []) ⟨hx, hb, hml, hown, hts⟩ (q_jumpAtX l dC dI cT cf hC ad E17_ H.size v82_6 r1 hI (iv_w i31 (by decide)) (iv_w i13 (by decide)) (by have z9 := ln_2; omega) (by exact k17)) (cwV 2 hts (gi_V (in_23 _ (zs4 (zs4 (zs4 (zs0))))) (in_23 _ (zs4 (zs4 (zs4 (zs1 (zs0)))))) (in_23 _ (zs4 (zs4 (zs4 (zs1 (zs1 (zs0))))))) (in_11 _ (zs4 (zs4 (zs4 (zs1 (zs1 (zs1 (zs0)))))))) (in_23 _ (zs4 (zs4 (zs4 (zs1 (zs1 (zs1 (zs0))))))))) rfl rfl rfl ⟨rfl, hz_yX3_jumpAt_2⟩ ⟨Nat.le_of_ble_eq_true rfl, Nat.le_of_ble_eq_true rfl⟩) ⟨HWL_bl, va_recv hK hP (ci := 4) (q0 := posL 6 (LC cf)) rfl (hI.ob 6 (mF 6 rfl) rfl), (HWL_wi hP hK (WL_D hD) hS hA hEV)⟩ rfl rfl hl.1 rfl (lv_room (Nat.le_of_ble_eq_true rfl)) dX3_suspectedOf_94 ⟨Nat.le_of_ble_eq_true rfl, Nat.le_of_ble_eq_true rfl⟩) hS hP (fun r33 H locs hw hP hS => ?_)
                obtain ⟨f34, f35⟩ := hw
                refine lv_istore (lv' := [(7, .int r33), (6, .int v82_6), (5, .int v82_5), (4, .int v82_4), (3, .int r1), (0, .ref (ad 6)), (1, .int a0), (2, .int a1)]) hx hb dX3_suspectedOf_97 hl (by decide) rfl (fun ls hl => ?_)
                refine lv_iload hx hb dX3_suspectedOf_99 (lv_at hl 0 rfl) ?_
                refine va_mabs hx hb (by rw [hml]; exact hl.1.symm) hown (hts _ (vA_in _ _ (in_23 _ (zs4 (zs4 (zs1 (zs0))))))) (hts _ (vA_in _ _ (in_23 _ (zs4 (zs4 (zs1 (zs1 (zs0)))))))) (hts _ (vA_in _ _ (in_0 _ (zs16 (zs16 (zs1 (zs0))))))) (hts _ (vA_in _ _ (in_23 _ (zs4 (zs4 (zs1 (zs1 (zs1 (zs0))))))))) (Nat.le_of_ble_eq_true rfl) (Nat.le_of_ble_eq_true rfl) (Nat.le_of_ble_eq_true rfl) (Nat.le_of_ble_eq_true rfl) dX3_suspectedOf_101 ?_
                refine lv_topi (fun y36 ey36 => ?_)
                obtain ⟨ty36, iy36⟩ := ti_abs (e := 0) (f := 400000000) f34 ey36 (by decide)
                have iy36 : 0 ≤ y36.toInt ∧ y36.toInt ≤ 400000000 := iy36
                refine lv_iload hx hb dX3_suspectedOf_104 (lv_at hl 2 rfl) ?_
                refine va_mabs hx hb (by rw [hml]; exact hl.1.symm) hown (hts _ (vA_in _ _ (in_23 _ (zs4 (zs4 (zs1 (zs0))))))) (hts _ (vA_in _ _ (in_23 _ (zs4 (zs4 (zs1 (zs1 (zs0)))))))) (hts _ (vA_in _ _ (in_0 _ (zs16 (zs16 (zs1 (zs0))))))) (hts _ (vA_in _ _ (in_23 _ (zs4 (zs4 (zs1 (zs1 (zs1 (zs0))))))))) (Nat.le_of_ble_eq_true rfl) (Nat.le_of_ble_eq_true rfl) (Nat.le_of_ble_eq_true rfl) (Nat.le_of_ble_eq_true rfl) dX3_suspectedOf_106 ?_
                refine lv_topi (fun y37 ey37 => ?_)
                obtain ⟨ty37, iy37⟩ := ti_abs (e := 0) (f := 400000000) hv82_5 ey37 (by decide)
                have iy37 : 0 ≤ y37.toInt ∧ y37.toInt ≤ 400000000 := iy37
                refine lv_icmp_gt (tgt := 115) hx hb dX3_suspectedOf_109 (by decide) (fun c38 => ?_) (fun c38 => ?_)
                · --109 taken
                  have t39 : y37.toInt < y36.toInt := ti_lt c38
                  have i40 : 0 ≤ y37.toInt ∧ y37.toInt ≤ 399999999 := iv_lt_l t39 iy37 iy36 (by decide)
                  have i41 : 1 ≤ y36.toInt ∧ y36.toInt ≤ 400000000 := iv_lt_r t39 iy37 iy36 (by decide)
                  refine lv_iload hx hb dX3_suspectedOf_115 (lv_at hl 1 rfl) ?_
                  refine lv_istore (lv' := [(4, .int v82_6), (7, .int r33), (6, .int v82_6), (5, .int v82_5), (3, .int r1), (0, .ref (ad 6)), (1, .int a0), (2, .int a1)]) hx hb dX3_suspectedOf_117 hl (by decide) rfl (fun ls hl => ?_)
                  refine lv_iload hx hb dX3_suspectedOf_119 (lv_at hl 1 rfl) ?_
                  refine lv_istore (lv' := [(5, .int r33), (4, .int v82_6), (7, .int r33), (6, .int v82_6), (3, .int r1), (0, .ref (ad 6)), (1, .int a0), (2, .int a1)]) hx hb dX3_suspectedOf_121 hl (by decide) rfl (fun ls hl => ?_)
                  obtain ⟨y42, ey42⟩ : ∃ y : Int32, y = v82_6 + (1 : Int32) := ⟨_, rfl⟩
                  obtain ⟨ty42, iy42⟩ := ti_add (e := 4) (f := 19) i31 ln_1 ey42 (by decide)
                  have ty42 : y42.toInt = v82_6.toInt + 1 := ty42
                  have iy42 : 4 ≤ y42.toInt ∧ y42.toInt ≤ 19 := iy42
                  refine lv_iinc (v := y42) (lv' := [(6, .int y42), (5, .int r33), (4, .int v82_6), (7, .int r33), (3, .int r1), (0, .ref (ad 6)), (1, .int a0), (2, .int a1)]) hx hb dX3_suspectedOf_123 hl (k := 3) rfl (by rw [ey42]; rfl) (by decide) rfl (fun ls hl => ?_)
                  refine lv_goto (tgt := 82) hx hb dX3_suspectedOf_126 (by decide) ?_
                  exact ih82 y42 r33 v82_6 _ _ _ (iv_w iy42 (by decide)) f34 (iv_w i31 (by decide)) (hx82_0.yes (by have h9 := hx82_1; have h8 := f35; show ab (jpG (fun i8 : Nat => (xi (E17_ 50) i8).toInt) v82_4.toNatClampNeg r1.toNatClampNeg) < ab (jpG (fun i8 : Nat => (xi (E17_ 50) i8).toInt) v82_6.toNatClampNeg r1.toNatClampNeg); rw [← h9, ← h8]; unfold ab; omega) (by rw [tn_ y42, tn_ v82_6]; omega)) f35 (by omega) (by first | exact ms_su hx82_3 ty42 (by decide) | omega) hP hS (lv_sub hl [0, 1, 2, 4, 5, 6, 7] rfl)
                · --109 not
                  have t43 : y36.toInt ≤ y37.toInt := ti_nlt c38
                  refine lv_goto (tgt := 123) hx hb dX3_suspectedOf_112 (by decide) ?_
                  obtain ⟨y44, ey44⟩ : ∃ y : Int32, y = v82_6 + (1 : Int32) := ⟨_, rfl⟩
                  obtain ⟨ty44, iy44⟩ := ti_add (e := 4) (f := 19) i31 ln_1 ey44 (by decide)
                  have ty44 : y44.toInt = v82_6.toInt + 1 := ty44
                  have iy44 : 4 ≤ y44.toInt ∧ y44.toInt ≤ 19 := iy44
                  refine lv_iinc (v := y44) (lv' := [(6, .int y44), (7, .int r33), (5, .int v82_5), (4, .int v82_4), (3, .int r1), (0, .ref (ad 6)), (1, .int a0), (2, .int a1)]) hx hb dX3_suspectedOf_123 hl (k := 1) rfl (by rw [ey44]; rfl) (by decide) rfl (fun ls hl => ?_)
                  refine lv_goto (tgt := 82) hx hb dX3_suspectedOf_126 (by decide) ?_
                  exact ih82 y44 v82_5 v82_4 _ _ _ (iv_w iy44 (by decide)) hv82_5 hv82_4 (hx82_0.no (by have h9 := hx82_1; have h8 := f35; show ab (jpG (fun i8 : Nat => (xi (E17_ 50) i8).toInt) v82_6.toNatClampNeg r1.toNatClampNeg) ≤ ab (jpG (fun i8 : Nat => (xi (E17_ 50) i8).toInt) v82_4.toNatClampNeg r1.toNatClampNeg); rw [← h9, ← h8]; unfold ab; omega) (by rw [tn_ y44, tn_ v82_6]; omega)) hx82_1 (by omega) (by first | exact ms_su hx82_3 ty44 (by decide) | omega) hP hS (lv_sub hl [0, 2, 3, 4, 5, 6, 7] rfl)
          exact hL82 (17) (3 : Int32) r18 (2 : Int32) _ _ _ (iv_w ln_3 (by decide)) f19 (iv_w ln_2 (by decide)) (BsF.start rfl rfl) f20 (by have z9 := ln_3; omega) (by have h9 := ln_3; first | exact ms_bu h9.1 (by decide) | omega) hP hS (lv_sub hl [0, 1, 2, 3, 4, 5, 6] rfl)
        · --20 not
          have t45 : v17_4.toInt < r1.toInt := ti_nle c14
          have i46 : 0 ≤ v17_4.toInt ∧ v17_4.toInt ≤ 19 := iv_lt_l t45 hv17_4 i13 (by decide)
          refine lv_aload_n hx hb dX3_suspectedOf_23 rfl (lv_at hl 2 rfl) ?_
          refine th_getL (ci := 4) (C := RX3) (T := TX3) (N := 18) (v := .ref (ad 50)) hx hb hts hinX3 hown hK hP hI 6 (mF 6 rfl) rfl rfl 9 (Nat.le_of_ble_eq_true rfl) (hts _ (vA_in _ _ (in_19 _ (zs16 (zs4 (zs4 (zs1 (zs1 (zs0))))))))) (fun _ h9 => h9) (hI.fr 6 (mF 6 rfl) rfl (Nat.le_of_ble_eq_true rfl) 50 rfl) dX3_suspectedOf_24 ?_
          refine lv_iload hx hb dX3_suspectedOf_27 (lv_at hl 0 rfl) ?_
          refine lv_sipush (v := 1000) hx hb dX3_suspectedOf_29 (by decide) ?_
          refine lv_aload_n hx hb dX3_suspectedOf_32 rfl (lv_at hl 2 rfl) ?_
          refine th_getL (ci := 4) (C := RX3) (T := TX3) (N := 18) (v := .ref (ad 48)) hx hb hts hinX3 hown hK hP hI 6 (mF 6 rfl) rfl rfl 7 (Nat.le_of_ble_eq_true rfl) (hts _ (vA_in _ _ (in_17 _ (zs4 (zs4 (zs4 (zs0))))))) (fun _ h9 => h9) (hI.fr 6 (mF 6 rfl) rfl (Nat.le_of_ble_eq_true rfl) 48 rfl) dX3_suspectedOf_33 ?_
          refine lv_iload hx hb dX3_suspectedOf_36 (lv_at hl 0 rfl) ?_
          have n48 : vp_in v17_4 20 := (iv_in (n := 20) i46 (by decide))
          refine th_ialdL hx hb hK hP hI 48 (mF 48 rfl) rfl rfl n48 dX3_suspectedOf_38 (fun y47 ey47 => ?_)
          have iy47 : -100000 ≤ y47.toInt ∧ y47.toInt ≤ 400000 := hI.el 48 (mF 48 rfl) rfl n48 (fun _ => rfl) ey47
          have ey47 := ey47.trans (congrFun hr17_48 _)
          refine lv_imul hx hb dX3_suspectedOf_39 ?_
          refine lv_topi (fun y49 ey49 => ?_)
          obtain ⟨ty49, iy49⟩ := ti_mul (e := (-100000000)) (f := 400000000) ln_1000 iy47 ey49 (by decide)
          have ty49 : y49.toInt = 1000 * y47.toInt := ty49
          have iy49 : -100000000 ≤ y49.toInt ∧ y49.toInt ≤ 400000000 := iy49
          refine lv_iconst (v := 1) hx hb dX3_suspectedOf_40 (by decide) ?_
          refine lv_aload_n hx hb dX3_suspectedOf_41 rfl (lv_at hl 2 rfl) ?_
          refine th_getL (ci := 4) (C := RX3) (T := TX3) (N := 18) (v := .ref (ad 46)) hx hb hts hinX3 hown hK hP hI 6 (mF 6 rfl) rfl rfl 5 (Nat.le_of_ble_eq_true rfl) (hts _ (vA_in _ _ (in_11 _ (zs16 (zs16 (zs0)))))) (fun _ h9 => h9) (hI.fr 6 (mF 6 rfl) rfl (Nat.le_of_ble_eq_true rfl) 46 rfl) dX3_suspectedOf_42 ?_
          refine lv_aload_n hx hb dX3_suspectedOf_45 rfl (lv_at hl 2 rfl) ?_
          refine th_getL (ci := 4) (C := RX3) (T := TX3) (N := 18) (v := .ref (ad 47)) hx hb hts hinX3 hown hK hP hI 6 (mF 6 rfl) rfl rfl 6 (Nat.le_of_ble_eq_true rfl) (hts _ (vA_in _ _ (in_17 _ (zs4 (zs4 (zs1 (zs1 (zs1 (zs0))))))))) (fun _ h9 => h9) (hI.fr 6 (mF 6 rfl) rfl (Nat.le_of_ble_eq_true rfl) 47 rfl) dX3_suspectedOf_46 ?_
          refine lv_iload hx hb dX3_suspectedOf_49 (lv_at hl 0 rfl) ?_
          have n51 : vp_in v17_4 20 := (iv_in (n := 20) i46 (by decide))
          refine th_ialdL hx hb hK hP hI 47 (mF 47 rfl) rfl rfl n51 dX3_suspectedOf_51 (fun y50 ey50 => ?_)
          have jy50 : 0 ≤ y50.toInt ∧ y50.toInt ≤ ((cf 2 - 1 : Nat) : Int) := hI.el 47 (mF 47 rfl) rfl n51 (fun _ => rfl) ey50
          have iy50 : 0 ≤ y50.toInt ∧ y50.toInt ≤ 19 := by omega
          have ey50 := ey50.trans (congrFun hr17_47 _)
          refine lv_iload_n hx hb dX3_suspectedOf_52 rfl (lv_at hl 3 rfl) ?_
          refine th_pi (va_runSN (As := [.int y50, .int a0]) (rest := [.ref (ad 46), .int 1, .int y49, .int v17_4, .ref (ad 50)]) ⟨hx, hb, hml, hown, hts⟩ (q_ccell l y50 a0 iy50 hh0) ⟨va_cnB 2 hts (gi_0 (in_10 _ (zs16 (zs4 (zs0))))) rfl rfl rfl (hEV.1.1 _ (List.mem_of_getElem? (i := 7) rfl)) (hts _ (vA_in _ _ (in_4 _ (zs16 (zs4 (zs1 (zs1 (zs1 (zs0))))))))) hz_yX12_cell_2 ⟨Nat.le_of_ble_eq_true rfl, Nat.le_of_ble_eq_true rfl⟩, (hts _ (vA_in _ _ (in_13 _ (zs1 (zs0))))), trivial⟩ ⟨fun _ _ _ _ q => q, fun _ _ _ => ⟨rfl, trivial⟩⟩ rfl rfl hl.1 rfl (lv_room (Nat.le_of_ble_eq_true rfl)) dX3_suspectedOf_53 ⟨Nat.le_of_ble_eq_true rfl, Nat.le_of_ble_eq_true rfl⟩) hS (fun r52 H1 locs1 hw hk1 hS => ?_)
          have hP := ub_keep hP hk1
          generalize H1 = H at hP hS ⊢
          generalize locs1 = locs at hS ⊢
          obtain ⟨f53, f54⟩ := hw
          have n56 : vp_in r52 320 := (iv_in (n := 320) f53 (by decide))
          refine th_ialdL hx hb hK hP hI 46 (mF 46 rfl) rfl rfl n56 dX3_suspectedOf_56 (fun y55 ey55 => ?_)
          have iy55 : -100000 ≤ y55.toInt ∧ y55.toInt ≤ 400000 := hI.el 46 (mF 46 rfl) rfl n56 (fun _ => rfl) ey55
          have ey55 := ey55.trans (hKp.ei 46 _ rfl)
          refine va_mmax hx hb (by rw [hml]; exact hl.1.symm) hown (hts _ (vA_in _ _ (in_13 _ (zs16 (zs1 (zs1 (zs1 (zs0)))))))) (hts _ (vA_in _ _ (in_0 _ (zs16 (zs16 (zs0)))))) (hts _ (vA_in _ _ (in_0 _ (zs16 (zs16 (zs1 (zs0))))))) (hts _ (vA_in _ _ (in_0 _ (zs16 (zs16 (zs1 (zs1 (zs0)))))))) (Nat.le_of_ble_eq_true rfl) (Nat.le_of_ble_eq_true rfl) (Nat.le_of_ble_eq_true rfl) (Nat.le_of_ble_eq_true rfl) dX3_suspectedOf_57 ?_
          have z1 := ln_1
          refine lv_topi (fun y57 ey57 => ?_)
          obtain ⟨ty57, iy57⟩ := ti_max (e := 1) (f := 400000) ln_1 iy55 ey57 (by decide)
          have iy57 : 1 ≤ y57.toInt ∧ y57.toInt ≤ 400000 := iy57
          refine lv_idiv hx hb dX3_suspectedOf_60 (iv_n0 iy57 (by decide)) ?_
          refine lv_topi (fun y58 ey58 => ?_)
          obtain ⟨k59, k60, k61⟩ := k9.mid (i := v17_4.toNatClampNeg) (by rw [tn_, tn_]; omega)
          have k62 := (hh1 _ _ k61 k60).resolve_left k59
          have k63 : y47.toInt = (g7 v17_4.toNatClampNeg).toInt := congrArg Int32.toInt ey47
          have k64 : y55 = xi (E 46) (16 * (g6 v17_4.toNatClampNeg).toNatClampNeg + a0.toNatClampNeg) := by rw [← ey50, ey55, show r52.toNatClampNeg = 16 * y50.toNatClampNeg + a0.toNatClampNeg by rw [tn_ r52, tn_ y50, tn_ a0]; omega]
          have k65 : y57.toInt = max 1 y55.toInt := by have q9 := ty57; have q8 := ln_1; omega
          have k66 : y58.toInt = rtI (g7 v17_4.toNatClampNeg) (xi (E 46) (16 * (g6 v17_4.toNatClampNeg).toNatClampNeg + a0.toNatClampNeg)) := by have q2 := (ti_div (e := 0) (f := 400000000) (a := 0) (b := 400000000) (c := 1) (d := 400000) (by omega) (by omega) ey58 (by decide)).1; have q3 := ty49; unfold rtI; rw [← k64, ← k65, ← k63, ← q3]; exact q2
          have n67 : vp_in v17_4 20 := (iv_in (n := 20) i46 (by decide))
          refine th_iastL hx hb hK hP (WL_D hD) hS hI 50 (mF 50 rfl) rfl rfl n67 (okI rfl (iv_all _)) dX3_suspectedOf_61 (fun H locs E68 pw69 hI hP hS => ?_)
          have hKp := hKp.pw pw69 rfl
          obtain ⟨g70, eg70⟩ : ∃ z : Nat → Int32, z = upd g17_50 v17_4.toNatClampNeg y58 := ⟨_, rfl⟩
          have hg70 : xi (E68 50) = g70 := by rw [pw69.eu, hr17_50, eg70]
          obtain ⟨y71, ey71⟩ : ∃ y : Int32, y = v17_4 + (1 : Int32) := ⟨_, rfl⟩
          obtain ⟨ty71, iy71⟩ := ti_add (e := 1) (f := 20) i46 ln_1 ey71 (by decide)
          have ty71 : y71.toInt = v17_4.toInt + 1 := ty71
          have iy71 : 1 ≤ y71.toInt ∧ y71.toInt ≤ 20 := iy71
          refine lv_iinc (v := y71) (lv' := [(4, .int y71), (3, .int r1), (0, .ref (ad 6)), (1, .int a0), (2, .int a1)]) hx hb dX3_suspectedOf_62 hl (k := 0) rfl (by rw [ey71]; rfl) (by decide) rfl (fun ls hl => ?_)
          refine lv_goto (tgt := 17) hx hb dX3_suspectedOf_65 (by decide) ?_
          exact ih17 g70 y71 E68 _ _ _ (iv_w iy71 (by decide)) (up_s (P := (fun b9 z9 => z9.toInt = rtI (g7 b9) (xi (E 46) (16 * (g6 b9).toNatClampNeg + a0.toNatClampNeg)))) hx17_0 eg70 k66 (by omega) (by omega)) (by omega) (by first | exact ms_su hx17_2 ty71 (by decide) | omega) hI hKp ((pw69.ef 47 (Nat.ne_of_beq_eq_false rfl)).trans hr17_47) ((pw69.ef 48 (Nat.ne_of_beq_eq_false rfl)).trans hr17_48) hg70 hP hS (lv_sub hl [0, 1, 2, 3, 4] rfl)
    exact hL17 (21) g8 (0 : Int32) E2 _ _ _ (iv_w ln_0 (by decide)) (fun b9 h9 => absurd h9 (Nat.not_lt_zero b9)) (by have z9 := ln_0; omega) (by have h9 := ln_0; first | exact ms_bu h9.1 (by decide) | omega) hI hKp hg6 hg7 hg8 hP hS (lv_sub hl [0, 1, 2, 3, 4] rfl)
  · --8 not
    have t72 : r1.toInt < 4 := ti_nle c11
    have i73 : 0 ≤ r1.toInt ∧ r1.toInt ≤ 3 := iv_lt_l t72 f4 (il_ 4) (by decide)
    refine lv_ldc hx hb hown (hts _ (vA_in _ _ (in_13 _ (zs16 (zs16 (zs1 (zs1 (zs0)))))))) dX3_suspectedOf_11 ?_
    rw [hQ]
    exact W.iret (v := (-1000000000)) hx hb hr (fun t ht hW => ⟨⟨(-1000000000), E2, rfl, ⟨hI, hKp, (GaG.sp0 k9 (by rw [tn_]; omega) (by decide))⟩, by show va_P (dC, dI) vwCl (WL (LC cf) ad E2) t.heap; rw [ht]; exact hP⟩, hS.F ht⟩) hS.2.2 dX3_suspectedOf_13
def v_u_suspectX : List Cond := .code yX12_suspect cX12_suspect 3 (some .int) :: vA
abbrev rm_u_suspectX : Room := { frames := 8, cells := 0, slots := 0, locals := 320 }
def w_u_suspectX : Nat → Nat → Bool := wl [19, 20, 26, 27, 28, 29, 30, 43, 44, 45, 46, 47, 48, 50, 51] [(3, 6), (3, 7), (3, 8)]
set_option maxHeartbeats 4000000 in
set_option maxRecDepth 100000 in
theorem q_u_suspectX (l : Launch) (dC : Nat → ClassId) (dI : Nat → Nat → Nat) (cT : Nat → ClassId) (cf : Nat → Nat) (hC : CF cf) (ad : Nat → Nat) (E : Nat → va_E) (sz : Nat) (a0 : Int32) (a1 : Int32) (hI0 : IXL cT (shC cf) (spC cf) (LC cf) ad E) (hh0 : RulAll cf E) : Met l yX12_suspect v_u_suspectX rm_u_suspectX (va_Pc [.ref (ad 0), .int a0, .int a1] (HWL dC dI (TYC cT) cf ad E sz)) (va_Qi (S := Nat → va_E) (fun r u => IXL cT (shC cf) (spC cf) (LC cf) ad u ∧ Kp w_u_suspectX E u ∧ ((((((0 ≤ a0.toInt ∧ a0.toInt < (xi (E 1) 1).toInt) ∧ (0 ≤ a1.toInt ∧ a1.toInt ≤ 1)) → (SpR (ctC cf E a0.toNatClampNeg (xi (E 1) 0)) (dyC E) (rtC cf E a0.toNatClampNeg (xi (E 1) 0)) (cf 2) a1.toInt r.toInt)) ∧ (¬ ((0 ≤ a0.toInt ∧ a0.toInt < (xi (E 1) 1).toInt) ∧ (0 ≤ a1.toInt ∧ a1.toInt ≤ 1)) → (r.toInt = -1000000000)))))) (HBL dC dI (LC cf) ad) (va_A (WL (LC cf) ad E) sz)) 0 0 (va_A (WL (LC cf) ad E) sz) := by
  obtain ⟨⟨hc0, hc1, hc2, hc3, hc4, hc5⟩, hcr⟩ := id hC
  refine Met.ofW (cc := cX12_suspect) (maxL := 3) (ret := (some .int)) (by decide) rfl ?_
  intro p e s m args below meth c s₁ B hml hv
  obtain ⟨hargs, hsz, hP, hK, hD0, hEV⟩ := hv
  subst hsz
  have hx := B.exec
  have hb := B.bytes
  have hr := B.returns
  have hts := atoms_spec (ws := v_u_suspectX) B.pre
  have hown : s.vm.findClass RX12 = some m.cls := findClass_of_methodNamed B.named
  have hlocks := B.notSynchronized
  have hinX12 : ∀ w ∈ u_ws RX12 TX12 6, w ∈ v_u_suspectX := fun w h => vA_in _ w (in_X12 w h)
  generalize hAe : va_A (WL (LC cf) ad E) s.heap.size = A at hEV ⊢
  have hA : ∀ q : Nat, s.heap.size ≤ q → A q := fun q h => by rw [← hAe]; exact Or.inr h
  have hD : va_D A (WL (LC cf) ad E) := by rw [← hAe]; exact hD0.self
  have hS : va_S A s.heap s.heap [] := va_S.rf
  have hI := hI0
  have hKp : Kp w_u_suspectX E E := Kp.rf
  have hl := lv_entry ([.ref (ad 0), .int a0, .int a1]) (n := 3) (Nat.le_of_ble_eq_true rfl)
  obtain ⟨Q, hQ⟩ : ∃ Q, Q = MQ below (va_Qi (S := Nat → va_E) (fun r u => IXL cT (shC cf) (spC cf) (LC cf) ad u ∧ Kp w_u_suspectX E u ∧ ((((((0 ≤ a0.toInt ∧ a0.toInt < (xi (E 1) 1).toInt) ∧ (0 ≤ a1.toInt ∧ a1.toInt ≤ 1)) → (SpR (ctC cf E a0.toNatClampNeg (xi (E 1) 0)) (dyC E) (rtC cf E a0.toNatClampNeg (xi (E 1) 0)) (cf 2) a1.toInt r.toInt)) ∧ (¬ ((0 ≤ a0.toInt ∧ a0.toInt < (xi (E 1) 1).toInt) ∧ (0 ≤ a1.toInt ∧ a1.toInt ≤ 1)) → (r.toInt = -1000000000)))))) (HBL dC dI (LC cf) ad) (A)) args s 0 0 (A) := ⟨_, rfl⟩
  rw [← hQ, show entryFrame m args 3 = _ from (congrArg (fun z => entryFrame m z 3) hargs).trans (lg_entry_eq _ _ _)]
  generalize (lg_sl ([.ref (ad 0), .int a0, .int a1]) ++ List.replicate (3 - (lg_sl ([.ref (ad 0), .int a0, .int a1])).length) Slot.unset).toArray = ls at hl ⊢
  have hl : lv_has ls 3 [(0, .ref (ad 0)), (1, .int a0), (2, .int a1)] := hl
  refine lv_aload_n hx hb dX12_suspect_0 rfl (lv_at hl 0 rfl) ?_
  refine th_getL (ci := 13) (C := RX12) (T := TX12) (N := 6) (v := .ref (ad 1)) hx hb hts hinX12 hown hK hP hI 0 (mF 0 rfl) rfl rfl 0 (Nat.le_of_ble_eq_true rfl) (hts _ (vA_in _ _ (in_10 _ (zs16 (zs1 (zs0)))))) (fun _ h9 => h9) (hI.fr 0 (mF 0 rfl) rfl (Nat.le_of_ble_eq_true rfl) 1 rfl) dX12_suspect_1 ?_
  refine lv_iload_n hx hb dX12_suspect_4 rfl (lv_at hl 1 rfl) ?_
  refine th_riL (va_runV (As := [.int a0]) (rest := []) ⟨hx, hb, hml, hown, hts⟩ (q_isBoatC l dC dI cT cf hC ad E s.heap.size a0 hI) (cwV 1 hts (gi_V (in_10 _ (zs16 (zs4 (zs4 (zs1 (zs1 (zs1 (zs0)))))))) (in_6 _ (zs4 (zs4 (zs4 (zs0))))) (in_6 _ (zs4 (zs4 (zs4 (zs1 (zs0)))))) (in_5 _ (zs4 (zs1 (zs1 (zs0))))) (in_5 _ (zs16 (zs16 (zs4 (zs1 (zs1 (zs0)))))))) rfl rfl rfl ⟨rfl, hz_yX0_isBoat_1⟩ ⟨Nat.le_of_ble_eq_true rfl, Nat.le_of_ble_eq_true rfl⟩) ⟨HWL_bl, va_recv hK hP (ci := 1) (q0 := posL 1 (LC cf)) rfl (hI.ob 1 (mF 1 rfl) rfl), (HWL_wi hP hK (WL_D hD) hS hA hEV)⟩ rfl rfl hl.1 rfl (lv_room (Nat.le_of_ble_eq_true rfl)) dX12_suspect_5 ⟨Nat.le_of_ble_eq_true rfl, Nat.le_of_ble_eq_true rfl⟩) hS hP (fun r1 H locs hw hP hS => ?_)
  rcases hw with hw | hw
  · -- isBoatC, case 0
    obtain ⟨rfl, f2, f3⟩ := hw
    have i4 : 0 ≤ (xi (E 1) 1).toInt ∧ (xi (E 1) 1).toInt ≤ 16 := hI0.iv 1 (mF 1 rfl) rfl (Nat.le_of_ble_eq_true rfl) rfl
    refine lv_if_eq (tgt := 20) hx hb dX12_suspect_8 (by decide) (fun c5 => ?_) (fun c5 => ?_)
    · --8 taken
      exact absurd c5 (by decide)
    · --8 not
      refine lv_iload_n hx hb dX12_suspect_11 rfl (lv_at hl 2 rfl) ?_
      refine lv_iconst (v := 0) hx hb dX12_suspect_12 (by decide) ?_
      refine lv_iconst (v := 1) hx hb dX12_suspect_13 (by decide) ?_
      refine th_pi (va_runS (As := [.int a1, .int 0, .int 1]) (rest := []) ⟨hx, hb, hml, hown, hts⟩ (q_cwithin l a1 (0 : Int32) (1 : Int32)) (va_cwS 3 hts (gi_S (in_10 _ (zs16 (zs4 (zs4 (zs4 (zs1 (zs1 (zs1 (zs0))))))))) (in_4 _ (zs16 (zs4 (zs1 (zs1 (zs0)))))) (in_4 _ (zs16 (zs4 (zs1 (zs1 (zs1 (zs0))))))) (in_4 _ (zs16 (zs4 (zs4 (zs0)))))) rfl rfl rfl hz_yX12_within_3 ⟨Nat.le_of_ble_eq_true rfl, Nat.le_of_ble_eq_true rfl⟩) ⟨fun _ _ _ _ q => q, fun _ _ _ => ⟨rfl, trivial⟩⟩ rfl rfl hl.1 rfl (lv_room (Nat.le_of_ble_eq_true rfl)) dX12_suspect_14 ⟨Nat.le_of_ble_eq_true rfl, Nat.le_of_ble_eq_true rfl⟩) hS (fun r6 H1 locs1 hw hk1 hS => ?_)
      have hP := ub_keep hP hk1
      generalize H1 = H at hP hS ⊢
      generalize locs1 = locs at hS ⊢
      rcases hw with hw | hw
      · -- cwithin, case 0
        obtain ⟨rfl, f7⟩ := hw
        have t8 : (0 : Int) ≤ a1.toInt := f7.1
        have t9 : a1.toInt ≤ 1 := f7.2
        have i10 : 0 ≤ a1.toInt ∧ a1.toInt ≤ 2147483647 := iv_le_r t8 (il_ 0) (iv_all _) (by decide)
        have i11 : 0 ≤ a1.toInt ∧ a1.toInt ≤ 1 := iv_le_l t9 i10 (il_ 1) (by decide)
        refine lv_if_ne (tgt := 23) hx hb dX12_suspect_17 (by decide) (fun c12 => ?_) (fun c12 => ?_)
        · --17 taken
          refine lv_aload_n hx hb dX12_suspect_23 rfl (lv_at hl 0 rfl) ?_
          refine th_getL (ci := 13) (C := RX12) (T := TX12) (N := 6) (v := .ref (ad 6)) hx hb hts hinX12 hown hK hP hI 0 (mF 0 rfl) rfl rfl 5 (Nat.le_of_ble_eq_true rfl) (hts _ (vA_in _ _ (in_11 _ (zs4 (zs4 (zs0)))))) (fun _ h9 => h9) (hI.fr 0 (mF 0 rfl) rfl (Nat.le_of_ble_eq_true rfl) 6 rfl) dX12_suspect_24 ?_
          refine th_vL (va_runV (As := []) (rest := []) ⟨hx, hb, hml, hown, hts⟩ (q_loadAllX l dC dI cT cf hC ad E H.size hI (by exact hh0)) (cwV 0 hts (gi_V (in_11 _ (zs4 (zs4 (zs4 (zs0))))) (in_11 _ (zs4 (zs4 (zs4 (zs1 (zs0)))))) (in_11 _ (zs4 (zs4 (zs4 (zs1 (zs1 (zs0))))))) (in_11 _ (zs4 (zs4 (zs4 (zs1 (zs1 (zs1 (zs0)))))))) (in_11 _ (zs16 (zs0)))) rfl rfl rfl ⟨rfl, hz_yX3_loadAll_0⟩ ⟨Nat.le_of_ble_eq_true rfl, Nat.le_of_ble_eq_true rfl⟩) ⟨HWL_bl, va_recv hK hP (ci := 4) (q0 := posL 6 (LC cf)) rfl (hI.ob 6 (mF 6 rfl) rfl), (HWL_wi hP hK (WL_D hD) hS hA hEV)⟩ rfl rfl hl.1 rfl (lv_room (Nat.le_of_ble_eq_true rfl)) dX12_suspect_27 ⟨Nat.le_of_ble_eq_true rfl, Nat.le_of_ble_eq_true rfl⟩) (WL_D hD) hS hA (fun E14 H locs hw hP hS => ?_)
          obtain ⟨hI, kq15, hw⟩ := hw
          have hKb := hKp
          have hKp := hKp.tr kq15 (wl_sub rfl rfl)
          have f16 := hw
          have i17 : 0 ≤ (xi (E 1) 0).toInt ∧ (xi (E 1) 0).toInt ≤ 400 := hI0.iv 1 (mF 1 rfl) rfl (Nat.le_of_ble_eq_true rfl) rfl
          refine lv_aload_n hx hb dX12_suspect_30 rfl (lv_at hl 0 rfl) ?_
          refine th_getL (ci := 13) (C := RX12) (T := TX12) (N := 6) (v := .ref (ad 6)) hx hb hts hinX12 hown hK hP hI 0 (mF 0 rfl) rfl rfl 5 (Nat.le_of_ble_eq_true rfl) (hts _ (vA_in _ _ (in_11 _ (zs4 (zs4 (zs0)))))) (fun _ h9 => h9) (hI.fr 0 (mF 0 rfl) rfl (Nat.le_of_ble_eq_true rfl) 6 rfl) dX12_suspect_31 ?_
          refine lv_iload_n hx hb dX12_suspect_34 rfl (lv_at hl 1 rfl) ?_
          refine lv_iload_n hx hb dX12_suspect_35 rfl (lv_at hl 2 rfl) ?_
          refine th_iL (va_runV (As := [.int a0, .int a1]) (rest := []) ⟨hx, hb, hml, hown, hts⟩ (q_suspectedOfX l dC dI cT cf hC ad E14 H.size a0 a1 hI f3 (by exact fun r9 m9 h8 h9 => MdO_in hC hI0 (by omega) (K64.of hKp (fun o9 ho9 j9 => wl_p rfl rfl ho9)) (by rw [tn_]; omega) (by omega) f16 h8 h9)) (cwV 2 hts (gi_V (in_23 _ (zs4 (zs1 (zs0)))) (in_23 _ (zs4 (zs1 (zs1 (zs0))))) (in_23 _ (zs4 (zs1 (zs1 (zs1 (zs0)))))) (in_11 _ (zs4 (zs4 (zs4 (zs1 (zs1 (zs1 (zs0)))))))) (in_23 _ (zs4 (zs4 (zs0))))) rfl rfl rfl ⟨rfl, hz_yX3_suspectedOf_2⟩ ⟨Nat.le_of_ble_eq_true rfl, Nat.le_of_ble_eq_true rfl⟩) ⟨HWL_bl, va_recv hK hP (ci := 4) (q0 := posL 6 (LC cf)) rfl (hI.ob 6 (mF 6 rfl) rfl), (HWL_wi hP hK (WL_D hD) hS hA hEV)⟩ rfl rfl hl.1 rfl (lv_room (Nat.le_of_ble_eq_true rfl)) dX12_suspect_36 ⟨Nat.le_of_ble_eq_true rfl, Nat.le_of_ble_eq_true rfl⟩) (WL_D hD) hS hA (fun r18 E19 H locs hw hP hS => ?_)
          obtain ⟨hI, kq20, hw⟩ := hw
          have hKb := hKp
          have hKp := hKp.tr kq20 (wl_sub rfl rfl)
          have f21 := hw
          rw [hQ]
          exact W.iret (v := r18) hx hb hr (fun t ht hW => ⟨⟨r18, E19, rfl, ⟨hI, hKp, ⟨fun _ => SpR.c f21 (K64.of hKb (fun o9 ho9 j9 => wl_p rfl rfl ho9)) (by rw [tn_]; omega) (by omega) f16, fun g9 => by exfalso; omega⟩⟩, by show va_P (dC, dI) vwCl (WL (LC cf) ad E19) t.heap; rw [ht]; exact hP⟩, hS.F ht⟩) hS.2.2 dX12_suspect_39
        · --17 not
          exact absurd c12 (by decide)
      · -- cwithin, case 1
        obtain ⟨rfl, f22⟩ := hw
        have t23 : ¬ ((0 : Int) ≤ a1.toInt ∧ a1.toInt ≤ 1) := f22
        refine lv_if_ne (tgt := 23) hx hb dX12_suspect_17 (by decide) (fun c24 => ?_) (fun c24 => ?_)
        · --17 taken
          exact absurd c24 (by decide)
        · --17 not
          refine lv_ldc hx hb hown (hts _ (vA_in _ _ (in_11 _ (zs4 (zs1 (zs1 (zs1 (zs0)))))))) dX12_suspect_20 ?_
          rw [hQ]
          exact W.iret (v := (-1000000000)) hx hb hr (fun t ht hW => ⟨⟨(-1000000000), E, rfl, ⟨hI, hKp, ⟨fun g9 => by exfalso; omega, fun _ => rfl⟩⟩, by show va_P (dC, dI) vwCl (WL (LC cf) ad E) t.heap; rw [ht]; exact hP⟩, hS.F ht⟩) hS.2.2 dX12_suspect_22
  · -- isBoatC, case 1
    obtain ⟨rfl, f25⟩ := hw
    have i26 : 0 ≤ (xi (E 1) 1).toInt ∧ (xi (E 1) 1).toInt ≤ 16 := hI0.iv 1 (mF 1 rfl) rfl (Nat.le_of_ble_eq_true rfl) rfl
    refine lv_if_eq (tgt := 20) hx hb dX12_suspect_8 (by decide) (fun c27 => ?_) (fun c27 => ?_)
    · --8 taken
      refine lv_ldc hx hb hown (hts _ (vA_in _ _ (in_11 _ (zs4 (zs1 (zs1 (zs1 (zs0)))))))) dX12_suspect_20 ?_
      rw [hQ]
      exact W.iret (v := (-1000000000)) hx hb hr (fun t ht hW => ⟨⟨(-1000000000), E, rfl, ⟨hI, hKp, ⟨fun g9 => by exfalso; omega, fun _ => rfl⟩⟩, by show va_P (dC, dI) vwCl (WL (LC cf) ad E) t.heap; rw [ht]; exact hP⟩, hS.F ht⟩) hS.2.2 dX12_suspect_22
    · --8 not
      exact absurd c27 (by decide)
section
/-! ===== SUSPECTED of the reference ===== -/
theorem mnq {s D q : Int64} {d : Int32} (ed : D = d.toInt64) (eq : q = s / D) (hs : 0 ≤ s.toInt ∧ s.toInt ≤ 400000000 * d.toInt) (hd : 0 < d.toInt ∧ d.toInt ≤ 20) : q.toInt = s.toInt / d.toInt ∧ 0 ≤ q.toInt ∧ q.toInt ≤ 400000000 := by
  have hD : D.toInt = d.toInt := by rw [ed, l_of]
  have h1 : q.toInt = s.toInt / d.toInt := by
    rw [← hD]
    exact l_div eq ⟨hs.1, by omega⟩ (by omega)
  have h2 : 0 ≤ s.toInt / d.toInt := Int.ediv_nonneg hs.1 (by omega)
  have h3 : s.toInt / d.toInt ≤ 400000000 := Int.ediv_le_of_le_mul hd.1 hs.2
  omega
theorem jp_of {s t D D' q q' x : Int64} {d d' r : Int32} (ed : D = d.toInt64) (eq : q = s / D) (ed' : D' = d'.toInt64) (eq' : q' = t / D') (ex : x = q - q') (er : r = x.toInt32) (hs : 0 ≤ s.toInt ∧ s.toInt ≤ 400000000 * d.toInt) (hd : 0 < d.toInt ∧ d.toInt ≤ 20) (ht : 0 ≤ t.toInt ∧ t.toInt ≤ 400000000 * d'.toInt) (hd' : 0 < d'.toInt ∧ d'.toInt ≤ 20) : r.toInt = s.toInt / d.toInt - t.toInt / d'.toInt ∧ -400000000 ≤ r.toInt ∧ r.toInt ≤ 400000000 := by
  obtain ⟨a1, a2, a3⟩ := mnq ed eq hs hd
  obtain ⟨b1, b2, b3⟩ := mnq ed' eq' ht hd'
  have hx : x.toInt = q.toInt - q'.toInt := l_sub ex (by omega) (by omega)
  have h4 : r.toInt = x.toInt := l_i er (by omega)
  omega
theorem jpG_of {g : Nat → Int} {k n : Nat} {s t d d' r : Int} (hk : 0 < k) (h : k < n) (hs : s = sumF (fun i => g (k + i)) (n - k)) (ht : t = sumF g k) (hd : d = ((n - k : Nat) : Int)) (hd' : d' = ((k : Nat) : Int)) (hr : r = s / d - t / d') : r = jpG g k n := by
  have e1 : s / d = mnG g k n := mnG_of h hs hd rfl
  have e2 : t / d' = mnG g 0 k := mnG_of hk (ht.trans (sumF_cg (k - 0) (fun i _ => by rw [Nat.zero_add]))) hd' rfl
  unfold jpG
  rw [hr, e1, e2]
theorem rt_of {A B C D Q : Int64} {m w t r : Int32} (eA : A.toInt = 1000) (eB : B = m.toInt64) (eC : C = A * B) (eD : D = w.toInt64) (eQ : Q = C / D) (er : r = Q.toInt32) (hm : 0 ≤ m.toInt ∧ m.toInt ≤ 400000) (hw : w.toInt = max 1 t.toInt) : r.toInt = rtI m t := by
  have hB : B.toInt = m.toInt := by rw [eB, l_of]
  have hC : C.toInt = 1000 * m.toInt := by
    rw [← hB, ← eA]
    exact l_mul eC (by rw [eA, hB]; omega) (by rw [eA, hB]; omega)
  have hD : D.toInt = max 1 t.toInt := by rw [eD, l_of, hw]
  have hQ : Q.toInt = rtI m t := by
    unfold rtI
    rw [← hC, ← hD]
    exact l_div eQ (by omega) (by omega)
  have h9 := rtI_in (t := t) hm
  have h8 : r.toInt = Q.toInt := l_i er (by omega)
  omega
/-- what is listed while the days go by -/
def LsD (P : Nat → Prop) (day : Nat → Int) (V : Nat → Int → Prop) (R : Nat) (d : Int) (k n : Nat) (c g : Nat → Int32) : Prop := Enm (fun r => P r ∧ (day r < d ∨ (day r = d ∧ r < k))) R (fun i => (c i).toNatClampNeg) n ∧ Srt day (fun i => (c i).toNatClampNeg) n ∧ ∀ i, i < n → V (c i).toNatClampNeg (g i).toInt
theorem LsD.start {P : Nat → Prop} {day : Nat → Int} {V : Nat → Int → Prop} {R n : Nat} {d : Int} {c g : Nat → Int32} (hd : ∀ r, r < R → d ≤ day r) (hn : n = 0) : LsD P day V R d 0 n c g := by
  subst hn
  refine ⟨⟨fun i hi => absurd hi (Nat.not_lt_zero i), fun r hr h => ?_, fun i j _ hj => absurd hj (Nat.not_lt_zero j)⟩, fun i j _ hj => absurd hj (Nat.not_lt_zero j), fun i hi => absurd hi (Nat.not_lt_zero i)⟩
  have h1 := hd r hr
  have h2 := h.2
  omega
theorem LsD.day {P : Nat → Prop} {day : Nat → Int} {V : Nat → Int → Prop} {R k n : Nat} {d d' : Int} {c g : Nat → Int32} (h : LsD P day V R d k n c g) (hk : k = R) (e : d' = d + 1) : LsD P day V R d' 0 n c g := by
  subst hk
  subst e
  refine ⟨h.1.cg (fun r hr => and_congr Iff.rfl ?_), h.2⟩
  omega
theorem LsD.no {P : Nat → Prop} {day : Nat → Int} {V : Nat → Int → Prop} {R k k' n : Nat} {d : Int} {c g : Nat → Int32} (h : LsD P day V R d k n c g) (hn : ¬ (P k ∧ day k = d)) (e : k' = k + 1) : LsD P day V R d k' n c g := by
  subst e
  refine ⟨h.1.cg (fun r hr => ?_), h.2⟩
  constructor
  · rintro ⟨h1, h2⟩
    exact ⟨h1, by omega⟩
  · rintro ⟨h1, h2⟩
    refine ⟨h1, ?_⟩
    by_cases q : r = k
    · subst q
      have h3 : ¬ day r = d := fun z => hn ⟨h1, z⟩
      omega
    · omega
theorem LsD.yes {P : Nat → Prop} {day : Nat → Int} {V : Nat → Int → Prop} {R k k' n n' i j : Nat} {d : Int} {c g c' g' : Nat → Int32} {x y : Int32} (h : LsD P day V R d k n c g) (hP : P k) (hd : day k = d) (hk : k < R) (es : c' = upd c i x) (em : g' = upd g j y) (hi : i = n) (hj : j = n) (hx : x.toNatClampNeg = k) (hv : V k y.toInt) (en : n' = n + 1) (e : k' = k + 1) : LsD P day V R d k' n' c' g' := by
  rw [hi] at es
  rw [hj] at em
  subst e
  subst en
  subst es
  subst em
  obtain ⟨h1, h2, h3⟩ := h
  have e1 : ∀ q, q < n → (upd c n x q).toNatClampNeg = (c q).toNatClampNeg := fun q hq => by rw [upd_j (show ¬ q = n by omega)]
  have e2 : (upd c n x n).toNatClampNeg = k := by rw [upd_i, hx]
  have hl : ∀ q, q < n → kLt day (c q).toNatClampNeg k := fun q hq => by
    have h9 : day (c q).toNatClampNeg < d ∨ (day (c q).toNatClampNeg = d ∧ (c q).toNatClampNeg < k) := (h1.1 q hq).2.2
    show day (c q).toNatClampNeg < day k ∨ (day (c q).toNatClampNeg = day k ∧ (c q).toNatClampNeg < k)
    omega
  have hno : ¬ (P k ∧ (day k < d ∨ (day k = d ∧ k < k))) := fun z => by
    have h9 := z.2
    omega
  have hiff : ∀ r, r < R → ((P r ∧ (day r < d ∨ (day r = d ∧ r < k + 1))) ↔ ((P r ∧ (day r < d ∨ (day r = d ∧ r < k))) ∨ r = k)) := fun r hr => by
    constructor
    · rintro ⟨q1, q2⟩
      by_cases q : r = k
      · exact Or.inr q
      · exact Or.inl ⟨q1, by omega⟩
    · rintro (⟨q1, q2⟩ | q)
      · exact ⟨q1, by omega⟩
      · subst q
        exact ⟨hP, by omega⟩
  obtain ⟨a1, a2⟩ := Enm.app (P := fun r => P r ∧ (day r < d ∨ (day r = d ∧ r < k))) (P' := fun r => P r ∧ (day r < d ∨ (day r = d ∧ r < k + 1))) (c := fun i => (c i).toNatClampNeg) (c' := fun i => (upd c n x i).toNatClampNeg) h1 h2 hk hno hl hiff e1 e2
  refine ⟨a1, a2, fun q hq => ?_⟩
  by_cases z : q = n
  · rw [z, e2, upd_i]
    exact hv
  · rw [e1 q (by omega), upd_j z]
    exact h3 q (by omega)
def dyM (E : Nat → va_E) (r : Nat) : Int := (xi (E 13) r).toInt
def ctM (E : Nat → va_E) (b q : Int32) (r : Nat) : Prop := ∃ x : Int32, MdM E b q r x ∧ ¬ x.toInt = -1000000000
def rtM (E : Nat → va_E) (b q : Int32) (r : Nat) (x : Int) : Prop := ∃ m : Int32, MdM E b q r m ∧ ¬ m.toInt = -1000000000 ∧ x = rtI m (tmB E (nI r) b q)
theorem rtM_in {cT : Nat → ClassId} {ad : Nat → Nat} {E : Nat → va_E} {b q : Int32} {r : Nat} {x : Int} (hI : IX cT shM spM 72 ad E) (h : rtM E b q r x) : 0 ≤ x ∧ x ≤ 400000000 := by
  obtain ⟨m, h1, h2, h3⟩ := h
  rw [h3]
  exact rtI_in ((MdM_in hI h1).resolve_left h2)
theorem LsD.bd {cT : Nat → ClassId} {ad : Nat → Nat} {E : Nat → va_E} {P : Nat → Prop} {day : Nat → Int} {b q : Int32} {R k n : Nat} {d : Int} {c g : Nat → Int32} (h : LsD P day (rtM E b q) R d k n c g) (hI : IX cT shM spM 72 ad E) {i : Nat} (hi : i < n) : 0 ≤ (g i).toInt ∧ (g i).toInt ≤ 400000000 := rtM_in hI (h.2.2 i hi)
/-- the best so far, with what is held -/
def BsM (J : Nat → Int) (c : Nat → Int32) (k : Nat) (best jump : Int) : Prop := (best = -1 ∧ k = 2) ∨ ∃ f, BsF J k f ∧ best = (((c f).toNatClampNeg : Nat) : Int) ∧ jump = J f
theorem BsM.one {J : Nat → Int} {c : Nat → Int32} {k k' : Nat} {best jump best' jump' : Int} (h : BsM J c k best jump) (hb : best = -1) (e : k' = k + 1) (eb : best' = (((c k).toNatClampNeg : Nat) : Int)) (ej : jump' = J k) : BsM J c k' best' jump' := by
  rcases h with ⟨-, h2⟩ | ⟨f, h1, h2, h3⟩
  · exact Or.inr ⟨k, BsF.start (by omega) h2, eb, ej⟩
  · omega
theorem BsM.yes {J : Nat → Int} {c : Nat → Int32} {k k' : Nat} {best jump best' jump' : Int} (h : BsM J c k best jump) (hb : ¬ best = -1) (hj : ab jump < ab (J k)) (e : k' = k + 1) (eb : best' = (((c k).toNatClampNeg : Nat) : Int)) (ej : jump' = J k) : BsM J c k' best' jump' := by
  rcases h with ⟨h1, -⟩ | ⟨f, h1, h2, h3⟩
  · exact absurd h1 hb
  · exact Or.inr ⟨k, h1.yes (by rw [← h3]; exact hj) e, eb, ej⟩
theorem BsM.no {J : Nat → Int} {c : Nat → Int32} {k k' : Nat} {best jump : Int} (h : BsM J c k best jump) (hb : ¬ best = -1) (hj : ab (J k) ≤ ab jump) (e : k' = k + 1) : BsM J c k' best jump := by
  rcases h with ⟨h1, -⟩ | ⟨f, h1, h2, h3⟩
  · exact absurd h1 hb
  · exact Or.inr ⟨f, h1.no (by rw [← h3]; exact hj) e, h2, h3⟩
theorem LsD.sp {P P' : Nat → Prop} {day : Nat → Int} {V : Nat → Int → Prop} {R n k : Nat} {d best jump : Int} {c g : Nat → Int32} (h : LsD P day V R d 0 n c g) (hP : ∀ r, r < R → (P' r ↔ P r ∧ day r < d)) (hk : k = 2 ∨ k + 1 ≤ n) (hx : n < k + 2) (hb : BsM (fun k => jpG (fun i => (g i).toInt) k n) c k best jump) : (best = -1 → ∀ w, SpR P' day V R w (-1000000000)) ∧ (¬ best = -1 → ∀ w, SpR P' day V R w (if w = 0 then best else jump)) := by
  have h1 : Enm P' R (fun i => (c i).toNatClampNeg) n := h.1.cg (fun r hr => by
    rw [hP r hr]
    refine and_congr Iff.rfl ?_
    omega)
  refine ⟨fun z w => ?_, fun z w => ?_⟩
  · rcases hb with ⟨-, k2⟩ | ⟨f, -, e, -⟩
    · exact ⟨n, _, fun i => (g i).toInt, h1, h.2.1, h.2.2, fun _ => rfl, fun q => by omega⟩
    · omega
  · rcases hb with ⟨k1, -⟩ | ⟨f, b1, b2, b3⟩
    · exact absurd k1 z
    · have hf := b1.1
      have ek : k = n - 1 := by omega
      subst ek
      refine ⟨n, fun i => (c i).toNatClampNeg, fun i => (g i).toInt, h1, h.2.1, h.2.2, fun q => by omega, fun _ => ⟨f, b1, ?_⟩⟩
      rw [b2, b3]
theorem ctM_kd {E E' : Nat → va_E} {b q : Int32} (k : KdN E E') (h8 : xi (E' 0) 8 = xi (E 0) 8) : ctM E' b q = ctM E b q := funext (fun r => by
  have e : ∀ x, MdM E' b q r x = MdM E b q r x := fun x => propext (MdM_kd k h8)
  unfold ctM
  simp only [e])
theorem rtM_kd {E E' : Nat → va_E} {b q : Int32} (k : KdN E E') (h8 : xi (E' 0) 8 = xi (E 0) 8) : rtM E' b q = rtM E b q := funext (fun r => funext (fun x => by
  have e : ∀ x, MdM E' b q r x = MdM E b q r x := fun x => propext (MdM_kd k h8)
  unfold rtM
  simp only [e, k.tm]))
theorem dyM_kd {E E' : Nat → va_E} (h : xi (E' 13) = xi (E 13)) : dyM E' = dyM E := funext (fun r => by
  unfold dyM
  rw [h])
theorem SpR.eq {P : Nat → Prop} {day : Nat → Int} {V : Nat → Int → Prop} {R : Nat} {what r r' : Int} (h : SpR P day V R what r) (e : r' = r) : SpR P day V R what r' := by
  rw [e]
  exact h
end

