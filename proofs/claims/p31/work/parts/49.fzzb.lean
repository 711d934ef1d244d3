set_option maxRecDepth 100000 in
theorem zh_dX12_fit_0_0 : zc cX12_fit 0 [42, 180, 0, 10, 27, 182, 0, 66, 154, 0, 5, 2, 172, 42, 180, 0] = true := by decide +kernel
set_option maxRecDepth 100000 in
theorem zh_dX12_fit_14_16 : zc cX12_fit 16 [51, 182, 0, 249, 42, 180, 0, 51, 27, 182, 1, 11, 172] = true := by decide +kernel
set_option maxRecDepth 100000 in
theorem zh_dX13_fitOf_0_0 : zc cX13_fitOf 0 [3, 61, 3, 62, 29, 42, 180, 1, 134, 162, 0, 55, 42, 29, 27, 182] = true := by decide +kernel
set_option maxRecDepth 100000 in
theorem zh_dX13_fitOf_15_16 : zc cX13_fitOf 16 [2, 16, 54, 4, 21, 4, 19, 1, 175, 160, 0, 6, 167, 0, 30, 42] = true := by decide +kernel
set_option maxRecDepth 100000 in
theorem zh_dX13_fitOf_32_32 : zc cX13_fitOf 32 [180, 0, 213, 28, 42, 29, 27, 42, 180, 0, 232, 182, 1, 166, 79, 42] = true := by decide +kernel
set_option maxRecDepth 100000 in
theorem zh_dX13_fitOf_48_48 : zc cX13_fitOf 48 [180, 0, 216, 28, 21, 4, 79, 132, 2, 1, 132, 3, 1, 167, 255, 199] = true := by decide +kernel
set_option maxRecDepth 100000 in
theorem zh_dX13_fitOf_64_64 : zc cX13_fitOf 64 [28, 154, 0, 5, 2, 172, 2, 62, 3, 54, 4, 17, 1, 244, 54, 5] = true := by decide +kernel
set_option maxRecDepth 100000 in
theorem zh_dX13_fitOf_80_80 : zc cX13_fitOf 80 [21, 5, 17, 7, 208, 163, 0, 79, 3, 54, 6, 3, 54, 7, 21, 7] = true := by decide +kernel
set_option maxRecDepth 100000 in
theorem zh_dX13_fitOf_96_96 : zc cX13_fitOf 96 [28, 162, 0, 39, 21, 6, 42, 180, 0, 213, 21, 7, 46, 21, 5, 104] = true := by decide +kernel
set_option maxRecDepth 100000 in
theorem zh_dX13_fitOf_112_112 : zc cX13_fitOf 112 [17, 3, 232, 108, 42, 180, 0, 216, 21, 7, 46, 100, 184, 1, 218, 96] = true := by decide +kernel
set_option maxRecDepth 100000 in
theorem zh_dX13_fitOf_128_128 : zc cX13_fitOf 128 [54, 6, 132, 7, 1, 167, 255, 217, 29, 2, 159, 0, 13, 21, 6, 21] = true := by decide +kernel
set_option maxRecDepth 100000 in
theorem zh_dX13_fitOf_143_144 : zc cX13_fitOf 144 [4, 161, 0, 6, 167, 0, 10, 21, 5, 62, 21, 6, 54, 4, 132, 5] = true := by decide +kernel
set_option maxRecDepth 100000 in
theorem zh_dX13_fitOf_158_160 : zc cX13_fitOf 160 [1, 167, 255, 175, 29, 172] = true := by decide +kernel
set_option maxRecDepth 100000 in
theorem zh_dX13_fit_0_0 : zc cX13_fit 0 [42, 3, 181, 0, 228, 42, 27, 182, 0, 245, 153, 0, 11, 42, 27, 182] = true := by decide +kernel
set_option maxRecDepth 100000 in
theorem zh_dX13_fit_15_16 : zc cX13_fit 16 [2, 19, 167, 0, 4, 2, 172] = true := by decide +kernel
theorem dX12_fit_0 : decode cX12_fit 0 = .ok (.aload_n 0, 1) := zo_42 (zi_at zh_dX12_fit_0_0 0 rfl)
theorem dX12_fit_1 : decode cX12_fit 1 = .ok (.getfield 10, 3) := zo_180 (zi_at zh_dX12_fit_0_0 1 rfl) (zi_at zh_dX12_fit_0_0 2 rfl) (zi_at zh_dX12_fit_0_0 3 rfl) rfl
theorem dX12_fit_4 : decode cX12_fit 4 = .ok (.iload_n 1, 1) := zo_27 (zi_at zh_dX12_fit_0_0 4 rfl)
theorem dX12_fit_5 : decode cX12_fit 5 = .ok (.invokevirtual 66, 3) := zo_182 (zi_at zh_dX12_fit_0_0 5 rfl) (zi_at zh_dX12_fit_0_0 6 rfl) (zi_at zh_dX12_fit_0_0 7 rfl) rfl
theorem dX12_fit_8 : decode cX12_fit 8 = .ok (.ifCond .ne 5, 3) := zo_154 (zi_at zh_dX12_fit_0_0 8 rfl) (zi_at zh_dX12_fit_0_0 9 rfl) (zi_at zh_dX12_fit_0_0 10 rfl) rfl
theorem dX12_fit_11 : decode cX12_fit 11 = .ok (.iconst (-1), 1) := zo_2 (zi_at zh_dX12_fit_0_0 11 rfl)
theorem dX12_fit_12 : decode cX12_fit 12 = .ok (.ireturn, 1) := zo_172 (zi_at zh_dX12_fit_0_0 12 rfl)
theorem dX12_fit_13 : decode cX12_fit 13 = .ok (.aload_n 0, 1) := zo_42 (zi_at zh_dX12_fit_0_0 13 rfl)
theorem dX12_fit_14 : decode cX12_fit 14 = .ok (.getfield 51, 3) := zo_180 (zi_at zh_dX12_fit_0_0 14 rfl) (zi_at zh_dX12_fit_0_0 15 rfl) (zi_at zh_dX12_fit_14_16 0 rfl) rfl
theorem dX12_fit_17 : decode cX12_fit 17 = .ok (.invokevirtual 249, 3) := zo_182 (zi_at zh_dX12_fit_14_16 1 rfl) (zi_at zh_dX12_fit_14_16 2 rfl) (zi_at zh_dX12_fit_14_16 3 rfl) rfl
theorem dX12_fit_20 : decode cX12_fit 20 = .ok (.aload_n 0, 1) := zo_42 (zi_at zh_dX12_fit_14_16 4 rfl)
theorem dX12_fit_21 : decode cX12_fit 21 = .ok (.getfield 51, 3) := zo_180 (zi_at zh_dX12_fit_14_16 5 rfl) (zi_at zh_dX12_fit_14_16 6 rfl) (zi_at zh_dX12_fit_14_16 7 rfl) rfl
theorem dX12_fit_24 : decode cX12_fit 24 = .ok (.iload_n 1, 1) := zo_27 (zi_at zh_dX12_fit_14_16 8 rfl)
theorem dX12_fit_25 : decode cX12_fit 25 = .ok (.invokevirtual 267, 3) := zo_182 (zi_at zh_dX12_fit_14_16 9 rfl) (zi_at zh_dX12_fit_14_16 10 rfl) (zi_at zh_dX12_fit_14_16 11 rfl) rfl
theorem dX12_fit_28 : decode cX12_fit 28 = .ok (.ireturn, 1) := zo_172 (zi_at zh_dX12_fit_14_16 12 rfl)
theorem dX13_fitOf_0 : decode cX13_fitOf 0 = .ok (.iconst 0, 1) := zo_3 (zi_at zh_dX13_fitOf_0_0 0 rfl)
theorem dX13_fitOf_1 : decode cX13_fitOf 1 = .ok (.istore_n 2, 1) := zo_61 (zi_at zh_dX13_fitOf_0_0 1 rfl)
theorem dX13_fitOf_2 : decode cX13_fitOf 2 = .ok (.iconst 0, 1) := zo_3 (zi_at zh_dX13_fitOf_0_0 2 rfl)
theorem dX13_fitOf_3 : decode cX13_fitOf 3 = .ok (.istore_n 3, 1) := zo_62 (zi_at zh_dX13_fitOf_0_0 3 rfl)
theorem dX13_fitOf_4 : decode cX13_fitOf 4 = .ok (.iload_n 3, 1) := zo_29 (zi_at zh_dX13_fitOf_0_0 4 rfl)
theorem dX13_fitOf_5 : decode cX13_fitOf 5 = .ok (.aload_n 0, 1) := zo_42 (zi_at zh_dX13_fitOf_0_0 5 rfl)
theorem dX13_fitOf_6 : decode cX13_fitOf 6 = .ok (.getfield 390, 3) := zo_180 (zi_at zh_dX13_fitOf_0_0 6 rfl) (zi_at zh_dX13_fitOf_0_0 7 rfl) (zi_at zh_dX13_fitOf_0_0 8 rfl) rfl
theorem dX13_fitOf_9 : decode cX13_fitOf 9 = .ok (.if_icmp .ge 55, 3) := zo_162 (zi_at zh_dX13_fitOf_0_0 9 rfl) (zi_at zh_dX13_fitOf_0_0 10 rfl) (zi_at zh_dX13_fitOf_0_0 11 rfl) rfl
theorem dX13_fitOf_12 : decode cX13_fitOf 12 = .ok (.aload_n 0, 1) := zo_42 (zi_at zh_dX13_fitOf_0_0 12 rfl)
theorem dX13_fitOf_13 : decode cX13_fitOf 13 = .ok (.iload_n 3, 1) := zo_29 (zi_at zh_dX13_fitOf_0_0 13 rfl)
theorem dX13_fitOf_14 : decode cX13_fitOf 14 = .ok (.iload_n 1, 1) := zo_27 (zi_at zh_dX13_fitOf_0_0 14 rfl)
theorem dX13_fitOf_15 : decode cX13_fitOf 15 = .ok (.invokevirtual 528, 3) := zo_182 (zi_at zh_dX13_fitOf_0_0 15 rfl) (zi_at zh_dX13_fitOf_15_16 0 rfl) (zi_at zh_dX13_fitOf_15_16 1 rfl) rfl
theorem dX13_fitOf_18 : decode cX13_fitOf 18 = .ok (.istore 4, 2) := zo_54 (zi_at zh_dX13_fitOf_15_16 2 rfl) (zi_at zh_dX13_fitOf_15_16 3 rfl)
theorem dX13_fitOf_20 : decode cX13_fitOf 20 = .ok (.iload 4, 2) := zo_21 (zi_at zh_dX13_fitOf_15_16 4 rfl) (zi_at zh_dX13_fitOf_15_16 5 rfl)
theorem dX13_fitOf_22 : decode cX13_fitOf 22 = .ok (.ldc_w 431, 3) := zo_19 (zi_at zh_dX13_fitOf_15_16 6 rfl) (zi_at zh_dX13_fitOf_15_16 7 rfl) (zi_at zh_dX13_fitOf_15_16 8 rfl) rfl
theorem dX13_fitOf_25 : decode cX13_fitOf 25 = .ok (.if_icmp .ne 6, 3) := zo_160 (zi_at zh_dX13_fitOf_15_16 9 rfl) (zi_at zh_dX13_fitOf_15_16 10 rfl) (zi_at zh_dX13_fitOf_15_16 11 rfl) rfl
theorem dX13_fitOf_28 : decode cX13_fitOf 28 = .ok (.goto 30, 3) := zo_167 (zi_at zh_dX13_fitOf_15_16 12 rfl) (zi_at zh_dX13_fitOf_15_16 13 rfl) (zi_at zh_dX13_fitOf_15_16 14 rfl) rfl
theorem dX13_fitOf_31 : decode cX13_fitOf 31 = .ok (.aload_n 0, 1) := zo_42 (zi_at zh_dX13_fitOf_15_16 15 rfl)
theorem dX13_fitOf_32 : decode cX13_fitOf 32 = .ok (.getfield 213, 3) := zo_180 (zi_at zh_dX13_fitOf_32_32 0 rfl) (zi_at zh_dX13_fitOf_32_32 1 rfl) (zi_at zh_dX13_fitOf_32_32 2 rfl) rfl
theorem dX13_fitOf_35 : decode cX13_fitOf 35 = .ok (.iload_n 2, 1) := zo_28 (zi_at zh_dX13_fitOf_32_32 3 rfl)
theorem dX13_fitOf_36 : decode cX13_fitOf 36 = .ok (.aload_n 0, 1) := zo_42 (zi_at zh_dX13_fitOf_32_32 4 rfl)
theorem dX13_fitOf_37 : decode cX13_fitOf 37 = .ok (.iload_n 3, 1) := zo_29 (zi_at zh_dX13_fitOf_32_32 5 rfl)
theorem dX13_fitOf_38 : decode cX13_fitOf 38 = .ok (.iload_n 1, 1) := zo_27 (zi_at zh_dX13_fitOf_32_32 6 rfl)
theorem dX13_fitOf_39 : decode cX13_fitOf 39 = .ok (.aload_n 0, 1) := zo_42 (zi_at zh_dX13_fitOf_32_32 7 rfl)
theorem dX13_fitOf_40 : decode cX13_fitOf 40 = .ok (.getfield 232, 3) := zo_180 (zi_at zh_dX13_fitOf_32_32 8 rfl) (zi_at zh_dX13_fitOf_32_32 9 rfl) (zi_at zh_dX13_fitOf_32_32 10 rfl) rfl
theorem dX13_fitOf_43 : decode cX13_fitOf 43 = .ok (.invokevirtual 422, 3) := zo_182 (zi_at zh_dX13_fitOf_32_32 11 rfl) (zi_at zh_dX13_fitOf_32_32 12 rfl) (zi_at zh_dX13_fitOf_32_32 13 rfl) rfl
theorem dX13_fitOf_46 : decode cX13_fitOf 46 = .ok (.iastore, 1) := zo_79 (zi_at zh_dX13_fitOf_32_32 14 rfl)
theorem dX13_fitOf_47 : decode cX13_fitOf 47 = .ok (.aload_n 0, 1) := zo_42 (zi_at zh_dX13_fitOf_32_32 15 rfl)
theorem dX13_fitOf_48 : decode cX13_fitOf 48 = .ok (.getfield 216, 3) := zo_180 (zi_at zh_dX13_fitOf_48_48 0 rfl) (zi_at zh_dX13_fitOf_48_48 1 rfl) (zi_at zh_dX13_fitOf_48_48 2 rfl) rfl
theorem dX13_fitOf_51 : decode cX13_fitOf 51 = .ok (.iload_n 2, 1) := zo_28 (zi_at zh_dX13_fitOf_48_48 3 rfl)
theorem dX13_fitOf_52 : decode cX13_fitOf 52 = .ok (.iload 4, 2) := zo_21 (zi_at zh_dX13_fitOf_48_48 4 rfl) (zi_at zh_dX13_fitOf_48_48 5 rfl)
theorem dX13_fitOf_54 : decode cX13_fitOf 54 = .ok (.iastore, 1) := zo_79 (zi_at zh_dX13_fitOf_48_48 6 rfl)
theorem dX13_fitOf_55 : decode cX13_fitOf 55 = .ok (.iinc 2 1, 3) := zo_132 (zi_at zh_dX13_fitOf_48_48 7 rfl) (zi_at zh_dX13_fitOf_48_48 8 rfl) (zi_at zh_dX13_fitOf_48_48 9 rfl) rfl
theorem dX13_fitOf_58 : decode cX13_fitOf 58 = .ok (.iinc 3 1, 3) := zo_132 (zi_at zh_dX13_fitOf_48_48 10 rfl) (zi_at zh_dX13_fitOf_48_48 11 rfl) (zi_at zh_dX13_fitOf_48_48 12 rfl) rfl
theorem dX13_fitOf_61 : decode cX13_fitOf 61 = .ok (.goto (-57), 3) := zo_167 (zi_at zh_dX13_fitOf_48_48 13 rfl) (zi_at zh_dX13_fitOf_48_48 14 rfl) (zi_at zh_dX13_fitOf_48_48 15 rfl) rfl
theorem dX13_fitOf_64 : decode cX13_fitOf 64 = .ok (.iload_n 2, 1) := zo_28 (zi_at zh_dX13_fitOf_64_64 0 rfl)
theorem dX13_fitOf_65 : decode cX13_fitOf 65 = .ok (.ifCond .ne 5, 3) := zo_154 (zi_at zh_dX13_fitOf_64_64 1 rfl) (zi_at zh_dX13_fitOf_64_64 2 rfl) (zi_at zh_dX13_fitOf_64_64 3 rfl) rfl
theorem dX13_fitOf_68 : decode cX13_fitOf 68 = .ok (.iconst (-1), 1) := zo_2 (zi_at zh_dX13_fitOf_64_64 4 rfl)
theorem dX13_fitOf_69 : decode cX13_fitOf 69 = .ok (.ireturn, 1) := zo_172 (zi_at zh_dX13_fitOf_64_64 5 rfl)
theorem dX13_fitOf_70 : decode cX13_fitOf 70 = .ok (.iconst (-1), 1) := zo_2 (zi_at zh_dX13_fitOf_64_64 6 rfl)
theorem dX13_fitOf_71 : decode cX13_fitOf 71 = .ok (.istore_n 3, 1) := zo_62 (zi_at zh_dX13_fitOf_64_64 7 rfl)
theorem dX13_fitOf_72 : decode cX13_fitOf 72 = .ok (.iconst 0, 1) := zo_3 (zi_at zh_dX13_fitOf_64_64 8 rfl)
theorem dX13_fitOf_73 : decode cX13_fitOf 73 = .ok (.istore 4, 2) := zo_54 (zi_at zh_dX13_fitOf_64_64 9 rfl) (zi_at zh_dX13_fitOf_64_64 10 rfl)
theorem dX13_fitOf_75 : decode cX13_fitOf 75 = .ok (.sipush 500, 3) := zo_17 (zi_at zh_dX13_fitOf_64_64 11 rfl) (zi_at zh_dX13_fitOf_64_64 12 rfl) (zi_at zh_dX13_fitOf_64_64 13 rfl) rfl
theorem dX13_fitOf_78 : decode cX13_fitOf 78 = .ok (.istore 5, 2) := zo_54 (zi_at zh_dX13_fitOf_64_64 14 rfl) (zi_at zh_dX13_fitOf_64_64 15 rfl)
theorem dX13_fitOf_80 : decode cX13_fitOf 80 = .ok (.iload 5, 2) := zo_21 (zi_at zh_dX13_fitOf_80_80 0 rfl) (zi_at zh_dX13_fitOf_80_80 1 rfl)
theorem dX13_fitOf_82 : decode cX13_fitOf 82 = .ok (.sipush 2000, 3) := zo_17 (zi_at zh_dX13_fitOf_80_80 2 rfl) (zi_at zh_dX13_fitOf_80_80 3 rfl) (zi_at zh_dX13_fitOf_80_80 4 rfl) rfl
theorem dX13_fitOf_85 : decode cX13_fitOf 85 = .ok (.if_icmp .gt 79, 3) := zo_163 (zi_at zh_dX13_fitOf_80_80 5 rfl) (zi_at zh_dX13_fitOf_80_80 6 rfl) (zi_at zh_dX13_fitOf_80_80 7 rfl) rfl
theorem dX13_fitOf_88 : decode cX13_fitOf 88 = .ok (.iconst 0, 1) := zo_3 (zi_at zh_dX13_fitOf_80_80 8 rfl)
theorem dX13_fitOf_89 : decode cX13_fitOf 89 = .ok (.istore 6, 2) := zo_54 (zi_at zh_dX13_fitOf_80_80 9 rfl) (zi_at zh_dX13_fitOf_80_80 10 rfl)
theorem dX13_fitOf_91 : decode cX13_fitOf 91 = .ok (.iconst 0, 1) := zo_3 (zi_at zh_dX13_fitOf_80_80 11 rfl)
theorem dX13_fitOf_92 : decode cX13_fitOf 92 = .ok (.istore 7, 2) := zo_54 (zi_at zh_dX13_fitOf_80_80 12 rfl) (zi_at zh_dX13_fitOf_80_80 13 rfl)
theorem dX13_fitOf_94 : decode cX13_fitOf 94 = .ok (.iload 7, 2) := zo_21 (zi_at zh_dX13_fitOf_80_80 14 rfl) (zi_at zh_dX13_fitOf_80_80 15 rfl)
theorem dX13_fitOf_96 : decode cX13_fitOf 96 = .ok (.iload_n 2, 1) := zo_28 (zi_at zh_dX13_fitOf_96_96 0 rfl)
theorem dX13_fitOf_97 : decode cX13_fitOf 97 = .ok (.if_icmp .ge 39, 3) := zo_162 (zi_at zh_dX13_fitOf_96_96 1 rfl) (zi_at zh_dX13_fitOf_96_96 2 rfl) (zi_at zh_dX13_fitOf_96_96 3 rfl) rfl
theorem dX13_fitOf_100 : decode cX13_fitOf 100 = .ok (.iload 6, 2) := zo_21 (zi_at zh_dX13_fitOf_96_96 4 rfl) (zi_at zh_dX13_fitOf_96_96 5 rfl)
theorem dX13_fitOf_102 : decode cX13_fitOf 102 = .ok (.aload_n 0, 1) := zo_42 (zi_at zh_dX13_fitOf_96_96 6 rfl)
theorem dX13_fitOf_103 : decode cX13_fitOf 103 = .ok (.getfield 213, 3) := zo_180 (zi_at zh_dX13_fitOf_96_96 7 rfl) (zi_at zh_dX13_fitOf_96_96 8 rfl) (zi_at zh_dX13_fitOf_96_96 9 rfl) rfl
theorem dX13_fitOf_106 : decode cX13_fitOf 106 = .ok (.iload 7, 2) := zo_21 (zi_at zh_dX13_fitOf_96_96 10 rfl) (zi_at zh_dX13_fitOf_96_96 11 rfl)
theorem dX13_fitOf_108 : decode cX13_fitOf 108 = .ok (.iaload, 1) := zo_46 (zi_at zh_dX13_fitOf_96_96 12 rfl)
theorem dX13_fitOf_109 : decode cX13_fitOf 109 = .ok (.iload 5, 2) := zo_21 (zi_at zh_dX13_fitOf_96_96 13 rfl) (zi_at zh_dX13_fitOf_96_96 14 rfl)
theorem dX13_fitOf_111 : decode cX13_fitOf 111 = .ok (.imul, 1) := zo_104 (zi_at zh_dX13_fitOf_96_96 15 rfl)
theorem dX13_fitOf_112 : decode cX13_fitOf 112 = .ok (.sipush 1000, 3) := zo_17 (zi_at zh_dX13_fitOf_112_112 0 rfl) (zi_at zh_dX13_fitOf_112_112 1 rfl) (zi_at zh_dX13_fitOf_112_112 2 rfl) rfl
theorem dX13_fitOf_115 : decode cX13_fitOf 115 = .ok (.idiv, 1) := zo_108 (zi_at zh_dX13_fitOf_112_112 3 rfl)
theorem dX13_fitOf_116 : decode cX13_fitOf 116 = .ok (.aload_n 0, 1) := zo_42 (zi_at zh_dX13_fitOf_112_112 4 rfl)
theorem dX13_fitOf_117 : decode cX13_fitOf 117 = .ok (.getfield 216, 3) := zo_180 (zi_at zh_dX13_fitOf_112_112 5 rfl) (zi_at zh_dX13_fitOf_112_112 6 rfl) (zi_at zh_dX13_fitOf_112_112 7 rfl) rfl
theorem dX13_fitOf_120 : decode cX13_fitOf 120 = .ok (.iload 7, 2) := zo_21 (zi_at zh_dX13_fitOf_112_112 8 rfl) (zi_at zh_dX13_fitOf_112_112 9 rfl)
theorem dX13_fitOf_122 : decode cX13_fitOf 122 = .ok (.iaload, 1) := zo_46 (zi_at zh_dX13_fitOf_112_112 10 rfl)
theorem dX13_fitOf_123 : decode cX13_fitOf 123 = .ok (.isub, 1) := zo_100 (zi_at zh_dX13_fitOf_112_112 11 rfl)
theorem dX13_fitOf_124 : decode cX13_fitOf 124 = .ok (.invokestatic 474, 3) := zo_184 (zi_at zh_dX13_fitOf_112_112 12 rfl) (zi_at zh_dX13_fitOf_112_112 13 rfl) (zi_at zh_dX13_fitOf_112_112 14 rfl) rfl
theorem dX13_fitOf_127 : decode cX13_fitOf 127 = .ok (.iadd, 1) := zo_96 (zi_at zh_dX13_fitOf_112_112 15 rfl)
theorem dX13_fitOf_128 : decode cX13_fitOf 128 = .ok (.istore 6, 2) := zo_54 (zi_at zh_dX13_fitOf_128_128 0 rfl) (zi_at zh_dX13_fitOf_128_128 1 rfl)
theorem dX13_fitOf_130 : decode cX13_fitOf 130 = .ok (.iinc 7 1, 3) := zo_132 (zi_at zh_dX13_fitOf_128_128 2 rfl) (zi_at zh_dX13_fitOf_128_128 3 rfl) (zi_at zh_dX13_fitOf_128_128 4 rfl) rfl
theorem dX13_fitOf_133 : decode cX13_fitOf 133 = .ok (.goto (-39), 3) := zo_167 (zi_at zh_dX13_fitOf_128_128 5 rfl) (zi_at zh_dX13_fitOf_128_128 6 rfl) (zi_at zh_dX13_fitOf_128_128 7 rfl) rfl
theorem dX13_fitOf_136 : decode cX13_fitOf 136 = .ok (.iload_n 3, 1) := zo_29 (zi_at zh_dX13_fitOf_128_128 8 rfl)
theorem dX13_fitOf_137 : decode cX13_fitOf 137 = .ok (.iconst (-1), 1) := zo_2 (zi_at zh_dX13_fitOf_128_128 9 rfl)
theorem dX13_fitOf_138 : decode cX13_fitOf 138 = .ok (.if_icmp .eq 13, 3) := zo_159 (zi_at zh_dX13_fitOf_128_128 10 rfl) (zi_at zh_dX13_fitOf_128_128 11 rfl) (zi_at zh_dX13_fitOf_128_128 12 rfl) rfl
theorem dX13_fitOf_141 : decode cX13_fitOf 141 = .ok (.iload 6, 2) := zo_21 (zi_at zh_dX13_fitOf_128_128 13 rfl) (zi_at zh_dX13_fitOf_128_128 14 rfl)
theorem dX13_fitOf_143 : decode cX13_fitOf 143 = .ok (.iload 4, 2) := zo_21 (zi_at zh_dX13_fitOf_128_128 15 rfl) (zi_at zh_dX13_fitOf_143_144 0 rfl)
theorem dX13_fitOf_145 : decode cX13_fitOf 145 = .ok (.if_icmp .lt 6, 3) := zo_161 (zi_at zh_dX13_fitOf_143_144 1 rfl) (zi_at zh_dX13_fitOf_143_144 2 rfl) (zi_at zh_dX13_fitOf_143_144 3 rfl) rfl
theorem dX13_fitOf_148 : decode cX13_fitOf 148 = .ok (.goto 10, 3) := zo_167 (zi_at zh_dX13_fitOf_143_144 4 rfl) (zi_at zh_dX13_fitOf_143_144 5 rfl) (zi_at zh_dX13_fitOf_143_144 6 rfl) rfl
theorem dX13_fitOf_151 : decode cX13_fitOf 151 = .ok (.iload 5, 2) := zo_21 (zi_at zh_dX13_fitOf_143_144 7 rfl) (zi_at zh_dX13_fitOf_143_144 8 rfl)
theorem dX13_fitOf_153 : decode cX13_fitOf 153 = .ok (.istore_n 3, 1) := zo_62 (zi_at zh_dX13_fitOf_143_144 9 rfl)
theorem dX13_fitOf_154 : decode cX13_fitOf 154 = .ok (.iload 6, 2) := zo_21 (zi_at zh_dX13_fitOf_143_144 10 rfl) (zi_at zh_dX13_fitOf_143_144 11 rfl)
theorem dX13_fitOf_156 : decode cX13_fitOf 156 = .ok (.istore 4, 2) := zo_54 (zi_at zh_dX13_fitOf_143_144 12 rfl) (zi_at zh_dX13_fitOf_143_144 13 rfl)
theorem dX13_fitOf_158 : decode cX13_fitOf 158 = .ok (.iinc 5 1, 3) := zo_132 (zi_at zh_dX13_fitOf_143_144 14 rfl) (zi_at zh_dX13_fitOf_143_144 15 rfl) (zi_at zh_dX13_fitOf_158_160 0 rfl) rfl
theorem dX13_fitOf_161 : decode cX13_fitOf 161 = .ok (.goto (-81), 3) := zo_167 (zi_at zh_dX13_fitOf_158_160 1 rfl) (zi_at zh_dX13_fitOf_158_160 2 rfl) (zi_at zh_dX13_fitOf_158_160 3 rfl) rfl
theorem dX13_fitOf_164 : decode cX13_fitOf 164 = .ok (.iload_n 3, 1) := zo_29 (zi_at zh_dX13_fitOf_158_160 4 rfl)
theorem dX13_fitOf_165 : decode cX13_fitOf 165 = .ok (.ireturn, 1) := zo_172 (zi_at zh_dX13_fitOf_158_160 5 rfl)
theorem dX13_fit_0 : decode cX13_fit 0 = .ok (.aload_n 0, 1) := zo_42 (zi_at zh_dX13_fit_0_0 0 rfl)
theorem dX13_fit_1 : decode cX13_fit 1 = .ok (.iconst 0, 1) := zo_3 (zi_at zh_dX13_fit_0_0 1 rfl)
theorem dX13_fit_2 : decode cX13_fit 2 = .ok (.putfield 228, 3) := zo_181 (zi_at zh_dX13_fit_0_0 2 rfl) (zi_at zh_dX13_fit_0_0 3 rfl) (zi_at zh_dX13_fit_0_0 4 rfl) rfl
theorem dX13_fit_5 : decode cX13_fit 5 = .ok (.aload_n 0, 1) := zo_42 (zi_at zh_dX13_fit_0_0 5 rfl)
theorem dX13_fit_6 : decode cX13_fit 6 = .ok (.iload_n 1, 1) := zo_27 (zi_at zh_dX13_fit_0_0 6 rfl)
theorem dX13_fit_7 : decode cX13_fit 7 = .ok (.invokevirtual 245, 3) := zo_182 (zi_at zh_dX13_fit_0_0 7 rfl) (zi_at zh_dX13_fit_0_0 8 rfl) (zi_at zh_dX13_fit_0_0 9 rfl) rfl
theorem dX13_fit_10 : decode cX13_fit 10 = .ok (.ifCond .eq 11, 3) := zo_153 (zi_at zh_dX13_fit_0_0 10 rfl) (zi_at zh_dX13_fit_0_0 11 rfl) (zi_at zh_dX13_fit_0_0 12 rfl) rfl
theorem dX13_fit_13 : decode cX13_fit 13 = .ok (.aload_n 0, 1) := zo_42 (zi_at zh_dX13_fit_0_0 13 rfl)
theorem dX13_fit_14 : decode cX13_fit 14 = .ok (.iload_n 1, 1) := zo_27 (zi_at zh_dX13_fit_0_0 14 rfl)
theorem dX13_fit_15 : decode cX13_fit 15 = .ok (.invokevirtual 531, 3) := zo_182 (zi_at zh_dX13_fit_0_0 15 rfl) (zi_at zh_dX13_fit_15_16 0 rfl) (zi_at zh_dX13_fit_15_16 1 rfl) rfl
theorem dX13_fit_18 : decode cX13_fit 18 = .ok (.goto 4, 3) := zo_167 (zi_at zh_dX13_fit_15_16 2 rfl) (zi_at zh_dX13_fit_15_16 3 rfl) (zi_at zh_dX13_fit_15_16 4 rfl) rfl
theorem dX13_fit_21 : decode cX13_fit 21 = .ok (.iconst (-1), 1) := zo_2 (zi_at zh_dX13_fit_15_16 5 rfl)
theorem dX13_fit_22 : decode cX13_fit 22 = .ok (.ireturn, 1) := zo_172 (zi_at zh_dX13_fit_15_16 6 rfl)
theorem hz_yX13_fitOf_1 : yX13_fitOf.cls ≠ "java/lang/invoke/MethodHandle" ∧ yX13_fitOf.cls ≠ "java/lang/invoke/VarHandle" ∧ (parseMethodDescriptor yX13_fitOf.desc).map (fun d => d.parameters.length) = some 1 := by decide +kernel
theorem hz_yX3_loadAll_0 : yX3_loadAll.cls ≠ "java/lang/invoke/MethodHandle" ∧ yX3_loadAll.cls ≠ "java/lang/invoke/VarHandle" ∧ (parseMethodDescriptor yX3_loadAll.desc).map (fun d => d.parameters.length) = some 0 := by decide +kernel
theorem hz_yX3_fitOf_1 : yX3_fitOf.cls ≠ "java/lang/invoke/MethodHandle" ∧ yX3_fitOf.cls ≠ "java/lang/invoke/VarHandle" ∧ (parseMethodDescriptor yX3_fitOf.desc).map (fun d => d.parameters.length) = some 1 := by decide +kernel

def v_fitOfM : List Cond := .code yX13_fitOf cX13_fitOf 8 (some .int) :: vA
abbrev rm_fitOfM : Room := { frames := 74, cells := 0, slots := 0, locals := 2960 }
def w_fitOfM : Nat → Nat → Bool := wl [12, 66, 67, 68] [(0, 18), (0, 19), (0, 20), (0, 21), (0, 22), (0, 23), (0, 24), (0, 25), (0, 26)]
set_option maxHeartbeats 4000000 in
set_option maxRecDepth 100000 in
theorem q_fitOfM (l : Launch) (dC : Nat → ClassId) (dI : Nat → Nat → Nat) (cT : Nat → ClassId) (ad : Nat → Nat) (E : Nat → va_E) (sz : Nat) (a0 : Int32) (hI0 : IX cT shM spM 72 ad E) (hh0 : 0 ≤ a0.toInt ∧ a0.toInt ≤ 15) (hh1 : TXM E) : Met l yX13_fitOf v_fitOfM rm_fitOfM (va_Pc [.ref (ad 0), .int a0] (HW dC dI (TYM cT) 72 ad E sz)) (va_Qi (S := Nat → va_E) (fun r u => IX cT shM spM 72 ad u ∧ Kp w_fitOfM E u ∧ ((-1 ≤ r.toInt ∧ r.toInt ≤ 2000) ∧ (FtR (fun r9 => ∃ x9 : Int32, MdM E a0 (xi (E 0) 1) r9 x9 ∧ ¬ x9.toInt = -1000000000) (fun v9 r9 x9 => ∃ s9 m9 : Int32, (MdM E a0 (xi (E 0) 1) r9 m9 ∧ ¬ m9.toInt = -1000000000 ∧ s9 = xi (E 27) (lRM E (nI r9) a0 (xi (E 0) 1)).toNatClampNeg) ∧ x9 = tFt s9 m9 v9) (xi (E 0) 46).toNatClampNeg r.toInt))) (HB dC dI 72 ad) (va_A (WX 72 ad E) sz)) 0 0 (va_A (WX 72 ad E) sz) := by
  refine Met.ofW (cc := cX13_fitOf) (maxL := 8) (ret := (some .int)) (by decide) rfl ?_
  intro p e s m args below meth c s₁ B hml hv
  obtain ⟨hargs, hsz, hP, hK, hD0, hEV⟩ := hv
  subst hsz
  have hx := B.exec
  have hb := B.bytes
  have hr := B.returns
  have hts := atoms_spec (ws := v_fitOfM) B.pre
  have hown : s.vm.findClass RX13 = some m.cls := findClass_of_methodNamed B.named
  have hlocks := B.notSynchronized
  have hinX13 : ∀ w ∈ u_ws RX13 TX13 97, w ∈ v_fitOfM := fun w h => vA_in _ w (in_X13 w h)
  generalize hAe : va_A (WX 72 ad E) s.heap.size = A at hEV ⊢
  have hA : ∀ q : Nat, s.heap.size ≤ q → A q := fun q h => by rw [← hAe]; exact Or.inr h
  have hD : va_D A (WX 72 ad E) := by rw [← hAe]; exact hD0.self
  have hS : va_S A s.heap s.heap [] := va_S.rf
  have hI := hI0
  have hKp : Kp w_fitOfM E E := Kp.rf
  have hl := lv_entry ([.ref (ad 0), .int a0]) (n := 8) (Nat.le_of_ble_eq_true rfl)
  obtain ⟨Q, hQ⟩ : ∃ Q, Q = MQ below (va_Qi (S := Nat → va_E) (fun r u => IX cT shM spM 72 ad u ∧ Kp w_fitOfM E u ∧ ((-1 ≤ r.toInt ∧ r.toInt ≤ 2000) ∧ (FtR (fun r9 => ∃ x9 : Int32, MdM E a0 (xi (E 0) 1) r9 x9 ∧ ¬ x9.toInt = -1000000000) (fun v9 r9 x9 => ∃ s9 m9 : Int32, (MdM E a0 (xi (E 0) 1) r9 m9 ∧ ¬ m9.toInt = -1000000000 ∧ s9 = xi (E 27) (lRM E (nI r9) a0 (xi (E 0) 1)).toNatClampNeg) ∧ x9 = tFt s9 m9 v9) (xi (E 0) 46).toNatClampNeg r.toInt))) (HB dC dI 72 ad) (A)) args s 0 0 (A) := ⟨_, rfl⟩
  rw [← hQ, show entryFrame m args 8 = _ from (congrArg (fun z => entryFrame m z 8) hargs).trans (lg_entry_eq _ _ _)]
  generalize (lg_sl ([.ref (ad 0), .int a0]) ++ List.replicate (8 - (lg_sl ([.ref (ad 0), .int a0])).length) Slot.unset).toArray = ls at hl ⊢
  have hl : lv_has ls 8 [(0, .ref (ad 0)), (1, .int a0)] := hl
  obtain ⟨g1, hg1⟩ : ∃ g, xi (E 67) = g := ⟨_, rfl⟩
  obtain ⟨g2, hg2⟩ : ∃ g, xi (E 68) = g := ⟨_, rfl⟩
  have z0z : (0 : Int32).toInt = 0 := rfl
  have ib46 : 0 ≤ (xi (E 0) 46).toInt ∧ (xi (E 0) 46).toInt ≤ 20 := hI0.iv 0 (Nat.le_of_ble_eq_true rfl) rfl (Nat.le_of_ble_eq_true rfl) rfl
  have z0 := ln_0
  have z1 := ln_1
  refine lv_iconst (v := 0) hx hb dX13_fitOf_0 (by decide) ?_
  refine lv_istore_n (lv' := [(2, .int 0), (0, .ref (ad 0)), (1, .int a0)]) hx hb dX13_fitOf_1 rfl hl (by decide) rfl (fun ls hl => ?_)
  refine lv_iconst (v := 0) hx hb dX13_fitOf_2 (by decide) ?_
  refine lv_istore_n (lv' := [(3, .int 0), (2, .int 0), (0, .ref (ad 0)), (1, .int a0)]) hx hb dX13_fitOf_3 rfl hl (by decide) rfl (fun ls hl => ?_)
  have hL4 : ∀ d : Nat, ∀ (g4_67 : Nat → Int32) (g4_68 : Nat → Int32) (v4_3 : Int32) (v4_2 : Int32) (E4_ : Nat → va_E) (H : Heap) (locs : List Loc) (ls : Array Slot), 0 ≤ v4_3.toInt ∧ v4_3.toInt ≤ 20 → 0 ≤ v4_2.toInt ∧ v4_2.toInt ≤ 20 → LsR (fun r9 => ∃ x9 : Int32, MdM E a0 (xi (E 0) 1) r9 x9 ∧ ¬ x9.toInt = -1000000000) (fun r9 s9 m9 => MdM E a0 (xi (E 0) 1) r9 m9 ∧ ¬ m9.toInt = -1000000000 ∧ s9 = xi (E 27) (lRM E (nI r9) a0 (xi (E 0) 1)).toNatClampNeg) v4_3.toNatClampNeg v4_2.toNatClampNeg g4_67 g4_68 → v4_2.toInt ≤ v4_3.toInt → v4_3.toInt ≤ (xi (E 0) 46).toInt → 20 - v4_3.toInt < (d : Int) → IX cT shM spM 72 ad E4_ → Kp w_fitOfM E E4_ → xi (E4_ 67) = g4_67 → xi (E4_ 68) = g4_68 → va_P (dC, dI) vwCl (WX 72 ad E4_) H → va_S A s.heap H locs → lv_has ls 8 [(3, .int v4_3), (2, .int v4_2), (0, .ref (ad 0)), (1, .int a0)] → W p l e (headSpec v_fitOfM rm_fitOfM).room s m args below meth c H locs 0 0 Q (F0 m 4 ls []) := by
    intro d
    induction d with
    | zero =>
      intro g4_67 g4_68 v4_3 v4_2 E4_ H locs ls hv4_3 hv4_2 hx4_0 hx4_1 hx4_2 hx4_3 hI hKp hr4_67 hr4_68 hP hS hl
      exact absurd hx4_3 (by first | exact ms_zu hv4_3.2 | omega)
    | succ d ih4 =>
      intro g4_67 g4_68 v4_3 v4_2 E4_ H locs ls hv4_3 hv4_2 hx4_0 hx4_1 hx4_2 hx4_3 hI hKp hr4_67 hr4_68 hP hS hl
      refine lv_iload_n hx hb dX13_fitOf_4 rfl (lv_at hl 0 rfl) ?_
      refine lv_aload_n hx hb dX13_fitOf_5 rfl (lv_at hl 2 rfl) ?_
      have i3 : 0 ≤ (xi (E 0) 46).toInt ∧ (xi (E 0) 46).toInt ≤ 20 := hI0.iv 0 (Nat.le_of_ble_eq_true rfl) rfl (Nat.le_of_ble_eq_true rfl) rfl
      refine th_get (ci := 14) (C := RX13) (T := TX13) (N := 97) (v := .int (xi (E 0) 46)) hx hb hts hinX13 hown hK hP hI 0 (Nat.le_of_ble_eq_true rfl) rfl rfl 46 (Nat.le_of_ble_eq_true rfl) (hts _ (vA_in _ _ (in_24 _ (zs16 (zs1 (zs0)))))) (fun _ h9 => h9) (th_v0 hKp hI0 0 (Nat.le_of_ble_eq_true rfl) rfl (Nat.le_of_ble_eq_true rfl) rfl rfl) dX13_fitOf_6 ?_
      refine lv_icmp_ge (tgt := 64) hx hb dX13_fitOf_9 (by decide) (fun c4 => ?_) (fun c4 => ?_)
      · --9 taken
        have t5 : (xi (E 0) 46).toInt ≤ v4_3.toInt := ti_le c4
        refine lv_iload_n hx hb dX13_fitOf_64 rfl (lv_at hl 1 rfl) ?_
        refine lv_if_ne (tgt := 70) hx hb dX13_fitOf_65 (by decide) (fun c6 => ?_) (fun c6 => ?_)
        · --65 taken
          have t7 : ¬ v4_2.toInt = 0 := ti_ne c6
          have i8 : 1 ≤ v4_2.toInt ∧ v4_2.toInt ≤ 20 := iv_ne_l t7 hv4_2 (il_ 0)
          refine lv_iconst (v := -1) hx hb dX13_fitOf_70 (by decide) ?_
          refine lv_istore_n (lv' := [(3, .int (-1)), (2, .int v4_2), (0, .ref (ad 0)), (1, .int a0)]) hx hb dX13_fitOf_71 rfl hl (by decide) rfl (fun ls hl => ?_)
          refine lv_iconst (v := 0) hx hb dX13_fitOf_72 (by decide) ?_
          refine lv_istore (lv' := [(4, .int 0), (3, .int (-1)), (2, .int v4_2), (0, .ref (ad 0)), (1, .int a0)]) hx hb dX13_fitOf_73 hl (by decide) rfl (fun ls hl => ?_)
          refine lv_sipush (v := 500) hx hb dX13_fitOf_75 (by decide) ?_
          refine lv_istore (lv' := [(5, .int 500), (4, .int 0), (3, .int (-1)), (2, .int v4_2), (0, .ref (ad 0)), (1, .int a0)]) hx hb dX13_fitOf_78 hl (by decide) rfl (fun ls hl => ?_)
          have hL80 : ∀ d : Nat, ∀ (v80_5 : Int32) (v80_4 : Int32) (v80_3 : Int32) (H : Heap) (locs : List Loc) (ls : Array Slot), 500 ≤ v80_5.toInt ∧ v80_5.toInt ≤ 2001 → 0 ≤ v80_4.toInt ∧ v80_4.toInt ≤ 2147483647 → -1 ≤ v80_3.toInt ∧ v80_3.toInt ≤ 2000 → FtI (fun v9 : Int => sumF (fun i9 => tFt (g4_67 i9) (g4_68 i9) v9) v4_2.toNatClampNeg) v80_5.toInt v80_4.toInt v80_3.toInt → 500 ≤ v80_5.toInt → 2001 - v80_5.toInt < (d : Int) → va_P (dC, dI) vwCl (WX 72 ad E4_) H → va_S A s.heap H locs → lv_has ls 8 [(5, .int v80_5), (4, .int v80_4), (3, .int v80_3), (2, .int v4_2), (0, .ref (ad 0)), (1, .int a0)] → W p l e (headSpec v_fitOfM rm_fitOfM).room s m args below meth c H locs 0 0 Q (F0 m 80 ls []) := by
            intro d
            induction d with
            | zero =>
              intro v80_5 v80_4 v80_3 H locs ls hv80_5 hv80_4 hv80_3 hx80_0 hx80_1 hx80_2 hP hS hl
              exact absurd hx80_2 (by first | exact ms_zu hv80_5.2 | omega)
            | succ d ih80 =>
              intro v80_5 v80_4 v80_3 H locs ls hv80_5 hv80_4 hv80_3 hx80_0 hx80_1 hx80_2 hP hS hl
              refine lv_iload hx hb dX13_fitOf_80 (lv_at hl 0 rfl) ?_
              refine lv_sipush (v := 2000) hx hb dX13_fitOf_82 (by decide) ?_
              refine lv_icmp_gt (tgt := 164) hx hb dX13_fitOf_85 (by decide) (fun c9 => ?_) (fun c9 => ?_)
              · --85 taken
                have t10 : (2000 : Int) < v80_5.toInt := ti_lt c9
                have i11 : 2001 ≤ v80_5.toInt ∧ v80_5.toInt ≤ 2001 := iv_lt_r t10 (il_ 2000) hv80_5 (by decide)
                refine lv_iload_n hx hb dX13_fitOf_164 rfl (lv_at hl 2 rfl) ?_
                rw [hQ]
                exact W.iret (v := v80_3) hx hb hr (fun t ht hW => ⟨⟨v80_3, E4_, rfl, ⟨hI, hKp, ⟨hv80_3, (by have h9 := hx4_0; rw [show v4_3.toNatClampNeg = (xi (E 0) 46).toNatClampNeg by rw [tn_, tn_]; omega] at h9; exact LsR.fit h9 (by rw [tn_]; omega) hx80_0 (by omega))⟩⟩, by show va_P (dC, dI) vwCl (WX 72 ad E4_) t.heap; rw [ht]; exact hP⟩, hS.F ht⟩) hS.2.2 dX13_fitOf_165
              · --85 not
                have t12 : v80_5.toInt ≤ 2000 := ti_nlt c9
                have i13 : 500 ≤ v80_5.toInt ∧ v80_5.toInt ≤ 2000 := iv_le_l t12 hv80_5 (il_ 2000) (by decide)
                refine lv_iconst (v := 0) hx hb dX13_fitOf_88 (by decide) ?_
                refine lv_istore (lv' := [(6, .int 0), (5, .int v80_5), (4, .int v80_4), (3, .int v80_3), (2, .int v4_2), (0, .ref (ad 0)), (1, .int a0)]) hx hb dX13_fitOf_89 hl (by decide) rfl (fun ls hl => ?_)
                refine lv_iconst (v := 0) hx hb dX13_fitOf_91 (by decide) ?_
                refine lv_istore (lv' := [(7, .int 0), (6, .int 0), (5, .int v80_5), (4, .int v80_4), (3, .int v80_3), (2, .int v4_2), (0, .ref (ad 0)), (1, .int a0)]) hx hb dX13_fitOf_92 hl (by decide) rfl (fun ls hl => ?_)
                have hL94 : ∀ d : Nat, ∀ (v94_7 : Int32) (v94_6 : Int32) (H : Heap) (locs : List Loc) (ls : Array Slot), 0 ≤ v94_7.toInt ∧ v94_7.toInt ≤ 20 → 0 ≤ v94_6.toInt ∧ v94_6.toInt ≤ 15600000 → v94_6.toInt = sumF (fun i9 => tFt (g4_67 i9) (g4_68 i9) v80_5.toInt) v94_7.toNatClampNeg → v94_7.toInt ≤ v4_2.toInt → 0 ≤ v94_6.toInt ∧ v94_6.toInt ≤ 800000 * v94_7.toInt → 20 - v94_7.toInt < (d : Int) → va_P (dC, dI) vwCl (WX 72 ad E4_) H → va_S A s.heap H locs → lv_has ls 8 [(7, .int v94_7), (6, .int v94_6), (5, .int v80_5), (4, .int v80_4), (3, .int v80_3), (2, .int v4_2), (0, .ref (ad 0)), (1, .int a0)] → W p l e (headSpec v_fitOfM rm_fitOfM).room s m args below meth c H locs 0 0 Q (F0 m 94 ls []) := by
                  intro d
                  induction d with
                  | zero =>
                    intro v94_7 v94_6 H locs ls hv94_7 hv94_6 hx94_0 hx94_1 hx94_2 hx94_3 hP hS hl
                    exact absurd hx94_3 (by first | exact ms_zu hv94_7.2 | omega)
                  | succ d ih94 =>
                    intro v94_7 v94_6 H locs ls hv94_7 hv94_6 hx94_0 hx94_1 hx94_2 hx94_3 hP hS hl
                    refine lv_iload hx hb dX13_fitOf_94 (lv_at hl 0 rfl) ?_
                    refine lv_iload_n hx hb dX13_fitOf_96 rfl (lv_at hl 5 rfl) ?_
                    refine lv_icmp_ge (tgt := 136) hx hb dX13_fitOf_97 (by decide) (fun c14 => ?_) (fun c14 => ?_)
                    · --97 taken
                      have t15 : v4_2.toInt ≤ v94_7.toInt := ti_le c14
                      have i16 : 1 ≤ v94_7.toInt ∧ v94_7.toInt ≤ 20 := iv_le_r t15 i8 hv94_7 (by decide)
                      refine lv_iload_n hx hb dX13_fitOf_136 rfl (lv_at hl 4 rfl) ?_
                      refine lv_iconst (v := -1) hx hb dX13_fitOf_137 (by decide) ?_
                      refine lv_icmp_eq (tgt := 151) hx hb dX13_fitOf_138 (by decide) (fun c17 => ?_) (fun c17 => ?_)
                      · --138 taken
                        have t18 : v80_3.toInt = -1 := ti_eq c17
                        have i19 : -1 ≤ v80_3.toInt ∧ v80_3.toInt ≤ -1 := iv_eqi t18 hv80_3 (il_ (-1)) (by decide)
                        refine lv_iload hx hb dX13_fitOf_151 (lv_at hl 2 rfl) ?_
                        refine lv_istore_n (lv' := [(3, .int v80_5), (7, .int v94_7), (6, .int v94_6), (5, .int v80_5), (4, .int v80_4), (2, .int v4_2), (0, .ref (ad 0)), (1, .int a0)]) hx hb dX13_fitOf_153 rfl hl (by decide) rfl (fun ls hl => ?_)
                        refine lv_iload hx hb dX13_fitOf_154 (lv_at hl 2 rfl) ?_
                        refine lv_istore (lv' := [(4, .int v94_6), (3, .int v80_5), (7, .int v94_7), (6, .int v94_6), (5, .int v80_5), (2, .int v4_2), (0, .ref (ad 0)), (1, .int a0)]) hx hb dX13_fitOf_156 hl (by decide) rfl (fun ls hl => ?_)
                        obtain ⟨y20, ey20⟩ : ∃ y : Int32, y = v80_5 + (1 : Int32) := ⟨_, rfl⟩
                        obtain ⟨ty20, iy20⟩ := ti_add (e := 501) (f := 2001) i13 ln_1 ey20 (by decide)
                        have ty20 : y20.toInt = v80_5.toInt + 1 := ty20
                        have iy20 : 501 ≤ y20.toInt ∧ y20.toInt ≤ 2001 := iy20
                        refine lv_iinc (v := y20) (lv' := [(5, .int y20), (4, .int v94_6), (3, .int v80_5), (7, .int v94_7), (6, .int v94_6), (2, .int v4_2), (0, .ref (ad 0)), (1, .int a0)]) hx hb dX13_fitOf_158 hl (k := 4) rfl (by rw [ey20]; rfl) (by decide) rfl (fun ls hl => ?_)
                        refine lv_goto (tgt := 80) hx hb dX13_fitOf_161 (by decide) ?_
                        exact ih80 y20 v94_6 v80_5 _ _ _ (iv_w iy20 (by decide)) (iv_w hv94_6 (by decide)) (iv_w i13 (by decide)) (hx80_0.yes hx80_1 (fun q9 => absurd (hx80_0.neg (by omega)) q9) (show v94_6.toInt = (fun v9 : Int => sumF (fun i9 => tFt (g4_67 i9) (g4_68 i9) v9) v4_2.toNatClampNeg) v80_5.toInt by have h9 := hx94_0; rw [show v94_7.toNatClampNeg = v4_2.toNatClampNeg by rw [tn_, tn_]; omega] at h9; exact h9) (by omega)) (by omega) (by first | exact ms_su hx80_2 ty20 (by decide) | omega) hP hS (lv_sub hl [0, 1, 2, 5, 6, 7] rfl)
                      · --138 not
                        have t21 : ¬ v80_3.toInt = -1 := ti_ne c17
                        have i22 : 0 ≤ v80_3.toInt ∧ v80_3.toInt ≤ 2000 := iv_ne_l t21 hv80_3 (il_ (-1))
                        refine lv_iload hx hb dX13_fitOf_141 (lv_at hl 1 rfl) ?_
                        refine lv_iload hx hb dX13_fitOf_143 (lv_at hl 3 rfl) ?_
                        refine lv_icmp_lt (tgt := 151) hx hb dX13_fitOf_145 (by decide) (fun c23 => ?_) (fun c23 => ?_)
                        · --145 taken
                          have t24 : v94_6.toInt < v80_4.toInt := ti_lt c23
                          have i25 : 1 ≤ v80_4.toInt ∧ v80_4.toInt ≤ 2147483647 := iv_lt_r t24 hv94_6 hv80_4 (by decide)
                          refine lv_iload hx hb dX13_fitOf_151 (lv_at hl 2 rfl) ?_
                          refine lv_istore_n (lv' := [(3, .int v80_5), (7, .int v94_7), (6, .int v94_6), (5, .int v80_5), (4, .int v80_4), (2, .int v4_2), (0, .ref (ad 0)), (1, .int a0)]) hx hb dX13_fitOf_153 rfl hl (by decide) rfl (fun ls hl => ?_)
                          refine lv_iload hx hb dX13_fitOf_154 (lv_at hl 2 rfl) ?_
                          refine lv_istore (lv' := [(4, .int v94_6), (3, .int v80_5), (7, .int v94_7), (6, .int v94_6), (5, .int v80_5), (2, .int v4_2), (0, .ref (ad 0)), (1, .int a0)]) hx hb dX13_fitOf_156 hl (by decide) rfl (fun ls hl => ?_)
                          obtain ⟨y26, ey26⟩ : ∃ y : Int32, y = v80_5 + (1 : Int32) := ⟨_, rfl⟩
                          obtain ⟨ty26, iy26⟩ := ti_add (e := 501) (f := 2001) i13 ln_1 ey26 (by decide)
                          have ty26 : y26.toInt = v80_5.toInt + 1 := ty26
                          have iy26 : 501 ≤ y26.toInt ∧ y26.toInt ≤ 2001 := iy26
                          refine lv_iinc (v := y26) (lv' := [(5, .int y26), (4, .int v94_6), (3, .int v80_5), (7, .int v94_7), (6, .int v94_6), (2, .int v4_2), (0, .ref (ad 0)), (1, .int a0)]) hx hb dX13_fitOf_158 hl (k := 4) rfl (by rw [ey26]; rfl) (by decide) rfl (fun ls hl => ?_)
                          refine lv_goto (tgt := 80) hx hb dX13_fitOf_161 (by decide) ?_
                          exact ih80 y26 v94_6 v80_5 _ _ _ (iv_w iy26 (by decide)) (iv_w hv94_6 (by decide)) (iv_w i13 (by decide)) (hx80_0.yes hx80_1 (fun _ => Int.lt_of_le_of_lt (Int.le_of_eq (Eq.symm (show v94_6.toInt = (fun v9 : Int => sumF (fun i9 => tFt (g4_67 i9) (g4_68 i9) v9) v4_2.toNatClampNeg) v80_5.toInt by have h9 := hx94_0; rw [show v94_7.toNatClampNeg = v4_2.toNatClampNeg by rw [tn_, tn_]; omega] at h9; exact h9))) (by omega)) (show v94_6.toInt = (fun v9 : Int => sumF (fun i9 => tFt (g4_67 i9) (g4_68 i9) v9) v4_2.toNatClampNeg) v80_5.toInt by have h9 := hx94_0; rw [show v94_7.toNatClampNeg = v4_2.toNatClampNeg by rw [tn_, tn_]; omega] at h9; exact h9) (by omega)) (by omega) (by first | exact ms_su hx80_2 ty26 (by decide) | omega) hP hS (lv_sub hl [0, 1, 2, 5, 6, 7] rfl)
                        · --145 not
                          have t27 : v80_4.toInt ≤ v94_6.toInt := ti_nlt c23
                          have i28 : 0 ≤ v80_4.toInt ∧ v80_4.toInt ≤ 15600000 := iv_le_l t27 hv80_4 hv94_6 (by decide)
                          refine lv_goto (tgt := 158) hx hb dX13_fitOf_148 (by decide) ?_
                          obtain ⟨y29, ey29⟩ : ∃ y : Int32, y = v80_5 + (1 : Int32) := ⟨_, rfl⟩
                          obtain ⟨ty29, iy29⟩ := ti_add (e := 501) (f := 2001) i13 ln_1 ey29 (by decide)
                          have ty29 : y29.toInt = v80_5.toInt + 1 := ty29
                          have iy29 : 501 ≤ y29.toInt ∧ y29.toInt ≤ 2001 := iy29
                          refine lv_iinc (v := y29) (lv' := [(5, .int y29), (7, .int v94_7), (6, .int v94_6), (4, .int v80_4), (3, .int v80_3), (2, .int v4_2), (0, .ref (ad 0)), (1, .int a0)]) hx hb dX13_fitOf_158 hl (k := 2) rfl (by rw [ey29]; rfl) (by decide) rfl (fun ls hl => ?_)
                          refine lv_goto (tgt := 80) hx hb dX13_fitOf_161 (by decide) ?_
                          exact ih80 y29 v80_4 v80_3 _ _ _ (iv_w iy29 (by decide)) (iv_w i28 (by decide)) (iv_w i22 (by decide)) (hx80_0.no hx80_1 (hx80_0.pos (by omega)) (Int.le_trans (show v80_4.toInt ≤ v94_6.toInt by omega) (Int.le_of_eq (show v94_6.toInt = (fun v9 : Int => sumF (fun i9 => tFt (g4_67 i9) (g4_68 i9) v9) v4_2.toNatClampNeg) v80_5.toInt by have h9 := hx94_0; rw [show v94_7.toNatClampNeg = v4_2.toNatClampNeg by rw [tn_, tn_]; omega] at h9; exact h9))) (by omega)) (by omega) (by first | exact ms_su hx80_2 ty29 (by decide) | omega) hP hS (lv_sub hl [0, 3, 4, 5, 6, 7] rfl)
                    · --97 not
                      have t30 : v94_7.toInt < v4_2.toInt := ti_nle c14
                      have i31 : 0 ≤ v94_7.toInt ∧ v94_7.toInt ≤ 19 := iv_lt_l t30 hv94_7 i8 (by decide)
                      have i32 : 0 ≤ v94_6.toInt ∧ v94_6.toInt ≤ 15200000 := by omega
                      refine lv_iload hx hb dX13_fitOf_100 (lv_at hl 1 rfl) ?_
                      refine lv_aload_n hx hb dX13_fitOf_102 rfl (lv_at hl 6 rfl) ?_
                      refine th_get (ci := 14) (C := RX13) (T := TX13) (N := 97) (v := .ref (ad 67)) hx hb hts hinX13 hown hK hP hI 0 (Nat.le_of_ble_eq_true rfl) rfl rfl 91 (Nat.le_of_ble_eq_true rfl) (hts _ (vA_in _ _ (in_31 _ (zs16 (zs1 (zs1 (zs0))))))) (fun _ h9 => h9) (hI.fr 0 (Nat.le_of_ble_eq_true rfl) rfl (Nat.le_of_ble_eq_true rfl) 67 rfl) dX13_fitOf_103 ?_
                      refine lv_iload hx hb dX13_fitOf_106 (lv_at hl 0 rfl) ?_
                      have n34 : vp_in v94_7 20 := (iv_in (n := 20) i31 (by decide))
                      refine th_iald hx hb hK hP hI 67 (Nat.le_of_ble_eq_true rfl) rfl rfl n34 dX13_fitOf_108 (fun y33 ey33 => ?_)
                      have iy33 : 0 ≤ y33.toInt ∧ y33.toInt ≤ 200000 := hI.el 67 (Nat.le_of_ble_eq_true rfl) rfl n34 (fun _ => rfl) ey33
                      have ey33 := ey33.trans (congrFun hr4_67 _)
                      refine lv_iload hx hb dX13_fitOf_109 (lv_at hl 2 rfl) ?_
                      refine lv_imul hx hb dX13_fitOf_111 ?_
                      refine lv_topi (fun y35 ey35 => ?_)
                      obtain ⟨ty35, iy35⟩ := ti_mul (e := 0) (f := 400000000) iy33 i13 ey35 (by decide)
                      have ty35 : y35.toInt = y33.toInt * v80_5.toInt := ty35
                      have iy35 : 0 ≤ y35.toInt ∧ y35.toInt ≤ 400000000 := iy35
                      refine lv_sipush (v := 1000) hx hb dX13_fitOf_112 (by decide) ?_
                      refine lv_idiv hx hb dX13_fitOf_115 (by decide) ?_
                      refine lv_topi (fun y36 ey36 => ?_)
                      obtain ⟨ty36, iy36⟩ := ti_div (e := 0) (f := 400000) iy35 ln_1000 ey36 (by decide)
                      have iy36 : 0 ≤ y36.toInt ∧ y36.toInt ≤ 400000 := iy36
                      refine lv_aload_n hx hb dX13_fitOf_116 rfl (lv_at hl 6 rfl) ?_
                      refine th_get (ci := 14) (C := RX13) (T := TX13) (N := 97) (v := .ref (ad 68)) hx hb hts hinX13 hown hK hP hI 0 (Nat.le_of_ble_eq_true rfl) rfl rfl 92 (Nat.le_of_ble_eq_true rfl) (hts _ (vA_in _ _ (in_31 _ (zs16 (zs1 (zs1 (zs1 (zs0)))))))) (fun _ h9 => h9) (hI.fr 0 (Nat.le_of_ble_eq_true rfl) rfl (Nat.le_of_ble_eq_true rfl) 68 rfl) dX13_fitOf_117 ?_
                      refine lv_iload hx hb dX13_fitOf_120 (lv_at hl 0 rfl) ?_
                      have n38 : vp_in v94_7 20 := (iv_in (n := 20) i31 (by decide))
                      refine th_iald hx hb hK hP hI 68 (Nat.le_of_ble_eq_true rfl) rfl rfl n38 dX13_fitOf_122 (fun y37 ey37 => ?_)
                      have ey37 := ey37.trans (congrFun hr4_68 _)
                      have k39 : 0 ≤ y37.toInt ∧ y37.toInt ≤ 400000 := by rw [ey37]; obtain ⟨r9, -, -, h8, h9, -⟩ := (LsR.some _ _ _ _ hx4_0).1 v94_7.toNatClampNeg (by rw [tn_, tn_]; omega); exact (MdM_in hI0 h8).resolve_left h9
                      refine lv_isub hx hb dX13_fitOf_123 ?_
                      refine lv_topi (fun y40 ey40 => ?_)
                      obtain ⟨ty40, iy40⟩ := ti_sub (e := (-400000)) (f := 400000) iy36 k39 ey40 (by decide)
                      have ty40 : y40.toInt = y36.toInt - y37.toInt := ty40
                      have iy40 : -400000 ≤ y40.toInt ∧ y40.toInt ≤ 400000 := iy40
                      refine va_mabs hx hb (by rw [hml]; exact hl.1.symm) hown (hts _ (vA_in _ _ (in_25 _ (zs16 (zs16 (zs1 (zs1 (zs0)))))))) (hts _ (vA_in _ _ (in_23 _ (zs4 (zs4 (zs1 (zs1 (zs0)))))))) (hts _ (vA_in _ _ (in_0 _ (zs16 (zs16 (zs1 (zs0))))))) (hts _ (vA_in _ _ (in_23 _ (zs4 (zs4 (zs1 (zs1 (zs1 (zs0))))))))) (Nat.le_of_ble_eq_true rfl) (Nat.le_of_ble_eq_true rfl) (Nat.le_of_ble_eq_true rfl) (Nat.le_of_ble_eq_true rfl) dX13_fitOf_124 ?_
                      refine lv_topi (fun y41 ey41 => ?_)
                      obtain ⟨ty41, iy41⟩ := ti_abs (e := 0) (f := 400000) iy40 ey41 (by decide)
                      have iy41 : 0 ≤ y41.toInt ∧ y41.toInt ≤ 400000 := iy41
                      have k42 : y41.toInt = tFt (g4_67 v94_7.toNatClampNeg) (g4_68 v94_7.toNatClampNeg) v80_5.toInt := by unfold tFt ab; rw [← ey33, ← ey37]; have q7 := ty36; rw [show (1000 : Int32).toInt = 1000 from rfl] at q7; exact dite (0 ≤ y33.toInt * v80_5.toInt / 1000 - y37.toInt) (fun q6 => by rw [if_pos q6]; omega) (fun q6 => by rw [if_neg q6]; omega)
                      refine lv_iadd hx hb dX13_fitOf_127 ?_
                      refine lv_topi (fun y43 ey43 => ?_)
                      obtain ⟨ty43, iy43⟩ := ti_add (e := 0) (f := 15600000) i32 iy41 ey43 (by decide)
                      have ty43 : y43.toInt = v94_6.toInt + y41.toInt := ty43
                      have iy43 : 0 ≤ y43.toInt ∧ y43.toInt ≤ 15600000 := iy43
                      refine lv_istore (lv' := [(6, .int y43), (7, .int v94_7), (5, .int v80_5), (4, .int v80_4), (3, .int v80_3), (2, .int v4_2), (0, .ref (ad 0)), (1, .int a0)]) hx hb dX13_fitOf_128 hl (by decide) rfl (fun ls hl => ?_)
                      obtain ⟨y44, ey44⟩ : ∃ y : Int32, y = v94_7 + (1 : Int32) := ⟨_, rfl⟩
                      obtain ⟨ty44, iy44⟩ := ti_add (e := 1) (f := 20) i31 ln_1 ey44 (by decide)
                      have ty44 : y44.toInt = v94_7.toInt + 1 := ty44
                      have iy44 : 1 ≤ y44.toInt ∧ y44.toInt ≤ 20 := iy44
                      refine lv_iinc (v := y44) (lv' := [(7, .int y44), (6, .int y43), (5, .int v80_5), (4, .int v80_4), (3, .int v80_3), (2, .int v4_2), (0, .ref (ad 0)), (1, .int a0)]) hx hb dX13_fitOf_130 hl (k := 1) rfl (by rw [ey44]; rfl) (by decide) rfl (fun ls hl => ?_)
                      refine lv_goto (tgt := 94) hx hb dX13_fitOf_133 (by decide) ?_
                      exact ih94 y44 y43 _ _ _ (iv_w iy44 (by decide)) iy43 (by rw [show y44.toNatClampNeg = v94_7.toNatClampNeg + 1 by rw [tn_ y44, tn_ v94_7]; omega]; show y43.toInt = sumF (fun i9 => tFt (g4_67 i9) (g4_68 i9) v80_5.toInt) v94_7.toNatClampNeg + tFt (g4_67 v94_7.toNatClampNeg) (g4_68 v94_7.toNatClampNeg) v80_5.toInt; omega) (by omega) (by omega) (by first | exact ms_su hx94_3 ty44 (by decide) | omega) hP hS (lv_sub hl [0, 1, 2, 3, 4, 5, 6, 7] rfl)
                exact hL94 (21) (0 : Int32) (0 : Int32) _ _ _ (iv_w ln_0 (by decide)) (iv_w ln_0 (by decide)) (show (0 : Int32).toInt = 0 from rfl) (by have z9 := ln_0; omega) (by have z9 := ln_0; omega) (by have h9 := ln_0; first | exact ms_bu h9.1 (by decide) | omega) hP hS (lv_sub hl [0, 1, 2, 3, 4, 5, 6, 7] rfl)
          exact hL80 (1502) (500 : Int32) (0 : Int32) (-1 : Int32) _ _ _ (iv_w ln_500 (by decide)) (iv_w ln_0 (by decide)) (iv_w ln_m1 (by decide)) (FtI.start (by have z9 := ln_500; omega) (by have z9 := ln_m1; omega)) (by have z9 := ln_500; omega) (by have h9 := ln_500; first | exact ms_bu h9.1 (by decide) | omega) hP hS (lv_sub hl [0, 1, 2, 3, 4, 5] rfl)
        · --65 not
          have t45 : v4_2.toInt = 0 := ti_eq c6
          have i46 : 0 ≤ v4_2.toInt ∧ v4_2.toInt ≤ 0 := iv_eqi t45 hv4_2 (il_ 0) (by decide)
          refine lv_iconst (v := -1) hx hb dX13_fitOf_68 (by decide) ?_
          rw [hQ]
          exact W.iret (v := (-1)) hx hb hr (fun t ht hW => ⟨⟨(-1), E4_, rfl, ⟨hI, hKp, ⟨(iv_w ln_m1 (by decide)), (by have h9 := hx4_0; rw [show v4_3.toNatClampNeg = (xi (E 0) 46).toNatClampNeg by rw [tn_, tn_]; omega] at h9; exact ⟨fun _ => rfl, fun q9 => by exfalso; obtain ⟨r9, h7, h8⟩ := q9; exact (LsR.some _ _ _ _ h9).2.mp (by rw [tn_]; omega) r9 h7 h8⟩)⟩⟩, by show va_P (dC, dI) vwCl (WX 72 ad E4_) t.heap; rw [ht]; exact hP⟩, hS.F ht⟩) hS.2.2 dX13_fitOf_69
      · --9 not
        have t47 : v4_3.toInt < (xi (E 0) 46).toInt := ti_nle c4
        have i48 : 0 ≤ v4_3.toInt ∧ v4_3.toInt ≤ 19 := iv_lt_l t47 hv4_3 i3 (by decide)
        have i49 : 1 ≤ (xi (E 0) 46).toInt ∧ (xi (E 0) 46).toInt ≤ 20 := iv_lt_r t47 hv4_3 i3 (by decide)
        refine lv_aload_n hx hb dX13_fitOf_12 rfl (lv_at hl 2 rfl) ?_
        refine lv_iload_n hx hb dX13_fitOf_13 rfl (lv_at hl 0 rfl) ?_
        refine lv_iload_n hx hb dX13_fitOf_14 rfl (lv_at hl 3 rfl) ?_
        refine th_i (va_runV (As := [.int v4_3, .int a0]) (rest := []) ⟨hx, hb, hml, hown, hts⟩ (q_middleOfM l dC dI cT ad E4_ H.size v4_3 a0 hI i48 hh0 (by exact hh1.cg (fun j9 => hKp.ei 8 j9 rfl) (fun j9 => hKp.ei 9 j9 rfl) (hKp.ei 0 17 rfl))) (cwV 2 hts (gi_V (in_31 _ (zs16 (zs4 (zs0)))) (in_31 _ (zs16 (zs4 (zs1 (zs0))))) (in_31 _ (zs16 (zs4 (zs1 (zs1 (zs0)))))) (in_24 _ (zs4 (zs4 (zs4 (zs1 (zs1 (zs1 (zs0)))))))) (in_31 _ (zs16 (zs4 (zs1 (zs1 (zs1 (zs0)))))))) rfl rfl rfl ⟨rfl, hz_yX13_middleOf_2⟩ ⟨Nat.le_of_ble_eq_true rfl, Nat.le_of_ble_eq_true rfl⟩) ⟨HW_bl, va_recv hK hP (ci := 14) (q0 := 0) rfl (hI.ob 0 (Nat.le_of_ble_eq_true rfl) rfl), (HW_wi hP hK (WX_D hD) hS hA hEV)⟩ rfl rfl hl.1 rfl (lv_room (Nat.le_of_ble_eq_true rfl)) dX13_fitOf_15 ⟨Nat.le_of_ble_eq_true rfl, Nat.le_of_ble_eq_true rfl⟩) (WX_D hD) hS hA (fun r50 E51 H locs hw hP hS => ?_)
        obtain ⟨hI, kq52, hw⟩ := hw
        have hKb := hKp
        have hKp := hKp.tr kq52 (wl_sub rfl rfl)
        have f53 := hw
        have i54 : 0 ≤ (xi (E 0) 1).toInt ∧ (xi (E 0) 1).toInt ≤ 400 := (show 0 ≤ (xi (E 0) 1).toInt ∧ (xi (E 0) 1).toInt ≤ 400 from hI0.iv 0 (Nat.le_of_ble_eq_true rfl) rfl (Nat.le_of_ble_eq_true rfl) rfl)
        have i55 : 0 ≤ (xi (E 0) 8).toInt ∧ (xi (E 0) 8).toInt ≤ 16 := (show 0 ≤ (xi (E 0) 8).toInt ∧ (xi (E 0) 8).toInt ≤ 16 from hI0.iv 0 (Nat.le_of_ble_eq_true rfl) rfl (Nat.le_of_ble_eq_true rfl) rfl)
        try rw [hKb.ei 0 1 rfl] at f53
        try rw [hKb.ei 0 8 rfl] at f53
        have k57 : KdN E E4_ := KdN.of hKb rfl rfl rfl rfl rfl
        have k56 : MdM E a0 (xi (E 0) 1) v4_3.toNatClampNeg r50 := by unfold MdM; rw [nI_tn (show 0 ≤ v4_3.toInt by omega)]; exact MdV_kd k57 f53
        have k58 := MdM_in hI0 k56
        refine lv_istore (lv' := [(4, .int r50), (3, .int v4_3), (2, .int v4_2), (0, .ref (ad 0)), (1, .int a0)]) hx hb dX13_fitOf_18 hl (by decide) rfl (fun ls hl => ?_)
        refine lv_iload hx hb dX13_fitOf_20 (lv_at hl 0 rfl) ?_
        refine lv_ldcw hx hb hown (hts _ (vA_in _ _ (in_27 _ (zs16 (zs4 (zs1 (zs0))))))) dX13_fitOf_22 ?_
        refine lv_icmp_ne (tgt := 31) hx hb dX13_fitOf_25 (by decide) (fun c59 => ?_) (fun c59 => ?_)
        · --25 taken
          have t60 : ¬ r50.toInt = -1000000000 := ti_ne c59
          have i61 : 0 ≤ v4_2.toInt ∧ v4_2.toInt ≤ 19 := by omega
          have i62 : 0 ≤ r50.toInt ∧ r50.toInt ≤ 400000 := by omega
          refine lv_aload_n hx hb dX13_fitOf_31 rfl (lv_at hl 3 rfl) ?_
          refine th_get (ci := 14) (C := RX13) (T := TX13) (N := 97) (v := .ref (ad 67)) hx hb hts hinX13 hown hK hP hI 0 (Nat.le_of_ble_eq_true rfl) rfl rfl 91 (Nat.le_of_ble_eq_true rfl) (hts _ (vA_in _ _ (in_31 _ (zs16 (zs1 (zs1 (zs0))))))) (fun _ h9 => h9) (hI.fr 0 (Nat.le_of_ble_eq_true rfl) rfl (Nat.le_of_ble_eq_true rfl) 67 rfl) dX13_fitOf_32 ?_
          refine lv_iload_n hx hb dX13_fitOf_35 rfl (lv_at hl 2 rfl) ?_
          refine lv_aload_n hx hb dX13_fitOf_36 rfl (lv_at hl 3 rfl) ?_
          refine lv_iload_n hx hb dX13_fitOf_37 rfl (lv_at hl 1 rfl) ?_
          refine lv_iload_n hx hb dX13_fitOf_38 rfl (lv_at hl 4 rfl) ?_
          refine lv_aload_n hx hb dX13_fitOf_39 rfl (lv_at hl 3 rfl) ?_
          refine th_get (ci := 14) (C := RX13) (T := TX13) (N := 97) (v := .int (xi (E 0) 1)) hx hb hts hinX13 hown hK hP hI 0 (Nat.le_of_ble_eq_true rfl) rfl rfl 1 (Nat.le_of_ble_eq_true rfl) (hts _ (vA_in _ _ (in_24 _ (zs16 (zs4 (zs4 (zs1 (zs1 (zs1 (zs0)))))))))) (fun _ h9 => h9) (th_v0 hKp hI0 0 (Nat.le_of_ble_eq_true rfl) rfl (Nat.le_of_ble_eq_true rfl) rfl rfl) dX13_fitOf_40 ?_
          refine th_ri (va_runV (As := [.int v4_3, .int a0, .int (xi (E 0) 1)]) (rest := [.int v4_2, .ref (ad 67)]) ⟨hx, hb, hml, hown, hts⟩ (q_secondsOfM l dC dI cT ad E51 H.size v4_3 a0 (xi (E 0) 1) hI (by rw [(KdN.of hKp rfl rfl rfl rfl rfl).lr]; exact CdM_0 (by have h9 := MdM_ok k56 (by omega); rw [nI_tn (show 0 ≤ v4_3.toInt by omega)] at h9; exact h9))) (cwV 3 hts (gi_V (in_28 _ (zs16 (zs1 (zs0)))) (in_28 _ (zs16 (zs1 (zs1 (zs0))))) (in_28 _ (zs16 (zs1 (zs1 (zs1 (zs0)))))) (in_24 _ (zs4 (zs4 (zs4 (zs1 (zs1 (zs1 (zs0)))))))) (in_28 _ (zs16 (zs4 (zs0))))) rfl rfl rfl ⟨rfl, hz_yX13_secondsOf_3⟩ ⟨Nat.le_of_ble_eq_true rfl, Nat.le_of_ble_eq_true rfl⟩) ⟨HW_bl, va_recv hK hP (ci := 14) (q0 := 0) rfl (hI.ob 0 (Nat.le_of_ble_eq_true rfl) rfl), (HW_wi hP hK (WX_D hD) hS hA hEV)⟩ rfl rfl hl.1 rfl (lv_room (Nat.le_of_ble_eq_true rfl)) dX13_fitOf_43 ⟨Nat.le_of_ble_eq_true rfl, Nat.le_of_ble_eq_true rfl⟩) hS hP (fun r63 H locs hw hP hS => ?_)
          obtain ⟨f64, f65⟩ := hw
          have i66 : 0 ≤ (xi (E 0) 47).toInt ∧ (xi (E 0) 47).toInt ≤ 300 := (show 0 ≤ (xi (E 0) 47).toInt ∧ (xi (E 0) 47).toInt ≤ 300 from hI0.iv 0 (Nat.le_of_ble_eq_true rfl) rfl (Nat.le_of_ble_eq_true rfl) rfl)
          have k68 : KdN E E51 := KdN.of hKp rfl rfl rfl rfl rfl
          have k67 : r63 = xi (E 27) (lRM E v4_3 a0 (xi (E 0) 1)).toNatClampNeg := by have h9 := f65; rw [k68.rw_ 27 (by decide), k68.lr] at h9; exact h9
          have n69 : vp_in v4_2 20 := (iv_in (n := 20) i61 (by decide))
          refine th_iast hx hb hK hP (WX_D hD) hS hI 67 (Nat.le_of_ble_eq_true rfl) rfl rfl n69 (okI rfl f64) dX13_fitOf_46 (fun H locs E70 pw71 hI hP hS => ?_)
          have hKp := hKp.pw pw71 rfl
          obtain ⟨g72, eg72⟩ : ∃ z : Nat → Int32, z = upd g4_67 v4_2.toNatClampNeg r63 := ⟨_, rfl⟩
          have hg72 : xi (E70 67) = g72 := by rw [pw71.eu, ((kq52.ef 67 (fun _ => rfl)).trans hr4_67), eg72]
          refine lv_aload_n hx hb dX13_fitOf_47 rfl (lv_at hl 3 rfl) ?_
          refine th_get (ci := 14) (C := RX13) (T := TX13) (N := 97) (v := .ref (ad 68)) hx hb hts hinX13 hown hK hP hI 0 (Nat.le_of_ble_eq_true rfl) rfl rfl 92 (Nat.le_of_ble_eq_true rfl) (hts _ (vA_in _ _ (in_31 _ (zs16 (zs1 (zs1 (zs1 (zs0)))))))) (fun _ h9 => h9) (hI.fr 0 (Nat.le_of_ble_eq_true rfl) rfl (Nat.le_of_ble_eq_true rfl) 68 rfl) dX13_fitOf_48 ?_
          refine lv_iload_n hx hb dX13_fitOf_51 rfl (lv_at hl 2 rfl) ?_
          refine lv_iload hx hb dX13_fitOf_52 (lv_at hl 0 rfl) ?_
          have n73 : vp_in v4_2 20 := (iv_in (n := 20) i61 (by decide))
          refine th_iast hx hb hK hP (WX_D hD) hS hI 68 (Nat.le_of_ble_eq_true rfl) rfl rfl n73 (okI rfl (iv_w i62 (by decide))) dX13_fitOf_54 (fun H locs E74 pw75 hI hP hS => ?_)
          have hKp := hKp.pw pw75 rfl
          obtain ⟨g76, eg76⟩ : ∃ z : Nat → Int32, z = upd g4_68 v4_2.toNatClampNeg r50 := ⟨_, rfl⟩
          have hg76 : xi (E74 68) = g76 := by rw [pw75.eu, ((pw71.ef 68 (Nat.ne_of_beq_eq_false rfl)).trans ((kq52.ef 68 (fun _ => rfl)).trans hr4_68)), eg76]
          obtain ⟨y77, ey77⟩ : ∃ y : Int32, y = v4_2 + (1 : Int32) := ⟨_, rfl⟩
          obtain ⟨ty77, iy77⟩ := ti_add (e := 1) (f := 20) i61 ln_1 ey77 (by decide)
          have ty77 : y77.toInt = v4_2.toInt + 1 := ty77
          have iy77 : 1 ≤ y77.toInt ∧ y77.toInt ≤ 20 := iy77
          refine lv_iinc (v := y77) (lv' := [(2, .int y77), (4, .int r50), (3, .int v4_3), (0, .ref (ad 0)), (1, .int a0)]) hx hb dX13_fitOf_55 hl (k := 2) rfl (by rw [ey77]; rfl) (by decide) rfl (fun ls hl => ?_)
          obtain ⟨y78, ey78⟩ : ∃ y : Int32, y = v4_3 + (1 : Int32) := ⟨_, rfl⟩
          obtain ⟨ty78, iy78⟩ := ti_add (e := 1) (f := 20) i48 ln_1 ey78 (by decide)
          have ty78 : y78.toInt = v4_3.toInt + 1 := ty78
          have iy78 : 1 ≤ y78.toInt ∧ y78.toInt ≤ 20 := iy78
          refine lv_iinc (v := y78) (lv' := [(3, .int y78), (2, .int y77), (4, .int r50), (0, .ref (ad 0)), (1, .int a0)]) hx hb dX13_fitOf_58 hl (k := 2) rfl (by rw [ey78]; rfl) (by decide) rfl (fun ls hl => ?_)
          refine lv_goto (tgt := 4) hx hb dX13_fitOf_61 (by decide) ?_
          exact ih4 g72 g76 y78 y77 E74 _ _ _ (iv_w iy78 (by decide)) (iv_w iy77 (by decide)) (hx4_0.yes ⟨_, k56, (by omega)⟩ eg72 eg76 rfl rfl ⟨k56, (by omega), (by rw [nI_tn (show 0 ≤ v4_3.toInt by omega)]; exact k67)⟩ (by rw [tn_ y77, tn_ v4_2]; omega) (by rw [tn_ y78, tn_ v4_3]; omega)) (by omega) (by omega) (by first | exact ms_su hx4_3 ty78 (by decide) | omega) hI hKp ((pw75.ef 67 (Nat.ne_of_beq_eq_false rfl)).trans hg72) hg76 hP hS (lv_sub hl [0, 1, 3, 4] rfl)
        · --25 not
          have t79 : r50.toInt = -1000000000 := ti_eq c59
          have i80 : -1000000000 ≤ r50.toInt ∧ r50.toInt ≤ -1000000000 := iv_eqi t79 (iv_all _) (il_ (-1000000000)) (by decide)
          refine lv_goto (tgt := 58) hx hb dX13_fitOf_28 (by decide) ?_
          obtain ⟨y81, ey81⟩ : ∃ y : Int32, y = v4_3 + (1 : Int32) := ⟨_, rfl⟩
          obtain ⟨ty81, iy81⟩ := ti_add (e := 1) (f := 20) i48 ln_1 ey81 (by decide)
          have ty81 : y81.toInt = v4_3.toInt + 1 := ty81
          have iy81 : 1 ≤ y81.toInt ∧ y81.toInt ≤ 20 := iy81
          refine lv_iinc (v := y81) (lv' := [(3, .int y81), (4, .int r50), (2, .int v4_2), (0, .ref (ad 0)), (1, .int a0)]) hx hb dX13_fitOf_58 hl (k := 1) rfl (by rw [ey81]; rfl) (by decide) rfl (fun ls hl => ?_)
          refine lv_goto (tgt := 4) hx hb dX13_fitOf_61 (by decide) ?_
          exact ih4 g4_67 g4_68 y81 v4_2 E51 _ _ _ (iv_w iy81 (by decide)) hv4_2 (hx4_0.no (fun q9 => by obtain ⟨x9, h8, h9⟩ := q9; rw [MdV.fn h8 k56] at h9; omega) (by rw [tn_ y81, tn_ v4_3]; omega)) (by omega) (by omega) (by first | exact ms_su hx4_3 ty81 (by decide) | omega) hI hKp ((kq52.ef 67 (fun _ => rfl)).trans hr4_67) ((kq52.ef 68 (fun _ => rfl)).trans hr4_68) hP hS (lv_sub hl [0, 2, 3, 4] rfl)
  exact hL4 (21) g1 g2 (0 : Int32) (0 : Int32) E _ _ _ (iv_w ln_0 (by decide)) (iv_w ln_0 (by decide)) (show LsR _ _ 0 0 _ _ from rfl) (by have z9 := ln_0; omega) (by have z9 := ln_0; omega) (by have h9 := ln_0; first | exact ms_bu h9.1 (by decide) | omega) hI hKp hg1 hg2 hP hS (lv_sub hl [0, 1, 2, 3] rfl)
def v_fitM : List Cond := .code yX13_fit cX13_fit 2 (some .int) :: vA
abbrev rm_fitM : Room := { frames := 75, cells := 0, slots := 0, locals := 3000 }
def w_fitM : Nat → Nat → Bool := wl [12, 66, 67, 68] [(0, 0), (0, 18), (0, 19), (0, 20), (0, 21), (0, 22), (0, 23), (0, 24), (0, 25), (0, 26)]
set_option maxHeartbeats 4000000 in
set_option maxRecDepth 100000 in
theorem q_fitM (l : Launch) (dC : Nat → ClassId) (dI : Nat → Nat → Nat) (cT : Nat → ClassId) (ad : Nat → Nat) (E : Nat → va_E) (sz : Nat) (a0 : Int32) (hI0 : IX cT shM spM 72 ad E) (hh0 : TXM E) : Met l yX13_fit v_fitM rm_fitM (va_Pc [.ref (ad 0), .int a0] (HW dC dI (TYM cT) 72 ad E sz)) (va_Qi (S := Nat → va_E) (fun r u => IX cT shM spM 72 ad u ∧ Kp w_fitM E u ∧ (((((0 ≤ a0.toInt ∧ a0.toInt < (xi (E 0) 8).toInt) → (FtR (fun r9 => ∃ x9 : Int32, MdM E a0 (xi (E 0) 1) r9 x9 ∧ ¬ x9.toInt = -1000000000) (fun v9 r9 x9 => ∃ s9 m9 : Int32, (MdM E a0 (xi (E 0) 1) r9 m9 ∧ ¬ m9.toInt = -1000000000 ∧ s9 = xi (E 27) (lRM E (nI r9) a0 (xi (E 0) 1)).toNatClampNeg) ∧ x9 = tFt s9 m9 v9) (xi (E 0) 46).toNatClampNeg r.toInt)) ∧ (¬ (0 ≤ a0.toInt ∧ a0.toInt < (xi (E 0) 8).toInt) → (r.toInt = -1)))))) (HB dC dI 72 ad) (va_A (WX 72 ad E) sz)) 0 0 (va_A (WX 72 ad E) sz) := by
  refine Met.ofW (cc := cX13_fit) (maxL := 2) (ret := (some .int)) (by decide) rfl ?_
  intro p e s m args below meth c s₁ B hml hv
  obtain ⟨hargs, hsz, hP, hK, hD0, hEV⟩ := hv
  subst hsz
  have hx := B.exec
  have hb := B.bytes
  have hr := B.returns
  have hts := atoms_spec (ws := v_fitM) B.pre
  have hown : s.vm.findClass RX13 = some m.cls := findClass_of_methodNamed B.named
  have hlocks := B.notSynchronized
  have hinX13 : ∀ w ∈ u_ws RX13 TX13 97, w ∈ v_fitM := fun w h => vA_in _ w (in_X13 w h)
  generalize hAe : va_A (WX 72 ad E) s.heap.size = A at hEV ⊢
  have hA : ∀ q : Nat, s.heap.size ≤ q → A q := fun q h => by rw [← hAe]; exact Or.inr h
  have hD : va_D A (WX 72 ad E) := by rw [← hAe]; exact hD0.self
  have hS : va_S A s.heap s.heap [] := va_S.rf
  have hI := hI0
  have hKp : Kp w_fitM E E := Kp.rf
  have hl := lv_entry ([.ref (ad 0), .int a0]) (n := 2) (Nat.le_of_ble_eq_true rfl)
  obtain ⟨Q, hQ⟩ : ∃ Q, Q = MQ below (va_Qi (S := Nat → va_E) (fun r u => IX cT shM spM 72 ad u ∧ Kp w_fitM E u ∧ (((((0 ≤ a0.toInt ∧ a0.toInt < (xi (E 0) 8).toInt) → (FtR (fun r9 => ∃ x9 : Int32, MdM E a0 (xi (E 0) 1) r9 x9 ∧ ¬ x9.toInt = -1000000000) (fun v9 r9 x9 => ∃ s9 m9 : Int32, (MdM E a0 (xi (E 0) 1) r9 m9 ∧ ¬ m9.toInt = -1000000000 ∧ s9 = xi (E 27) (lRM E (nI r9) a0 (xi (E 0) 1)).toNatClampNeg) ∧ x9 = tFt s9 m9 v9) (xi (E 0) 46).toNatClampNeg r.toInt)) ∧ (¬ (0 ≤ a0.toInt ∧ a0.toInt < (xi (E 0) 8).toInt) → (r.toInt = -1)))))) (HB dC dI 72 ad) (A)) args s 0 0 (A) := ⟨_, rfl⟩
  rw [← hQ, show entryFrame m args 2 = _ from (congrArg (fun z => entryFrame m z 2) hargs).trans (lg_entry_eq _ _ _)]
  generalize (lg_sl ([.ref (ad 0), .int a0]) ++ List.replicate (2 - (lg_sl ([.ref (ad 0), .int a0])).length) Slot.unset).toArray = ls at hl ⊢
  have hl : lv_has ls 2 [(0, .ref (ad 0)), (1, .int a0)] := hl
  refine lv_aload_n hx hb dX13_fit_0 rfl (lv_at hl 0 rfl) ?_
  refine lv_iconst (v := 0) hx hb dX13_fit_1 (by decide) ?_
  refine th_put (ci := 14) (C := RX13) (T := TX13) (N := 97) (v := .int 0) (ty := .int) hx hb hts hinX13 tyX13 tyX13_ok nmX13 hown hK hP (WX_D hD) hS hI 0 (Nat.le_of_ble_eq_true rfl) rfl rfl 0 (Nat.le_of_ble_eq_true rfl) (hts _ (vA_in _ _ (in_24 _ (zs4 (zs4 (zs1 (zs1 (zs0)))))))) (fun _ h9 => h9) rfl (by decide +kernel) rfl rfl (okI rfl (iv_w ln_0 (by decide))) dX13_fit_2 (fun H locs E1 pw2 hI hP hS => ?_)
  have hKp := hKp.pw pw2 rfl
  refine lv_aload_n hx hb dX13_fit_5 rfl (lv_at hl 0 rfl) ?_
  refine lv_iload_n hx hb dX13_fit_6 rfl (lv_at hl 1 rfl) ?_
  refine th_ri (va_runV (As := [.int a0]) (rest := []) ⟨hx, hb, hml, hown, hts⟩ (q_isBoat l dC dI cT ad E1 H.size a0 hI) (cwV 1 hts (gi_V (in_24 _ (zs16 (zs1 (zs1 (zs0))))) (in_24 _ (zs16 (zs1 (zs1 (zs1 (zs0)))))) (in_24 _ (zs16 (zs4 (zs0)))) (in_24 _ (zs4 (zs4 (zs4 (zs1 (zs1 (zs1 (zs0)))))))) (in_24 _ (zs16 (zs4 (zs1 (zs0)))))) rfl rfl rfl ⟨rfl, hz_yX13_isBoat_1⟩ ⟨Nat.le_of_ble_eq_true rfl, Nat.le_of_ble_eq_true rfl⟩) ⟨HW_bl, va_recv hK hP (ci := 14) (q0 := 0) rfl (hI.ob 0 (Nat.le_of_ble_eq_true rfl) rfl), (HW_wi hP hK (WX_D hD) hS hA hEV)⟩ rfl rfl hl.1 rfl (lv_room (Nat.le_of_ble_eq_true rfl)) dX13_fit_7 ⟨Nat.le_of_ble_eq_true rfl, Nat.le_of_ble_eq_true rfl⟩) hS hP (fun r3 H locs hw hP hS => ?_)
  rcases hw with hw | hw
  · -- isBoat, case 0
    obtain ⟨rfl, f4, f5⟩ := hw
    have i6 : 0 ≤ (xi (E 0) 8).toInt ∧ (xi (E 0) 8).toInt ≤ 16 := (show 0 ≤ (xi (E 0) 8).toInt ∧ (xi (E 0) 8).toInt ≤ 16 from hI0.iv 0 (Nat.le_of_ble_eq_true rfl) rfl (Nat.le_of_ble_eq_true rfl) rfl)
    try rw [hKp.ei 0 8 rfl] at f4
    refine lv_if_eq (tgt := 21) hx hb dX13_fit_10 (by decide) (fun c7 => ?_) (fun c7 => ?_)
    · --10 taken
      exact absurd c7 (by decide)
    · --10 not
      refine lv_aload_n hx hb dX13_fit_13 rfl (lv_at hl 0 rfl) ?_
      refine lv_iload_n hx hb dX13_fit_14 rfl (lv_at hl 1 rfl) ?_
      refine th_i (va_runV (As := [.int a0]) (rest := []) ⟨hx, hb, hml, hown, hts⟩ (q_fitOfM l dC dI cT ad E1 H.size a0 hI f5 (by exact hh0.cg (fun j9 => hKp.ei 8 j9 rfl) (fun j9 => hKp.ei 9 j9 rfl) (hKp.ei 0 17 rfl))) (cwV 1 hts (gi_V (in_31 _ (zs4 (zs4 (zs4 (zs1 (zs1 (zs0))))))) (in_31 _ (zs4 (zs4 (zs4 (zs1 (zs1 (zs1 (zs0)))))))) (in_31 _ (zs16 (zs0))) (in_24 _ (zs4 (zs4 (zs4 (zs1 (zs1 (zs1 (zs0)))))))) (in_31 _ (zs16 (zs1 (zs0))))) rfl rfl rfl ⟨rfl, hz_yX13_fitOf_1⟩ ⟨Nat.le_of_ble_eq_true rfl, Nat.le_of_ble_eq_true rfl⟩) ⟨HW_bl, va_recv hK hP (ci := 14) (q0 := 0) rfl (hI.ob 0 (Nat.le_of_ble_eq_true rfl) rfl), (HW_wi hP hK (WX_D hD) hS hA hEV)⟩ rfl rfl hl.1 rfl (lv_room (Nat.le_of_ble_eq_true rfl)) dX13_fit_15 ⟨Nat.le_of_ble_eq_true rfl, Nat.le_of_ble_eq_true rfl⟩) (WX_D hD) hS hA (fun r8 E9 H locs hw hP hS => ?_)
      obtain ⟨hI, kq10, hw⟩ := hw
      have hKb := hKp
      have hKp := hKp.tr kq10 (wl_sub rfl rfl)
      obtain ⟨f11, f12⟩ := hw
      have i13 : 0 ≤ (xi (E 0) 1).toInt ∧ (xi (E 0) 1).toInt ≤ 400 := (show 0 ≤ (xi (E 0) 1).toInt ∧ (xi (E 0) 1).toInt ≤ 400 from hI0.iv 0 (Nat.le_of_ble_eq_true rfl) rfl (Nat.le_of_ble_eq_true rfl) rfl)
      have i14 : 0 ≤ (xi (E 0) 46).toInt ∧ (xi (E 0) 46).toInt ≤ 20 := (show 0 ≤ (xi (E 0) 46).toInt ∧ (xi (E 0) 46).toInt ≤ 20 from hI0.iv 0 (Nat.le_of_ble_eq_true rfl) rfl (Nat.le_of_ble_eq_true rfl) rfl)
      try rw [hKb.ei 0 1 rfl] at f12
      try rw [hKb.ei 0 46 rfl] at f12
      have k15 : FtR (fun r9 => ∃ x9 : Int32, MdM E a0 (xi (E 0) 1) r9 x9 ∧ ¬ x9.toInt = -1000000000) (fun v9 r9 x9 => ∃ s9 m9 : Int32, (MdM E a0 (xi (E 0) 1) r9 m9 ∧ ¬ m9.toInt = -1000000000 ∧ s9 = xi (E 27) (lRM E (nI r9) a0 (xi (E 0) 1)).toNatClampNeg) ∧ x9 = tFt s9 m9 v9) (xi (E 0) 46).toNatClampNeg r8.toInt := FtR_kd (KdN.of hKb rfl rfl rfl rfl rfl) (hKb.ei 0 8 rfl) f12
      refine lv_goto (tgt := 22) hx hb dX13_fit_18 (by decide) ?_
      rw [hQ]
      exact W.iret (v := r8) hx hb hr (fun t ht hW => ⟨⟨r8, E9, rfl, ⟨hI, hKp, ⟨fun _ => k15, fun q9 => by exfalso; omega⟩⟩, by show va_P (dC, dI) vwCl (WX 72 ad E9) t.heap; rw [ht]; exact hP⟩, hS.F ht⟩) hS.2.2 dX13_fit_22
  · -- isBoat, case 1
    obtain ⟨rfl, f16⟩ := hw
    have i17 : 0 ≤ (xi (E 0) 8).toInt ∧ (xi (E 0) 8).toInt ≤ 16 := (show 0 ≤ (xi (E 0) 8).toInt ∧ (xi (E 0) 8).toInt ≤ 16 from hI0.iv 0 (Nat.le_of_ble_eq_true rfl) rfl (Nat.le_of_ble_eq_true rfl) rfl)
    try rw [hKp.ei 0 8 rfl] at f16
    refine lv_if_eq (tgt := 21) hx hb dX13_fit_10 (by decide) (fun c18 => ?_) (fun c18 => ?_)
    · --10 taken
      refine lv_iconst (v := -1) hx hb dX13_fit_21 (by decide) ?_
      rw [hQ]
      exact W.iret (v := (-1)) hx hb hr (fun t ht hW => ⟨⟨(-1), E1, rfl, ⟨hI, hKp, ⟨fun q9 => by exfalso; omega, fun _ => rfl⟩⟩, by show va_P (dC, dI) vwCl (WX 72 ad E1) t.heap; rw [ht]; exact hP⟩, hS.F ht⟩) hS.2.2 dX13_fit_22
    · --10 not
      exact absurd c18 (by decide)
section
/-! ===== what counts, by what was told ===== -/
def ctC (cf : Nat → Nat) (E : Nat → va_E) (b : Nat) (q : Int32) (r : Nat) : Prop := ∃ x : Int32, MdC cf E (nI r) q b x ∧ ¬ x.toInt = -1000000000
def scC (cf : Nat → Nat) (E : Nat → va_E) (b : Nat) (q : Int32) (r : Nat) : Int32 := xi (E (64 * ((lRC E (nI r) (nI b) q (cf 3)).toNatClampNeg + 1) + 12)) 3
def ftC (cf : Nat → Nat) (E : Nat → va_E) (b : Nat) (q : Int32) (v : Int) (r : Nat) (x : Int) : Prop := ∃ m : Int32, MdC cf E (nI r) q b m ∧ ¬ m.toInt = -1000000000 ∧ x = tFt (scC cf E b q r) m v
theorem MdO_iff {cf : Nat → Nat} {E u : Nat → va_E} {q : Int32} {b r : Nat} {x : Int32} (k : K64 E u) (hb : b < 16) (hr : r < 20) (l : ∀ o, o < 16 → LdB cf E u (nI r) q o) : MdO u r b x ↔ MdC cf E (nI r) q b x := by
  have hn : (nI r).toNatClampNeg = r := by
    have h9 : (nI r).toInt = (r : Int) := nI_toInt (by omega)
    rw [tn_, h9]
    omega
  constructor
  · intro h
    rw [← hn] at h
    exact h.c k hb l
  · intro h
    have lf : ∀ o, o < 16 → ((xi (u 43) (16 * r + o)).toInt = 1 ↔ CdR cf E (nI r) q o 0) := fun o ho => by
      have h9 := (l o ho).1
      rw [hn] at h9
      exact h9
    have lt : ∀ o, o < 16 → CdR cf E (nI r) q o 0 → xi (u 46) (16 * r + o) = tmC cf E (nI r) q o := fun o ho z => by
      have h9 := ((l o ho).2 z).1
      rw [hn] at h9
      exact h9
    unfold MdO
    rw [rcS_k k]
    unfold MdC at h
    rw [hn] at h
    exact h.cg (and_congr Iff.rfl (lf b hb).symm) (fun i hi => (lf i hi).symm) (fun i hi z => (lt i hi z).symm)
theorem MdC_ok {cf : Nat → Nat} {E : Nat → va_E} {q : Int32} {b r : Nat} {x : Int32} (h : MdC cf E (nI r) q b x) (hx : ¬ x.toInt = -1000000000) : CdR cf E (nI r) q b 0 := Classical.byContradiction (fun z => hx (h.1 (fun w => z w.2)))
theorem FtR.cg {P P' : Nat → Prop} {F F' : Int → Nat → Int → Prop} {R : Nat} {f : Int} (h : FtR P F R f) (e : ∀ r, r < R → (P r ↔ P' r)) (t : ∀ v r, r < R → P r → ∀ x, F v r x → F' v r x) : FtR P' F' R f := by
  refine ⟨fun z => h.1 (fun r hr hp => z r hr ((e r hr).mp hp)), fun ⟨r, hr, hp⟩ => ?_⟩
  obtain ⟨S, s1, s2, s3, s4⟩ := h.2 ⟨r, hr, (e r hr).mpr hp⟩
  exact ⟨S, fun v h1 h2 => (s1 v h1 h2).cg R _ e (fun r hr hp x hx => t v r hr hp x hx), s2, s3, s4⟩
theorem FtR.c {cf : Nat → Nat} {E u : Nat → va_E} {q : Int32} {b : Nat} {f : Int} (h : FtR (ctO u b) (fun v9 r9 x9 => ∃ m9 : Int32, MdO u r9 b m9 ∧ x9 = tFt (xi (u 44) (16 * r9 + b)) m9 v9) (cf 2) f) (k : K64 E u) (hb : b < 16) (h20 : cf 2 ≤ 20) (l : ∀ r, r < cf 2 → ∀ o, o < 16 → LdB cf E u (nI r) q o) : FtR (ctC cf E b q) (ftC cf E b q) (cf 2) f := by
  refine h.cg (fun r hr => ?_) (fun v r hr hp x hx => ?_)
  · unfold ctO ctC
    exact ⟨fun ⟨x, h1, h2⟩ => ⟨x, (MdO_iff k hb (by omega) (l r hr)).mp h1, h2⟩, fun ⟨x, h1, h2⟩ => ⟨x, (MdO_iff k hb (by omega) (l r hr)).mpr h1, h2⟩⟩
  · obtain ⟨m, h1, h2⟩ := hx
    obtain ⟨y, y1, y2⟩ := hp
    have e : m = y := MdV.fn h1 y1
    subst e
    have c1 := (MdO_iff k hb (by omega) (l r hr)).mp h1
    have hn : (nI r).toNatClampNeg = r := by
      have h9 : (nI r).toInt = (r : Int) := nI_toInt (by omega)
      rw [tn_, h9]
      omega
    have h9 := ((l r hr b hb).2 (MdC_ok c1 y2)).2.2
    rw [hn] at h9
    refine ⟨m, c1, y2, ?_⟩
    rw [h2, h9]
    rfl

def v_u_fitX : List Cond := .code yX12_fit cX12_fit 2 (some .int) :: vA
abbrev rm_u_fitX : Room := { frames := 8, cells := 0, slots := 0, locals := 320 }
def w_u_fitX : Nat → Nat → Bool := wl [19, 20, 26, 27, 28, 29, 30, 43, 44, 45, 46, 47, 48, 49, 51] [(3, 6), (3, 7), (3, 8)]
set_option maxHeartbeats 4000000 in
set_option maxRecDepth 100000 in
theorem q_u_fitX (l : Launch) (dC : Nat → ClassId) (dI : Nat → Nat → Nat) (cT : Nat → ClassId) (cf : Nat → Nat) (hC : CF cf) (ad : Nat → Nat) (E : Nat → va_E) (sz : Nat) (a0 : Int32) (hI0 : IXL cT (shC cf) (spC cf) (LC cf) ad E) (hh0 : RulAll cf E) : Met l yX12_fit v_u_fitX rm_u_fitX (va_Pc [.ref (ad 0), .int a0] (HWL dC dI (TYC cT) cf ad E sz)) (va_Qi (S := Nat → va_E) (fun r u => IXL cT (shC cf) (spC cf) (LC cf) ad u ∧ Kp w_u_fitX E u ∧ (((((0 ≤ a0.toInt ∧ a0.toInt < (xi (E 1) 1).toInt) → (FtR (ctC cf E a0.toNatClampNeg (xi (E 1) 0)) (ftC cf E a0.toNatClampNeg (xi (E 1) 0)) (cf 2) r.toInt)) ∧ (¬ (0 ≤ a0.toInt ∧ a0.toInt < (xi (E 1) 1).toInt) → (r.toInt = -1)))))) (HBL dC dI (LC cf) ad) (va_A (WL (LC cf) ad E) sz)) 0 0 (va_A (WL (LC cf) ad E) sz) := by
  obtain ⟨⟨hc0, hc1, hc2, hc3, hc4, hc5⟩, hcr⟩ := id hC
  refine Met.ofW (cc := cX12_fit) (maxL := 2) (ret := (some .int)) (by decide) rfl ?_
  intro p e s m args below meth c s₁ B hml hv
  obtain ⟨hargs, hsz, hP, hK, hD0, hEV⟩ := hv
  subst hsz
  have hx := B.exec
  have hb := B.bytes
  have hr := B.returns
  have hts := atoms_spec (ws := v_u_fitX) B.pre
  have hown : s.vm.findClass RX12 = some m.cls := findClass_of_methodNamed B.named
  have hlocks := B.notSynchronized
  have hinX12 : ∀ w ∈ u_ws RX12 TX12 6, w ∈ v_u_fitX := fun w h => vA_in _ w (in_X12 w h)
  generalize hAe : va_A (WL (LC cf) ad E) s.heap.size = A at hEV ⊢
  have hA : ∀ q : Nat, s.heap.size ≤ q → A q := fun q h => by rw [← hAe]; exact Or.inr h
  have hD : va_D A (WL (LC cf) ad E) := by rw [← hAe]; exact hD0.self
  have hS : va_S A s.heap s.heap [] := va_S.rf
  have hI := hI0
  have hKp : Kp w_u_fitX E E := Kp.rf
  have hl := lv_entry ([.ref (ad 0), .int a0]) (n := 2) (Nat.le_of_ble_eq_true rfl)
  obtain ⟨Q, hQ⟩ : ∃ Q, Q = MQ below (va_Qi (S := Nat → va_E) (fun r u => IXL cT (shC cf) (spC cf) (LC cf) ad u ∧ Kp w_u_fitX E u ∧ (((((0 ≤ a0.toInt ∧ a0.toInt < (xi (E 1) 1).toInt) → (FtR (ctC cf E a0.toNatClampNeg (xi (E 1) 0)) (ftC cf E a0.toNatClampNeg (xi (E 1) 0)) (cf 2) r.toInt)) ∧ (¬ (0 ≤ a0.toInt ∧ a0.toInt < (xi (E 1) 1).toInt) → (r.toInt = -1)))))) (HBL dC dI (LC cf) ad) (A)) args s 0 0 (A) := ⟨_, rfl⟩
  rw [← hQ, show entryFrame m args 2 = _ from (congrArg (fun z => entryFrame m z 2) hargs).trans (lg_entry_eq _ _ _)]
  generalize (lg_sl ([.ref (ad 0), .int a0]) ++ List.replicate (2 - (lg_sl ([.ref (ad 0), .int a0])).length) Slot.unset).toArray = ls at hl ⊢
  have hl : lv_has ls 2 [(0, .ref (ad 0)), (1, .int a0)] := hl
  refine lv_aload_n hx hb dX12_fit_0 rfl (lv_at hl 0 rfl) ?_
  refine th_getL (ci := 13) (C := RX12) (T := TX12) (N := 6) (v := .ref (ad 1)) hx hb hts hinX12 hown hK hP hI 0 (mF 0 rfl) rfl rfl 0 (Nat.le_of_ble_eq_true rfl) (hts _ (vA_in _ _ (in_10 _ (zs16 (zs1 (zs0)))))) (fun _ h9 => h9) (hI.fr 0 (mF 0 rfl) rfl (Nat.le_of_ble_eq_true rfl) 1 rfl) dX12_fit_1 ?_
  refine lv_iload_n hx hb dX12_fit_4 rfl (lv_at hl 1 rfl) ?_
  refine th_riL (va_runV (As := [.int a0]) (rest := []) ⟨hx, hb, hml, hown, hts⟩ (q_isBoatC l dC dI cT cf hC ad E s.heap.size a0 hI) (cwV 1 hts (gi_V (in_10 _ (zs16 (zs4 (zs4 (zs1 (zs1 (zs1 (zs0)))))))) (in_6 _ (zs4 (zs4 (zs4 (zs0))))) (in_6 _ (zs4 (zs4 (zs4 (zs1 (zs0)))))) (in_5 _ (zs4 (zs1 (zs1 (zs0))))) (in_5 _ (zs16 (zs16 (zs4 (zs1 (zs1 (zs0)))))))) rfl rfl rfl ⟨rfl, hz_yX0_isBoat_1⟩ ⟨Nat.le_of_ble_eq_true rfl, Nat.le_of_ble_eq_true rfl⟩) ⟨HWL_bl, va_recv hK hP (ci := 1) (q0 := posL 1 (LC cf)) rfl (hI.ob 1 (mF 1 rfl) rfl), (HWL_wi hP hK (WL_D hD) hS hA hEV)⟩ rfl rfl hl.1 rfl (lv_room (Nat.le_of_ble_eq_true rfl)) dX12_fit_5 ⟨Nat.le_of_ble_eq_true rfl, Nat.le_of_ble_eq_true rfl⟩) hS hP (fun r1 H locs hw hP hS => ?_)
  rcases hw with hw | hw
  · -- isBoatC, case 0
    obtain ⟨rfl, f2, f3⟩ := hw
    have i4 : 0 ≤ (xi (E 1) 1).toInt ∧ (xi (E 1) 1).toInt ≤ 16 := hI0.iv 1 (mF 1 rfl) rfl (Nat.le_of_ble_eq_true rfl) rfl
    refine lv_if_ne (tgt := 13) hx hb dX12_fit_8 (by decide) (fun c5 => ?_) (fun c5 => ?_)
    · --8 taken
      refine lv_aload_n hx hb dX12_fit_13 rfl (lv_at hl 0 rfl) ?_
      refine th_getL (ci := 13) (C := RX12) (T := TX12) (N := 6) (v := .ref (ad 6)) hx hb hts hinX12 hown hK hP hI 0 (mF 0 rfl) rfl rfl 5 (Nat.le_of_ble_eq_true rfl) (hts _ (vA_in _ _ (in_11 _ (zs4 (zs4 (zs0)))))) (fun _ h9 => h9) (hI.fr 0 (mF 0 rfl) rfl (Nat.le_of_ble_eq_true rfl) 6 rfl) dX12_fit_14 ?_
      refine th_vL (va_runV (As := []) (rest := []) ⟨hx, hb, hml, hown, hts⟩ (q_loadAllX l dC dI cT cf hC ad E H.size hI (by exact hh0)) (cwV 0 hts (gi_V (in_11 _ (zs4 (zs4 (zs4 (zs0))))) (in_11 _ (zs4 (zs4 (zs4 (zs1 (zs0)))))) (in_11 _ (zs4 (zs4 (zs4 (zs1 (zs1 (zs0))))))) (in_11 _ (zs4 (zs4 (zs4 (zs1 (zs1 (zs1 (zs0)))))))) (in_11 _ (zs16 (zs0)))) rfl rfl rfl ⟨rfl, hz_yX3_loadAll_0⟩ ⟨Nat.le_of_ble_eq_true rfl, Nat.le_of_ble_eq_true rfl⟩) ⟨HWL_bl, va_recv hK hP (ci := 4) (q0 := posL 6 (LC cf)) rfl (hI.ob 6 (mF 6 rfl) rfl), (HWL_wi hP hK (WL_D hD) hS hA hEV)⟩ rfl rfl hl.1 rfl (lv_room (Nat.le_of_ble_eq_true rfl)) dX12_fit_17 ⟨Nat.le_of_ble_eq_true rfl, Nat.le_of_ble_eq_true rfl⟩) (WL_D hD) hS hA (fun E7 H locs hw hP hS => ?_)
      obtain ⟨hI, kq8, hw⟩ := hw
      have hKb := hKp
      have hKp := hKp.tr kq8 (wl_sub rfl rfl)
      have f9 := hw
      have i10 : 0 ≤ (xi (E 1) 0).toInt ∧ (xi (E 1) 0).toInt ≤ 400 := hI0.iv 1 (mF 1 rfl) rfl (Nat.le_of_ble_eq_true rfl) rfl
      refine lv_aload_n hx hb dX12_fit_20 rfl (lv_at hl 0 rfl) ?_
      refine th_getL (ci := 13) (C := RX12) (T := TX12) (N := 6) (v := .ref (ad 6)) hx hb hts hinX12 hown hK hP hI 0 (mF 0 rfl) rfl rfl 5 (Nat.le_of_ble_eq_true rfl) (hts _ (vA_in _ _ (in_11 _ (zs4 (zs4 (zs0)))))) (fun _ h9 => h9) (hI.fr 0 (mF 0 rfl) rfl (Nat.le_of_ble_eq_true rfl) 6 rfl) dX12_fit_21 ?_
      refine lv_iload_n hx hb dX12_fit_24 rfl (lv_at hl 1 rfl) ?_
      refine th_iL (va_runV (As := [.int a0]) (rest := []) ⟨hx, hb, hml, hown, hts⟩ (q_fitOfX l dC dI cT cf hC ad E7 H.size a0 hI f3) (cwV 1 hts (gi_V (in_18 _ (zs16 (zs1 (zs1 (zs0))))) (in_17 _ (zs4 (zs1 (zs1 (zs1 (zs0)))))) (in_17 _ (zs4 (zs4 (zs0)))) (in_11 _ (zs4 (zs4 (zs4 (zs1 (zs1 (zs1 (zs0)))))))) (in_17 _ (zs4 (zs4 (zs1 (zs0)))))) rfl rfl rfl ⟨rfl, hz_yX3_fitOf_1⟩ ⟨Nat.le_of_ble_eq_true rfl, Nat.le_of_ble_eq_true rfl⟩) ⟨HWL_bl, va_recv hK hP (ci := 4) (q0 := posL 6 (LC cf)) rfl (hI.ob 6 (mF 6 rfl) rfl), (HWL_wi hP hK (WL_D hD) hS hA hEV)⟩ rfl rfl hl.1 rfl (lv_room (Nat.le_of_ble_eq_true rfl)) dX12_fit_25 ⟨Nat.le_of_ble_eq_true rfl, Nat.le_of_ble_eq_true rfl⟩) (WL_D hD) hS hA (fun r11 E12 H locs hw hP hS => ?_)
      obtain ⟨hI, kq13, hw⟩ := hw
      have hKb := hKp
      have hKp := hKp.tr kq13 (wl_sub rfl rfl)
      obtain ⟨f14, f15⟩ := hw
      rw [hQ]
      exact W.iret (v := r11) hx hb hr (fun t ht hW => ⟨⟨r11, E12, rfl, ⟨hI, hKp, ⟨fun _ => FtR.c f15 (K64.of hKb (fun o9 ho9 j9 => wl_p rfl rfl ho9)) (by rw [tn_]; omega) (by omega) f9, fun g9 => by exfalso; omega⟩⟩, by show va_P (dC, dI) vwCl (WL (LC cf) ad E12) t.heap; rw [ht]; exact hP⟩, hS.F ht⟩) hS.2.2 dX12_fit_28
    · --8 not
      exact absurd c5 (by decide)
  · -- isBoatC, case 1
    obtain ⟨rfl, f16⟩ := hw
    have i17 : 0 ≤ (xi (E 1) 1).toInt ∧ (xi (E 1) 1).toInt ≤ 16 := hI0.iv 1 (mF 1 rfl) rfl (Nat.le_of_ble_eq_true rfl) rfl
    refine lv_if_ne (tgt := 13) hx hb dX12_fit_8 (by decide) (fun c18 => ?_) (fun c18 => ?_)
    · --8 taken
      exact absurd c18 (by decide)
    · --8 not
      refine lv_iconst (v := -1) hx hb dX12_fit_11 (by decide) ?_
      rw [hQ]
      exact W.iret (v := (-1)) hx hb hr (fun t ht hW => ⟨⟨(-1), E, rfl, ⟨hI, hKp, ⟨fun g9 => by exfalso; omega, fun _ => rfl⟩⟩, by show va_P (dC, dI) vwCl (WL (LC cf) ad E) t.heap; rw [ht]; exact hP⟩, hS.F ht⟩) hS.2.2 dX12_fit_12
end
section
/-! ===== SUSPECTED (pure) ===== -/
theorem l_add {a b x : Int64} (e : x = a + b) (h : -4611686018427387904 ≤ a.toInt + b.toInt) (h1 : a.toInt + b.toInt ≤ 4611686018427387904) : x.toInt = a.toInt + b.toInt := by
  rw [e, Int64.toInt_add]
  exact tl_bm h h1
theorem l_sub {a b x : Int64} (e : x = a - b) (h : -4611686018427387904 ≤ a.toInt - b.toInt) (h1 : a.toInt - b.toInt ≤ 4611686018427387904) : x.toInt = a.toInt - b.toInt := by
  rw [e, Int64.toInt_sub]
  exact tl_bm h h1
theorem l_mul {a b x : Int64} (e : x = a * b) (h : -4611686018427387904 ≤ a.toInt * b.toInt) (h1 : a.toInt * b.toInt ≤ 4611686018427387904) : x.toInt = a.toInt * b.toInt := by
  rw [e, Int64.toInt_mul]
  exact tl_bm h h1
theorem l_div {a b x : Int64} (e : x = a / b) (h : 0 ≤ a.toInt ∧ a.toInt ≤ 4611686018427387904) (hb : 0 < b.toInt) : x.toInt = a.toInt / b.toInt := by
  have h1 : 0 ≤ a.toInt / b.toInt := Int.ediv_nonneg h.1 (by omega)
  have h2 : a.toInt / b.toInt ≤ a.toInt := Int.ediv_le_self _ h.1
  rw [e, Int64.toInt_div, Int.tdiv_eq_ediv_of_nonneg h.1]
  exact tl_bm (by omega) (by omega)
theorem l_i {x : Int64} {r : Int32} (e : r = x.toInt32) (h : -2147483648 ≤ x.toInt ∧ x.toInt ≤ 2147483647) : r.toInt = x.toInt := by
  rw [e, Int64.toInt_toInt32, ti_bm (by omega) (by omega)]
/-- a mean, cut -/
theorem mn_of {s D q : Int64} {d r : Int32} (ed : D = d.toInt64) (eq : q = s / D) (er : r = q.toInt32) (hs : 0 ≤ s.toInt ∧ s.toInt ≤ 400000000 * d.toInt) (hd : 0 < d.toInt ∧ d.toInt ≤ 20) : r.toInt = s.toInt / d.toInt ∧ 0 ≤ r.toInt ∧ r.toInt ≤ 400000000 := by
  have hD : D.toInt = d.toInt := by rw [ed, l_of]
  have h1 : q.toInt = s.toInt / d.toInt := by
    rw [← hD]
    exact l_div eq ⟨hs.1, by omega⟩ (by omega)
  have h2 : 0 ≤ s.toInt / d.toInt := Int.ediv_nonneg hs.1 (by omega)
  have h3 : s.toInt / d.toInt ≤ 400000000 := Int.ediv_le_of_le_mul hd.1 hs.2
  have h4 : r.toInt = q.toInt := l_i er (by omega)
  omega
def mnG (g : Nat → Int) (a n : Nat) : Int := if a < n then sumF (fun i => g (a + i)) (n - a) / ((n - a : Nat) : Int) else 0
def jpG (g : Nat → Int) (k n : Nat) : Int := mnG g k n - mnG g 0 k
theorem mnG_cg {g g' : Nat → Int} {a n : Nat} (h : ∀ i, i < n → g i = g' i) : mnG g a n = mnG g' a n := by
  unfold mnG
  rw [sumF_cg (n - a) (fun i hi => h (a + i) (by omega))]
theorem jpG_cg {g g' : Nat → Int} {k n : Nat} (h : ∀ i, i < n → g i = g' i) (hk : k ≤ n) : jpG g k n = jpG g' k n := by
  unfold jpG
  rw [mnG_cg h, mnG_cg (fun i hi => h i (by omega))]
/-- RATIO of a MIDDLE by a CORRECTED -/
def rtI (m t : Int32) : Int := 1000 * m.toInt / max 1 t.toInt
theorem rtI_in {m t : Int32} (h : 0 ≤ m.toInt ∧ m.toInt ≤ 400000) : 0 ≤ rtI m t ∧ rtI m t ≤ 400000000 := by
  unfold rtI
  have h1 : 1 ≤ max 1 t.toInt := by omega
  have h2 : 0 ≤ 1000 * m.toInt / max 1 t.toInt := Int.ediv_nonneg (by omega) (by omega)
  have h3 : 1000 * m.toInt / max 1 t.toInt ≤ 1000 * m.toInt := Int.ediv_le_self _ (by omega)
  omega
/-- the first of those that are furthest from 0 -/
def BsF (J : Nat → Int) (hi f : Nat) : Prop := (2 ≤ f ∧ f < hi) ∧ (∀ j, 2 ≤ j → j < f → ab (J j) < ab (J f)) ∧ ∀ j, f ≤ j → j < hi → ab (J j) ≤ ab (J f)
theorem BsF.start {J : Nat → Int} {hi f : Nat} (h : hi = 3) (h2 : f = 2) : BsF J hi f := by
  subst h
  subst h2
  refine ⟨by omega, fun j h1 h2 => by omega, fun j h1 h2 => ?_⟩
  have e : j = 2 := by omega
  subst e
  exact Int.le_refl _
theorem BsF.no {J : Nat → Int} {hi hi' f : Nat} (h : BsF J hi f) (hn : ab (J hi) ≤ ab (J f)) (e : hi' = hi + 1) : BsF J hi' f := by
  subst e
  refine ⟨⟨h.1.1, by have := h.1.2; omega⟩, h.2.1, fun j h1 h2 => ?_⟩
  by_cases q : j = hi
  · subst q
    exact hn
  · exact h.2.2 j h1 (by omega)
theorem BsF.yes {J : Nat → Int} {hi hi' f : Nat} (h : BsF J hi f) (hy : ab (J f) < ab (J hi)) (e : hi' = hi + 1) : BsF J hi' hi := by
  subst e
  obtain ⟨h1, h2, h3⟩ := h
  refine ⟨⟨by omega, by omega⟩, fun j q1 q2 => ?_, fun j q1 q2 => ?_⟩
  · by_cases q : j < f
    · have := h2 j q1 q
      omega
    · have := h3 j (by omega) q2
      omega
  · have e : j = hi := by omega
    subst e
    exact Int.le_refl _
theorem BsF.un {J J' : Nat → Int} {hi f f' : Nat} (h : BsF J hi f) (h' : BsF J' hi f') (e : ∀ j, j < hi → J j = J' j) : f = f' := by
  obtain ⟨⟨a1, a2⟩, a3, a4⟩ := h
  obtain ⟨⟨b1, b2⟩, b3, b4⟩ := h'
  by_cases c : f < f'
  · have k1 := b3 f a1 c
    have k2 := a4 f' (by omega) b2
    rw [e f a2, e f' b2] at k2
    omega
  · by_cases c2 : f' < f
    · have k1 := a3 f' b1 c2
      have k2 := b4 f (by omega) a2
      rw [e f a2, e f' b2] at k1
      omega
    · omega
def SpR (P : Nat → Prop) (day : Nat → Int) (V : Nat → Int → Prop) (R : Nat) (what r : Int) : Prop := ∃ (n : Nat) (c : Nat → Nat) (g : Nat → Int), Enm P R c n ∧ Srt day c n ∧ (∀ i, i < n → V (c i) (g i)) ∧ (n < 4 → r = -1000000000) ∧ (4 ≤ n → ∃ f, BsF (fun k => jpG g k n) (n - 1) f ∧ r = if what = 0 then (c f : Int) else jpG g f n)
theorem Srt.cg {day day' : Nat → Int} {P : Nat → Prop} {R n : Nat} {c : Nat → Nat} (h : Srt day c n) (k : Enm P R c n) (e : ∀ r, r < R → day r = day' r) : Srt day' c n := fun i j hij hj => by
  have h9 := h i j hij hj
  unfold kLt at h9 ⊢
  rw [← e (c i) (k.1 i (by omega)).1, ← e (c j) (k.1 j hj).1]
  exact h9
theorem SpR.un {P P' : Nat → Prop} {day day' : Nat → Int} {V V' : Nat → Int → Prop} {R : Nat} {what r r' : Int} (h : SpR P day V R what r) (h' : SpR P' day' V' R what r') (e : ∀ r, r < R → (P r ↔ P' r)) (d : ∀ r, r < R → day r = day' r) (t : ∀ r, r < R → P r → ∀ x x', V r x → V' r x' → x = x') : r = r' := by
  obtain ⟨n, c, g, h1, h2, h3, h4, h5⟩ := h
  obtain ⟨n', c', g', k1, k2, k3, k4, k5⟩ := h'
  obtain ⟨en, ec⟩ := h1.un h2 k1 (k2.cg k1 (fun r hr => (d r hr).symm)) e
  subst en
  have eg : ∀ i, i < n → g i = g' i := fun i hi => by
    have h9 := k3 i hi
    rw [← ec i hi] at h9
    exact t (c i) (h1.1 i hi).1 (h1.1 i hi).2 _ _ (h3 i hi) h9
  by_cases q : n < 4
  · rw [h4 q, k4 q]
  · obtain ⟨f, f1, f2⟩ := h5 (by omega)
    obtain ⟨f', f3, f4⟩ := k5 (by omega)
    have ef : f = f' := f1.un f3 (fun j hj => jpG_cg eg (by omega))
    subst ef
    have hf := f1.1
    rw [f2, f4, ec f (by omega), jpG_cg eg (by omega)]
theorem SpR.cg {P P' : Nat → Prop} {day day' : Nat → Int} {V V' : Nat → Int → Prop} {R : Nat} {what r : Int} (h : SpR P day V R what r) (e : ∀ r, r < R → (P r ↔ P' r)) (d : ∀ r, r < R → day r = day' r) (t : ∀ r, r < R → P r → ∀ x, V r x → V' r x) : SpR P' day' V' R what r := by
  obtain ⟨n, c, g, h1, h2, h3, h4, h5⟩ := h
  exact ⟨n, c, g, ⟨fun i hi => ⟨(h1.1 i hi).1, (e _ (h1.1 i hi).1).mp (h1.1 i hi).2⟩, fun r hr hp => h1.2.1 r hr ((e r hr).mpr hp), h1.2.2⟩, h2.cg h1 d, fun i hi => t _ (h1.1 i hi).1 (h1.1 i hi).2 _ (h3 i hi), h4, h5⟩
/-- one more behind all -/
theorem Enm.app {P P' : Nat → Prop} {R n k : Nat} {c c' : Nat → Nat} {day : Nat → Int} (h : Enm P R c n) (s : Srt day c n) (hk : k < R) (hn : ¬ P k) (hl : ∀ i, i < n → kLt day (c i) k) (e : ∀ r, r < R → (P' r ↔ (P r ∨ r = k))) (e1 : ∀ i, i < n → c' i = c i) (e2 : c' n = k) : Enm P' R c' (n + 1) ∧ Srt day c' (n + 1) := by
  obtain ⟨h1, h2, h3⟩ := h
  have hs : Srt day c' (n + 1) := fun i j hij hj => by
    by_cases q : j = n
    · subst q
      rw [e2, e1 i hij]
      exact hl i hij
    · rw [e1 i (by omega), e1 j (by omega)]
      exact s i j hij (by omega)
  refine ⟨⟨fun i hi => ?_, fun r hr hp => ?_, fun i j hij hj z => ?_⟩, hs⟩
  · by_cases q : i = n
    · subst q
      rw [e2]
      exact ⟨hk, (e k hk).mpr (Or.inr rfl)⟩
    · rw [e1 i (by omega)]
      have h9 := h1 i (by omega)
      exact ⟨h9.1, (e _ h9.1).mpr (Or.inl h9.2)⟩
  · rcases (e r hr).mp hp with q | q
    · obtain ⟨i, hi, ei⟩ := h2 r hr q
      exact ⟨i, by omega, by rw [e1 i hi]; exact ei⟩
    · exact ⟨n, by omega, by rw [e2]; exact q.symm⟩
  · have h9 := hs i j hij hj
    rw [z] at h9
    unfold kLt at h9
    omega
theorem Enm.cg {P P' : Nat → Prop} {R n : Nat} {c : Nat → Nat} (h : Enm P R c n) (e : ∀ r, r < R → (P r ↔ P' r)) : Enm P' R c n := ⟨fun i hi => ⟨(h.1 i hi).1, (e _ (h.1 i hi).1).mp (h.1 i hi).2⟩, fun r hr hp => h.2.1 r hr ((e r hr).mpr hp), h.2.2⟩
theorem mnG_of {g : Nat → Int} {a n : Nat} {s d r : Int} (h : a < n) (hs : s = sumF (fun i => g (a + i)) (n - a)) (hd : d = ((n - a : Nat) : Int)) (hr : r = s / d) : r = mnG g a n := by
  unfold mnG
  rw [if_pos h, hr, hs, hd]
theorem sumF_st {f : Nat → Int} {n n' : Nat} {s s' : Int} (h : s = sumF f n) (e : n' = n + 1) (hs : s' = s + f n) : s' = sumF f n' := by
  subst e
  show s' = sumF f n + f n
  rw [hs, h]
/-! ===== SUSPECTED of the class ===== -/
theorem GaG.mid {E : Nat → va_E} {b R n : Nat} {c m : Nat → Int32} (h : GaG E b R n c m) {i : Nat} (hi : i < n) : ¬ (m i).toInt = -1000000000 ∧ MdO E (c i).toNatClampNeg b (m i) ∧ (c i).toNatClampNeg < R := by
  obtain ⟨h1, h2, h3⟩ := h
  obtain ⟨k1, x, k2, k3⟩ := h1.1 i hi
  have e : m i = x := MdV.fn (h3 i hi) k2
  exact ⟨by rw [e]; exact k3, h3 i hi, k1⟩
theorem GaG.sp0 {E : Nat → va_E} {b R n : Nat} {c m : Nat → Int32} {what r : Int} (h : GaG E b R n c m) (hn : n < 4) (hr : r = -1000000000) : SpR (ctO E b) (dyC E) (fun r9 x9 => ∃ m9 : Int32, MdO E r9 b m9 ∧ x9 = rtI m9 (xi (E 46) (16 * r9 + b))) R what r :=
  ⟨n, fun i => (c i).toNatClampNeg, fun i => rtI (m i) (xi (E 46) (16 * (c i).toNatClampNeg + b)), h.1, h.2.1, fun i hi => ⟨m i, h.2.2 i hi, rfl⟩, fun _ => hr, fun q => absurd hn (Nat.not_lt.mpr q)⟩
theorem GaG.sp1 {E : Nat → va_E} {b R n f : Nat} {c m : Nat → Int32} {g : Nat → Int} {what r : Int} (h : GaG E b R n c m) (hg : ∀ i, i < n → g i = rtI (m i) (xi (E 46) (16 * (c i).toNatClampNeg + b))) (h4 : 4 ≤ n) (hb : BsF (fun k => jpG g k n) (n - 1) f) (hr : r = if what = 0 then (((c f).toNatClampNeg : Nat) : Int) else jpG g f n) : SpR (ctO E b) (dyC E) (fun r9 x9 => ∃ m9 : Int32, MdO E r9 b m9 ∧ x9 = rtI m9 (xi (E 46) (16 * r9 + b))) R what r :=
  ⟨n, fun i => (c i).toNatClampNeg, g, h.1, h.2.1, fun i hi => ⟨m i, h.2.2 i hi, hg i hi⟩, fun q => absurd q (Nat.not_lt.mpr h4), fun _ => ⟨f, hb, hr⟩⟩
def rtC (cf : Nat → Nat) (E : Nat → va_E) (b : Nat) (q : Int32) (r : Nat) (x : Int) : Prop := ∃ m : Int32, MdC cf E (nI r) q b m ∧ ¬ m.toInt = -1000000000 ∧ x = rtI m (tmC cf E (nI r) q b)
theorem SpR.c {cf : Nat → Nat} {E u : Nat → va_E} {q : Int32} {b : Nat} {what f : Int} (h : SpR (ctO u b) (dyC u) (fun r9 x9 => ∃ m9 : Int32, MdO u r9 b m9 ∧ x9 = rtI m9 (xi (u 46) (16 * r9 + b))) (cf 2) what f) (k : K64 E u) (hb : b < 16) (h20 : cf 2 ≤ 20) (l : ∀ r, r < cf 2 → ∀ o, o < 16 → LdB cf E u (nI r) q o) : SpR (ctC cf E b q) (dyC E) (rtC cf E b q) (cf 2) what f := by
  refine h.cg (fun r hr => ?_) (fun r hr => ?_) (fun r hr hp x hx => ?_)
  · unfold ctO ctC
    exact ⟨fun ⟨x, h1, h2⟩ => ⟨x, (MdO_iff k hb (by omega) (l r hr)).mp h1, h2⟩, fun ⟨x, h1, h2⟩ => ⟨x, (MdO_iff k hb (by omega) (l r hr)).mpr h1, h2⟩⟩
  · unfold dyC
    rw [rcS_k k]
  · obtain ⟨m, h1, h2⟩ := hx
    obtain ⟨y, y1, y2⟩ := hp
    have e : m = y := MdV.fn h1 y1
    subst e
    have c1 := (MdO_iff k hb (by omega) (l r hr)).mp h1
    have hn : (nI r).toNatClampNeg = r := by
      have h9 : (nI r).toInt = (r : Int) := nI_toInt (by omega)
      rw [tn_, h9]
      omega
    have h9 := ((l r hr b hb).2 (MdC_ok c1 y2)).1
    rw [hn] at h9
    refine ⟨m, c1, y2, ?_⟩
    rw [h2, h9]
theorem tmC_in {cT : Nat → ClassId} {cf ad : Nat → Nat} {E : Nat → va_E} {race q : Int32} {b : Nat} (hC : CF cf) (hI : IXL cT (shC cf) (spC cf) (LC cf) ad E) (h3 : cf 3 ≤ 300) (hw : (rcS E race.toNatClampNeg 3).toInt = 0) (hc : CdR cf E race q b 0) : 0 ≤ (tmC cf E race q b).toInt ∧ (tmC cf E race q b).toInt ≤ 400000 := by
  have hl := CdR_0 hc
  have h9 : lRC E race (nI b) q (cf 3) = -1 ∨ ∃ k, k < cf 3 ∧ lRC E race (nI b) q (cf 3) = nI k := lO_ix (cf 3)
  rcases h9 with h | ⟨k, hk, h⟩
  · exfalso
    refine hl ?_
    rw [h]
    rfl
  · have hi : (nI k).toInt = (k : Int) := nI_toInt (by omega)
    have hn : (nI k).toNatClampNeg = k := by
      rw [tn_, hi]
      omega
    have hs : (0 : Int) ≤ (xi (E (64 * ((lRC E race (nI b) q (cf 3)).toNatClampNeg + 1) + 12)) 3).toInt ∧ (xi (E (64 * ((lRC E race (nI b) q (cf 3)).toNatClampNeg + 1) + 12)) 3).toInt ≤ 200000 := by
      rw [h, hn]
      exact hI.iv (64 * (k + 1) + 12) (mP 12 k (by decide) hk (kl_le hC 3 (by decide))) (shC_p 12 k (by decide)) (Nat.le_of_ble_eq_true rfl) (spC_p 12 k (by decide) 3)
    have hn := numC_in (cf := cf) (E := E) (boat := nI b) (day := rcS E race.toNatClampNeg 1) (q := q)
    have e9 : (fI (numC cf E (nI b) (rcS E race.toNatClampNeg 1) q)).toInt = numC cf E (nI b) (rcS E race.toNatClampNeg 1) q := fI_nn ⟨by omega, by omega⟩
    unfold tmC
    exact corI_in hw hs (by rw [e9]; exact hn)
theorem MdC_in {cT : Nat → ClassId} {cf ad : Nat → Nat} {E : Nat → va_E} {race q x : Int32} {b : Nat} (hC : CF cf) (hI : IXL cT (shC cf) (spC cf) (LC cf) ad E) (h3 : cf 3 ≤ 300) (h : MdC cf E race q b x) : x.toInt = -1000000000 ∨ (0 ≤ x.toInt ∧ x.toInt ≤ 400000) := by
  by_cases o : (rcS E race.toNatClampNeg 3).toInt = 0 ∧ CdR cf E race q b 0
  · obtain ⟨n, g, h1, h2, h4⟩ := h.2 o
    by_cases z : n = 0
    · exact Or.inl (h2 z)
    · refine Or.inr ?_
      obtain ⟨k, hk, hc, e⟩ := MR.mem _ n g h1 ((n - 1) / 2) (by omega)
      rw [h4 z, e]
      exact tmC_in hC hI h3 o.1 hc
  · exact Or.inl (h.1 o)
theorem MdO_in {cT : Nat → ClassId} {cf ad : Nat → Nat} {E u : Nat → va_E} {q x : Int32} {b r : Nat} (hC : CF cf) (hI : IXL cT (shC cf) (spC cf) (LC cf) ad E) (h3 : cf 3 ≤ 300) (k : K64 E u) (hb : b < 16) (h20 : cf 2 ≤ 20) (l : ∀ r, r < cf 2 → ∀ o, o < 16 → LdB cf E u (nI r) q o) (hr : r < cf 2) (h : MdO u r b x) : x.toInt = -1000000000 ∨ (0 ≤ x.toInt ∧ x.toInt ≤ 400000) := MdC_in hC hI h3 ((MdO_iff k hb (by omega) (l r hr)).mp h)
end

