set_option maxRecDepth 100000 in
theorem zh_dX12_certificate_0_0 : zc cX12_certificate 0 [42, 180, 0, 10, 27, 182, 0, 66, 153, 0, 10, 28, 184, 0, 70, 154] = true := by decide +kernel
set_option maxRecDepth 100000 in
theorem zh_dX12_certificate_15_16 : zc cX12_certificate 16 [0, 5, 2, 172, 29, 16, 10, 17, 1, 144, 184, 0, 59, 153, 0, 27] = true := by decide +kernel
set_option maxRecDepth 100000 in
theorem zh_dX12_certificate_32_32 : zc cX12_certificate 32 [21, 4, 4, 17, 15, 160, 184, 0, 59, 153, 0, 15, 21, 5, 4, 17] = true := by decide +kernel
set_option maxRecDepth 100000 in
theorem zh_dX12_certificate_47_48 : zc cX12_certificate 48 [3, 132, 184, 0, 59, 154, 0, 5, 2, 172, 42, 180, 0, 10, 180, 0] = true := by decide +kernel
set_option maxRecDepth 100000 in
theorem zh_dX12_certificate_62_64 : zc cX12_certificate 64 [73, 182, 0, 77, 16, 80, 161, 0, 5, 2, 172, 42, 180, 0, 10, 180] = true := by decide +kernel
set_option maxRecDepth 100000 in
theorem zh_dX12_certificate_79_80 : zc cX12_certificate 80 [0, 73, 187, 0, 83, 89, 27, 28, 42, 180, 0, 10, 180, 0, 55, 29] = true := by decide +kernel
set_option maxRecDepth 100000 in
theorem zh_dX12_certificate_96_96 : zc cX12_certificate 96 [21, 4, 21, 5, 183, 0, 85, 182, 0, 88, 87, 42, 180, 0, 10, 180] = true := by decide +kernel
set_option maxRecDepth 100000 in
theorem zh_dX12_certificate_111_112 : zc cX12_certificate 112 [0, 73, 182, 0, 77, 4, 100, 172] = true := by decide +kernel
set_option maxRecDepth 100000 in
theorem zh_dX12_result_0_0 : zc cX12_result 0 [42, 180, 0, 10, 27, 28, 182, 0, 146, 153, 0, 12, 29, 3, 7, 184] = true := by decide +kernel
set_option maxRecDepth 100000 in
theorem zh_dX12_result_15_16 : zc cX12_result 16 [0, 59, 154, 0, 5, 3, 172, 29, 154, 0, 14, 21, 4, 4, 18, 153] = true := by decide +kernel
set_option maxRecDepth 100000 in
theorem zh_dX12_result_32_32 : zc cX12_result 32 [184, 0, 59, 167, 0, 13, 21, 4, 154, 0, 7, 4, 167, 0, 4, 3] = true := by decide +kernel
set_option maxRecDepth 100000 in
theorem zh_dX12_result_48_48 : zc cX12_result 48 [54, 5, 21, 5, 153, 0, 19, 42, 180, 0, 10, 180, 0, 154, 182, 0] = true := by decide +kernel
set_option maxRecDepth 100000 in
theorem zh_dX12_result_62_64 : zc cX12_result 64 [77, 17, 1, 44, 161, 0, 5, 3, 172, 42, 180, 0, 10, 180, 0, 154] = true := by decide +kernel
set_option maxRecDepth 100000 in
theorem zh_dX12_result_80_80 : zc cX12_result 80 [187, 0, 157, 89, 27, 28, 29, 21, 4, 42, 180, 0, 10, 180, 0, 55] = true := by decide +kernel
set_option maxRecDepth 100000 in
theorem zh_dX12_result_96_96 : zc cX12_result 96 [183, 0, 159, 182, 0, 88, 87, 4, 172] = true := by decide +kernel
set_option maxRecDepth 100000 in
theorem zh_dX12_word_0_0 : zc cX12_word 0 [42, 180, 0, 10, 27, 28, 182, 0, 146, 153, 0, 13, 29, 3, 18, 208] = true := by decide +kernel
set_option maxRecDepth 100000 in
theorem zh_dX12_word_16_16 : zc cX12_word 16 [184, 0, 59, 154, 0, 5, 2, 172, 21, 6, 3, 6, 184, 0, 59, 153] = true := by decide +kernel
set_option maxRecDepth 100000 in
theorem zh_dX12_word_31_32 : zc cX12_word 32 [0, 15, 21, 7, 4, 17, 0, 255, 184, 0, 59, 154, 0, 5, 2, 172] = true := by decide +kernel
set_option maxRecDepth 100000 in
theorem zh_dX12_word_48_48 : zc cX12_word 48 [21, 4, 3, 16, 99, 21, 6, 100, 184, 0, 59, 153, 0, 17, 21, 5] = true := by decide +kernel
set_option maxRecDepth 100000 in
theorem zh_dX12_word_64_64 : zc cX12_word 64 [3, 16, 99, 21, 6, 100, 184, 0, 59, 154, 0, 5, 2, 172, 42, 180] = true := by decide +kernel
set_option maxRecDepth 100000 in
theorem zh_dX12_word_79_80 : zc cX12_word 80 [0, 10, 180, 0, 209, 182, 0, 77, 17, 0, 200, 161, 0, 5, 2, 172] = true := by decide +kernel
set_option maxRecDepth 100000 in
theorem zh_dX12_word_96_96 : zc cX12_word 96 [187, 0, 212, 89, 27, 28, 42, 180, 0, 10, 180, 0, 55, 183, 0, 214] = true := by decide +kernel
set_option maxRecDepth 100000 in
theorem zh_dX12_word_112_112 : zc cX12_word 112 [58, 8, 25, 8, 29, 21, 4, 21, 5, 21, 6, 21, 7, 182, 0, 217] = true := by decide +kernel
set_option maxRecDepth 100000 in
theorem zh_dX12_word_128_128 : zc cX12_word 128 [42, 180, 0, 10, 180, 0, 209, 25, 8, 182, 0, 88, 87, 42, 180, 0] = true := by decide +kernel
set_option maxRecDepth 100000 in
theorem zh_dX12_word_142_144 : zc cX12_word 144 [10, 180, 0, 209, 182, 0, 77, 4, 100, 172] = true := by decide +kernel
set_option maxRecDepth 100000 in
theorem zh_dX12_protest_0_0 : zc cX12_protest 0 [42, 180, 0, 10, 27, 28, 182, 0, 146, 153, 0, 20, 42, 180, 0, 10] = true := by decide +kernel
set_option maxRecDepth 100000 in
theorem zh_dX12_protest_16_16 : zc cX12_protest 16 [27, 29, 182, 0, 146, 153, 0, 8, 28, 29, 160, 0, 5, 2, 172, 21] = true := by decide +kernel
set_option maxRecDepth 100000 in
theorem zh_dX12_protest_31_32 : zc cX12_protest 32 [4, 3, 18, 208, 184, 0, 59, 153, 0, 18, 42, 180, 0, 10, 180, 0] = true := by decide +kernel
set_option maxRecDepth 100000 in
theorem zh_dX12_protest_46_48 : zc cX12_protest 48 [220, 182, 0, 77, 16, 30, 161, 0, 5, 2, 172, 42, 180, 0, 10, 180] = true := by decide +kernel
set_option maxRecDepth 100000 in
theorem zh_dX12_protest_63_64 : zc cX12_protest 64 [0, 220, 187, 0, 223, 89, 27, 28, 29, 21, 4, 42, 180, 0, 10, 180] = true := by decide +kernel
set_option maxRecDepth 100000 in
theorem zh_dX12_protest_79_80 : zc cX12_protest 80 [0, 55, 183, 0, 225, 182, 0, 88, 87, 42, 180, 0, 10, 180, 0, 220] = true := by decide +kernel
set_option maxRecDepth 100000 in
theorem zh_dX12_protest_96_96 : zc cX12_protest 96 [182, 0, 77, 4, 100, 172] = true := by decide +kernel
theorem dX12_certificate_0 : decode cX12_certificate 0 = .ok (.aload_n 0, 1) := zo_42 (zi_at zh_dX12_certificate_0_0 0 rfl)
theorem dX12_certificate_1 : decode cX12_certificate 1 = .ok (.getfield 10, 3) := zo_180 (zi_at zh_dX12_certificate_0_0 1 rfl) (zi_at zh_dX12_certificate_0_0 2 rfl) (zi_at zh_dX12_certificate_0_0 3 rfl) rfl
theorem dX12_certificate_4 : decode cX12_certificate 4 = .ok (.iload_n 1, 1) := zo_27 (zi_at zh_dX12_certificate_0_0 4 rfl)
theorem dX12_certificate_5 : decode cX12_certificate 5 = .ok (.invokevirtual 66, 3) := zo_182 (zi_at zh_dX12_certificate_0_0 5 rfl) (zi_at zh_dX12_certificate_0_0 6 rfl) (zi_at zh_dX12_certificate_0_0 7 rfl) rfl
theorem dX12_certificate_8 : decode cX12_certificate 8 = .ok (.ifCond .eq 10, 3) := zo_153 (zi_at zh_dX12_certificate_0_0 8 rfl) (zi_at zh_dX12_certificate_0_0 9 rfl) (zi_at zh_dX12_certificate_0_0 10 rfl) rfl
theorem dX12_certificate_11 : decode cX12_certificate 11 = .ok (.iload_n 2, 1) := zo_28 (zi_at zh_dX12_certificate_0_0 11 rfl)
theorem dX12_certificate_12 : decode cX12_certificate 12 = .ok (.invokestatic 70, 3) := zo_184 (zi_at zh_dX12_certificate_0_0 12 rfl) (zi_at zh_dX12_certificate_0_0 13 rfl) (zi_at zh_dX12_certificate_0_0 14 rfl) rfl
theorem dX12_certificate_15 : decode cX12_certificate 15 = .ok (.ifCond .ne 5, 3) := zo_154 (zi_at zh_dX12_certificate_0_0 15 rfl) (zi_at zh_dX12_certificate_15_16 0 rfl) (zi_at zh_dX12_certificate_15_16 1 rfl) rfl
theorem dX12_certificate_18 : decode cX12_certificate 18 = .ok (.iconst (-1), 1) := zo_2 (zi_at zh_dX12_certificate_15_16 2 rfl)
theorem dX12_certificate_19 : decode cX12_certificate 19 = .ok (.ireturn, 1) := zo_172 (zi_at zh_dX12_certificate_15_16 3 rfl)
theorem dX12_certificate_20 : decode cX12_certificate 20 = .ok (.iload_n 3, 1) := zo_29 (zi_at zh_dX12_certificate_15_16 4 rfl)
theorem dX12_certificate_21 : decode cX12_certificate 21 = .ok (.bipush 10, 2) := zo_16 (zi_at zh_dX12_certificate_15_16 5 rfl) (zi_at zh_dX12_certificate_15_16 6 rfl) rfl
theorem dX12_certificate_23 : decode cX12_certificate 23 = .ok (.sipush 400, 3) := zo_17 (zi_at zh_dX12_certificate_15_16 7 rfl) (zi_at zh_dX12_certificate_15_16 8 rfl) (zi_at zh_dX12_certificate_15_16 9 rfl) rfl
theorem dX12_certificate_26 : decode cX12_certificate 26 = .ok (.invokestatic 59, 3) := zo_184 (zi_at zh_dX12_certificate_15_16 10 rfl) (zi_at zh_dX12_certificate_15_16 11 rfl) (zi_at zh_dX12_certificate_15_16 12 rfl) rfl
theorem dX12_certificate_29 : decode cX12_certificate 29 = .ok (.ifCond .eq 27, 3) := zo_153 (zi_at zh_dX12_certificate_15_16 13 rfl) (zi_at zh_dX12_certificate_15_16 14 rfl) (zi_at zh_dX12_certificate_15_16 15 rfl) rfl
theorem dX12_certificate_32 : decode cX12_certificate 32 = .ok (.iload 4, 2) := zo_21 (zi_at zh_dX12_certificate_32_32 0 rfl) (zi_at zh_dX12_certificate_32_32 1 rfl)
theorem dX12_certificate_34 : decode cX12_certificate 34 = .ok (.iconst 1, 1) := zo_4 (zi_at zh_dX12_certificate_32_32 2 rfl)
theorem dX12_certificate_35 : decode cX12_certificate 35 = .ok (.sipush 4000, 3) := zo_17 (zi_at zh_dX12_certificate_32_32 3 rfl) (zi_at zh_dX12_certificate_32_32 4 rfl) (zi_at zh_dX12_certificate_32_32 5 rfl) rfl
theorem dX12_certificate_38 : decode cX12_certificate 38 = .ok (.invokestatic 59, 3) := zo_184 (zi_at zh_dX12_certificate_32_32 6 rfl) (zi_at zh_dX12_certificate_32_32 7 rfl) (zi_at zh_dX12_certificate_32_32 8 rfl) rfl
theorem dX12_certificate_41 : decode cX12_certificate 41 = .ok (.ifCond .eq 15, 3) := zo_153 (zi_at zh_dX12_certificate_32_32 9 rfl) (zi_at zh_dX12_certificate_32_32 10 rfl) (zi_at zh_dX12_certificate_32_32 11 rfl) rfl
theorem dX12_certificate_44 : decode cX12_certificate 44 = .ok (.iload 5, 2) := zo_21 (zi_at zh_dX12_certificate_32_32 12 rfl) (zi_at zh_dX12_certificate_32_32 13 rfl)
theorem dX12_certificate_46 : decode cX12_certificate 46 = .ok (.iconst 1, 1) := zo_4 (zi_at zh_dX12_certificate_32_32 14 rfl)
theorem dX12_certificate_47 : decode cX12_certificate 47 = .ok (.sipush 900, 3) := zo_17 (zi_at zh_dX12_certificate_32_32 15 rfl) (zi_at zh_dX12_certificate_47_48 0 rfl) (zi_at zh_dX12_certificate_47_48 1 rfl) rfl
theorem dX12_certificate_50 : decode cX12_certificate 50 = .ok (.invokestatic 59, 3) := zo_184 (zi_at zh_dX12_certificate_47_48 2 rfl) (zi_at zh_dX12_certificate_47_48 3 rfl) (zi_at zh_dX12_certificate_47_48 4 rfl) rfl
theorem dX12_certificate_53 : decode cX12_certificate 53 = .ok (.ifCond .ne 5, 3) := zo_154 (zi_at zh_dX12_certificate_47_48 5 rfl) (zi_at zh_dX12_certificate_47_48 6 rfl) (zi_at zh_dX12_certificate_47_48 7 rfl) rfl
theorem dX12_certificate_56 : decode cX12_certificate 56 = .ok (.iconst (-1), 1) := zo_2 (zi_at zh_dX12_certificate_47_48 8 rfl)
theorem dX12_certificate_57 : decode cX12_certificate 57 = .ok (.ireturn, 1) := zo_172 (zi_at zh_dX12_certificate_47_48 9 rfl)
theorem dX12_certificate_58 : decode cX12_certificate 58 = .ok (.aload_n 0, 1) := zo_42 (zi_at zh_dX12_certificate_47_48 10 rfl)
theorem dX12_certificate_59 : decode cX12_certificate 59 = .ok (.getfield 10, 3) := zo_180 (zi_at zh_dX12_certificate_47_48 11 rfl) (zi_at zh_dX12_certificate_47_48 12 rfl) (zi_at zh_dX12_certificate_47_48 13 rfl) rfl
theorem dX12_certificate_62 : decode cX12_certificate 62 = .ok (.getfield 73, 3) := zo_180 (zi_at zh_dX12_certificate_47_48 14 rfl) (zi_at zh_dX12_certificate_47_48 15 rfl) (zi_at zh_dX12_certificate_62_64 0 rfl) rfl
theorem dX12_certificate_65 : decode cX12_certificate 65 = .ok (.invokevirtual 77, 3) := zo_182 (zi_at zh_dX12_certificate_62_64 1 rfl) (zi_at zh_dX12_certificate_62_64 2 rfl) (zi_at zh_dX12_certificate_62_64 3 rfl) rfl
theorem dX12_certificate_68 : decode cX12_certificate 68 = .ok (.bipush 80, 2) := zo_16 (zi_at zh_dX12_certificate_62_64 4 rfl) (zi_at zh_dX12_certificate_62_64 5 rfl) rfl
theorem dX12_certificate_70 : decode cX12_certificate 70 = .ok (.if_icmp .lt 5, 3) := zo_161 (zi_at zh_dX12_certificate_62_64 6 rfl) (zi_at zh_dX12_certificate_62_64 7 rfl) (zi_at zh_dX12_certificate_62_64 8 rfl) rfl
theorem dX12_certificate_73 : decode cX12_certificate 73 = .ok (.iconst (-1), 1) := zo_2 (zi_at zh_dX12_certificate_62_64 9 rfl)
theorem dX12_certificate_74 : decode cX12_certificate 74 = .ok (.ireturn, 1) := zo_172 (zi_at zh_dX12_certificate_62_64 10 rfl)
theorem dX12_certificate_75 : decode cX12_certificate 75 = .ok (.aload_n 0, 1) := zo_42 (zi_at zh_dX12_certificate_62_64 11 rfl)
theorem dX12_certificate_76 : decode cX12_certificate 76 = .ok (.getfield 10, 3) := zo_180 (zi_at zh_dX12_certificate_62_64 12 rfl) (zi_at zh_dX12_certificate_62_64 13 rfl) (zi_at zh_dX12_certificate_62_64 14 rfl) rfl
theorem dX12_certificate_79 : decode cX12_certificate 79 = .ok (.getfield 73, 3) := zo_180 (zi_at zh_dX12_certificate_62_64 15 rfl) (zi_at zh_dX12_certificate_79_80 0 rfl) (zi_at zh_dX12_certificate_79_80 1 rfl) rfl
theorem dX12_certificate_82 : decode cX12_certificate 82 = .ok (.new 83, 3) := zo_187 (zi_at zh_dX12_certificate_79_80 2 rfl) (zi_at zh_dX12_certificate_79_80 3 rfl) (zi_at zh_dX12_certificate_79_80 4 rfl) rfl
theorem dX12_certificate_85 : decode cX12_certificate 85 = .ok (.dup, 1) := zo_89 (zi_at zh_dX12_certificate_79_80 5 rfl)
theorem dX12_certificate_86 : decode cX12_certificate 86 = .ok (.iload_n 1, 1) := zo_27 (zi_at zh_dX12_certificate_79_80 6 rfl)
theorem dX12_certificate_87 : decode cX12_certificate 87 = .ok (.iload_n 2, 1) := zo_28 (zi_at zh_dX12_certificate_79_80 7 rfl)
theorem dX12_certificate_88 : decode cX12_certificate 88 = .ok (.aload_n 0, 1) := zo_42 (zi_at zh_dX12_certificate_79_80 8 rfl)
theorem dX12_certificate_89 : decode cX12_certificate 89 = .ok (.getfield 10, 3) := zo_180 (zi_at zh_dX12_certificate_79_80 9 rfl) (zi_at zh_dX12_certificate_79_80 10 rfl) (zi_at zh_dX12_certificate_79_80 11 rfl) rfl
theorem dX12_certificate_92 : decode cX12_certificate 92 = .ok (.getfield 55, 3) := zo_180 (zi_at zh_dX12_certificate_79_80 12 rfl) (zi_at zh_dX12_certificate_79_80 13 rfl) (zi_at zh_dX12_certificate_79_80 14 rfl) rfl
theorem dX12_certificate_95 : decode cX12_certificate 95 = .ok (.iload_n 3, 1) := zo_29 (zi_at zh_dX12_certificate_79_80 15 rfl)
theorem dX12_certificate_96 : decode cX12_certificate 96 = .ok (.iload 4, 2) := zo_21 (zi_at zh_dX12_certificate_96_96 0 rfl) (zi_at zh_dX12_certificate_96_96 1 rfl)
theorem dX12_certificate_98 : decode cX12_certificate 98 = .ok (.iload 5, 2) := zo_21 (zi_at zh_dX12_certificate_96_96 2 rfl) (zi_at zh_dX12_certificate_96_96 3 rfl)
theorem dX12_certificate_100 : decode cX12_certificate 100 = .ok (.invokespecial 85, 3) := zo_183 (zi_at zh_dX12_certificate_96_96 4 rfl) (zi_at zh_dX12_certificate_96_96 5 rfl) (zi_at zh_dX12_certificate_96_96 6 rfl) rfl
theorem dX12_certificate_103 : decode cX12_certificate 103 = .ok (.invokevirtual 88, 3) := zo_182 (zi_at zh_dX12_certificate_96_96 7 rfl) (zi_at zh_dX12_certificate_96_96 8 rfl) (zi_at zh_dX12_certificate_96_96 9 rfl) rfl
theorem dX12_certificate_106 : decode cX12_certificate 106 = .ok (.pop, 1) := zo_87 (zi_at zh_dX12_certificate_96_96 10 rfl)
theorem dX12_certificate_107 : decode cX12_certificate 107 = .ok (.aload_n 0, 1) := zo_42 (zi_at zh_dX12_certificate_96_96 11 rfl)
theorem dX12_certificate_108 : decode cX12_certificate 108 = .ok (.getfield 10, 3) := zo_180 (zi_at zh_dX12_certificate_96_96 12 rfl) (zi_at zh_dX12_certificate_96_96 13 rfl) (zi_at zh_dX12_certificate_96_96 14 rfl) rfl
theorem dX12_certificate_111 : decode cX12_certificate 111 = .ok (.getfield 73, 3) := zo_180 (zi_at zh_dX12_certificate_96_96 15 rfl) (zi_at zh_dX12_certificate_111_112 0 rfl) (zi_at zh_dX12_certificate_111_112 1 rfl) rfl
theorem dX12_certificate_114 : decode cX12_certificate 114 = .ok (.invokevirtual 77, 3) := zo_182 (zi_at zh_dX12_certificate_111_112 2 rfl) (zi_at zh_dX12_certificate_111_112 3 rfl) (zi_at zh_dX12_certificate_111_112 4 rfl) rfl
theorem dX12_certificate_117 : decode cX12_certificate 117 = .ok (.iconst 1, 1) := zo_4 (zi_at zh_dX12_certificate_111_112 5 rfl)
theorem dX12_certificate_118 : decode cX12_certificate 118 = .ok (.isub, 1) := zo_100 (zi_at zh_dX12_certificate_111_112 6 rfl)
theorem dX12_certificate_119 : decode cX12_certificate 119 = .ok (.ireturn, 1) := zo_172 (zi_at zh_dX12_certificate_111_112 7 rfl)
theorem dX12_result_0 : decode cX12_result 0 = .ok (.aload_n 0, 1) := zo_42 (zi_at zh_dX12_result_0_0 0 rfl)
theorem dX12_result_1 : decode cX12_result 1 = .ok (.getfield 10, 3) := zo_180 (zi_at zh_dX12_result_0_0 1 rfl) (zi_at zh_dX12_result_0_0 2 rfl) (zi_at zh_dX12_result_0_0 3 rfl) rfl
theorem dX12_result_4 : decode cX12_result 4 = .ok (.iload_n 1, 1) := zo_27 (zi_at zh_dX12_result_0_0 4 rfl)
theorem dX12_result_5 : decode cX12_result 5 = .ok (.iload_n 2, 1) := zo_28 (zi_at zh_dX12_result_0_0 5 rfl)
theorem dX12_result_6 : decode cX12_result 6 = .ok (.invokevirtual 146, 3) := zo_182 (zi_at zh_dX12_result_0_0 6 rfl) (zi_at zh_dX12_result_0_0 7 rfl) (zi_at zh_dX12_result_0_0 8 rfl) rfl
theorem dX12_result_9 : decode cX12_result 9 = .ok (.ifCond .eq 12, 3) := zo_153 (zi_at zh_dX12_result_0_0 9 rfl) (zi_at zh_dX12_result_0_0 10 rfl) (zi_at zh_dX12_result_0_0 11 rfl) rfl
theorem dX12_result_12 : decode cX12_result 12 = .ok (.iload_n 3, 1) := zo_29 (zi_at zh_dX12_result_0_0 12 rfl)
theorem dX12_result_13 : decode cX12_result 13 = .ok (.iconst 0, 1) := zo_3 (zi_at zh_dX12_result_0_0 13 rfl)
theorem dX12_result_14 : decode cX12_result 14 = .ok (.iconst 4, 1) := zo_7 (zi_at zh_dX12_result_0_0 14 rfl)
theorem dX12_result_15 : decode cX12_result 15 = .ok (.invokestatic 59, 3) := zo_184 (zi_at zh_dX12_result_0_0 15 rfl) (zi_at zh_dX12_result_15_16 0 rfl) (zi_at zh_dX12_result_15_16 1 rfl) rfl
theorem dX12_result_18 : decode cX12_result 18 = .ok (.ifCond .ne 5, 3) := zo_154 (zi_at zh_dX12_result_15_16 2 rfl) (zi_at zh_dX12_result_15_16 3 rfl) (zi_at zh_dX12_result_15_16 4 rfl) rfl
theorem dX12_result_21 : decode cX12_result 21 = .ok (.iconst 0, 1) := zo_3 (zi_at zh_dX12_result_15_16 5 rfl)
theorem dX12_result_22 : decode cX12_result 22 = .ok (.ireturn, 1) := zo_172 (zi_at zh_dX12_result_15_16 6 rfl)
theorem dX12_result_23 : decode cX12_result 23 = .ok (.iload_n 3, 1) := zo_29 (zi_at zh_dX12_result_15_16 7 rfl)
theorem dX12_result_24 : decode cX12_result 24 = .ok (.ifCond .ne 14, 3) := zo_154 (zi_at zh_dX12_result_15_16 8 rfl) (zi_at zh_dX12_result_15_16 9 rfl) (zi_at zh_dX12_result_15_16 10 rfl) rfl
theorem dX12_result_27 : decode cX12_result 27 = .ok (.iload 4, 2) := zo_21 (zi_at zh_dX12_result_15_16 11 rfl) (zi_at zh_dX12_result_15_16 12 rfl)
theorem dX12_result_29 : decode cX12_result 29 = .ok (.iconst 1, 1) := zo_4 (zi_at zh_dX12_result_15_16 13 rfl)
theorem dX12_result_30 : decode cX12_result 30 = .ok (.ldc 153, 2) := zo_18 (zi_at zh_dX12_result_15_16 14 rfl) (zi_at zh_dX12_result_15_16 15 rfl)
theorem dX12_result_32 : decode cX12_result 32 = .ok (.invokestatic 59, 3) := zo_184 (zi_at zh_dX12_result_32_32 0 rfl) (zi_at zh_dX12_result_32_32 1 rfl) (zi_at zh_dX12_result_32_32 2 rfl) rfl
theorem dX12_result_35 : decode cX12_result 35 = .ok (.goto 13, 3) := zo_167 (zi_at zh_dX12_result_32_32 3 rfl) (zi_at zh_dX12_result_32_32 4 rfl) (zi_at zh_dX12_result_32_32 5 rfl) rfl
theorem dX12_result_38 : decode cX12_result 38 = .ok (.iload 4, 2) := zo_21 (zi_at zh_dX12_result_32_32 6 rfl) (zi_at zh_dX12_result_32_32 7 rfl)
theorem dX12_result_40 : decode cX12_result 40 = .ok (.ifCond .ne 7, 3) := zo_154 (zi_at zh_dX12_result_32_32 8 rfl) (zi_at zh_dX12_result_32_32 9 rfl) (zi_at zh_dX12_result_32_32 10 rfl) rfl
theorem dX12_result_43 : decode cX12_result 43 = .ok (.iconst 1, 1) := zo_4 (zi_at zh_dX12_result_32_32 11 rfl)
theorem dX12_result_44 : decode cX12_result 44 = .ok (.goto 4, 3) := zo_167 (zi_at zh_dX12_result_32_32 12 rfl) (zi_at zh_dX12_result_32_32 13 rfl) (zi_at zh_dX12_result_32_32 14 rfl) rfl
theorem dX12_result_47 : decode cX12_result 47 = .ok (.iconst 0, 1) := zo_3 (zi_at zh_dX12_result_32_32 15 rfl)
theorem dX12_result_48 : decode cX12_result 48 = .ok (.istore 5, 2) := zo_54 (zi_at zh_dX12_result_48_48 0 rfl) (zi_at zh_dX12_result_48_48 1 rfl)
theorem dX12_result_50 : decode cX12_result 50 = .ok (.iload 5, 2) := zo_21 (zi_at zh_dX12_result_48_48 2 rfl) (zi_at zh_dX12_result_48_48 3 rfl)
theorem dX12_result_52 : decode cX12_result 52 = .ok (.ifCond .eq 19, 3) := zo_153 (zi_at zh_dX12_result_48_48 4 rfl) (zi_at zh_dX12_result_48_48 5 rfl) (zi_at zh_dX12_result_48_48 6 rfl) rfl
theorem dX12_result_55 : decode cX12_result 55 = .ok (.aload_n 0, 1) := zo_42 (zi_at zh_dX12_result_48_48 7 rfl)
theorem dX12_result_56 : decode cX12_result 56 = .ok (.getfield 10, 3) := zo_180 (zi_at zh_dX12_result_48_48 8 rfl) (zi_at zh_dX12_result_48_48 9 rfl) (zi_at zh_dX12_result_48_48 10 rfl) rfl
theorem dX12_result_59 : decode cX12_result 59 = .ok (.getfield 154, 3) := zo_180 (zi_at zh_dX12_result_48_48 11 rfl) (zi_at zh_dX12_result_48_48 12 rfl) (zi_at zh_dX12_result_48_48 13 rfl) rfl
theorem dX12_result_62 : decode cX12_result 62 = .ok (.invokevirtual 77, 3) := zo_182 (zi_at zh_dX12_result_48_48 14 rfl) (zi_at zh_dX12_result_48_48 15 rfl) (zi_at zh_dX12_result_62_64 0 rfl) rfl
theorem dX12_result_65 : decode cX12_result 65 = .ok (.sipush 300, 3) := zo_17 (zi_at zh_dX12_result_62_64 1 rfl) (zi_at zh_dX12_result_62_64 2 rfl) (zi_at zh_dX12_result_62_64 3 rfl) rfl
theorem dX12_result_68 : decode cX12_result 68 = .ok (.if_icmp .lt 5, 3) := zo_161 (zi_at zh_dX12_result_62_64 4 rfl) (zi_at zh_dX12_result_62_64 5 rfl) (zi_at zh_dX12_result_62_64 6 rfl) rfl
theorem dX12_result_71 : decode cX12_result 71 = .ok (.iconst 0, 1) := zo_3 (zi_at zh_dX12_result_62_64 7 rfl)
theorem dX12_result_72 : decode cX12_result 72 = .ok (.ireturn, 1) := zo_172 (zi_at zh_dX12_result_62_64 8 rfl)
theorem dX12_result_73 : decode cX12_result 73 = .ok (.aload_n 0, 1) := zo_42 (zi_at zh_dX12_result_62_64 9 rfl)
theorem dX12_result_74 : decode cX12_result 74 = .ok (.getfield 10, 3) := zo_180 (zi_at zh_dX12_result_62_64 10 rfl) (zi_at zh_dX12_result_62_64 11 rfl) (zi_at zh_dX12_result_62_64 12 rfl) rfl
theorem dX12_result_77 : decode cX12_result 77 = .ok (.getfield 154, 3) := zo_180 (zi_at zh_dX12_result_62_64 13 rfl) (zi_at zh_dX12_result_62_64 14 rfl) (zi_at zh_dX12_result_62_64 15 rfl) rfl
theorem dX12_result_80 : decode cX12_result 80 = .ok (.new 157, 3) := zo_187 (zi_at zh_dX12_result_80_80 0 rfl) (zi_at zh_dX12_result_80_80 1 rfl) (zi_at zh_dX12_result_80_80 2 rfl) rfl
theorem dX12_result_83 : decode cX12_result 83 = .ok (.dup, 1) := zo_89 (zi_at zh_dX12_result_80_80 3 rfl)
theorem dX12_result_84 : decode cX12_result 84 = .ok (.iload_n 1, 1) := zo_27 (zi_at zh_dX12_result_80_80 4 rfl)
theorem dX12_result_85 : decode cX12_result 85 = .ok (.iload_n 2, 1) := zo_28 (zi_at zh_dX12_result_80_80 5 rfl)
theorem dX12_result_86 : decode cX12_result 86 = .ok (.iload_n 3, 1) := zo_29 (zi_at zh_dX12_result_80_80 6 rfl)
theorem dX12_result_87 : decode cX12_result 87 = .ok (.iload 4, 2) := zo_21 (zi_at zh_dX12_result_80_80 7 rfl) (zi_at zh_dX12_result_80_80 8 rfl)
theorem dX12_result_89 : decode cX12_result 89 = .ok (.aload_n 0, 1) := zo_42 (zi_at zh_dX12_result_80_80 9 rfl)
theorem dX12_result_90 : decode cX12_result 90 = .ok (.getfield 10, 3) := zo_180 (zi_at zh_dX12_result_80_80 10 rfl) (zi_at zh_dX12_result_80_80 11 rfl) (zi_at zh_dX12_result_80_80 12 rfl) rfl
theorem dX12_result_93 : decode cX12_result 93 = .ok (.getfield 55, 3) := zo_180 (zi_at zh_dX12_result_80_80 13 rfl) (zi_at zh_dX12_result_80_80 14 rfl) (zi_at zh_dX12_result_80_80 15 rfl) rfl
theorem dX12_result_96 : decode cX12_result 96 = .ok (.invokespecial 159, 3) := zo_183 (zi_at zh_dX12_result_96_96 0 rfl) (zi_at zh_dX12_result_96_96 1 rfl) (zi_at zh_dX12_result_96_96 2 rfl) rfl
theorem dX12_result_99 : decode cX12_result 99 = .ok (.invokevirtual 88, 3) := zo_182 (zi_at zh_dX12_result_96_96 3 rfl) (zi_at zh_dX12_result_96_96 4 rfl) (zi_at zh_dX12_result_96_96 5 rfl) rfl
theorem dX12_result_102 : decode cX12_result 102 = .ok (.pop, 1) := zo_87 (zi_at zh_dX12_result_96_96 6 rfl)
theorem dX12_result_103 : decode cX12_result 103 = .ok (.iconst 1, 1) := zo_4 (zi_at zh_dX12_result_96_96 7 rfl)
theorem dX12_result_104 : decode cX12_result 104 = .ok (.ireturn, 1) := zo_172 (zi_at zh_dX12_result_96_96 8 rfl)
theorem dX12_word_0 : decode cX12_word 0 = .ok (.aload_n 0, 1) := zo_42 (zi_at zh_dX12_word_0_0 0 rfl)
theorem dX12_word_1 : decode cX12_word 1 = .ok (.getfield 10, 3) := zo_180 (zi_at zh_dX12_word_0_0 1 rfl) (zi_at zh_dX12_word_0_0 2 rfl) (zi_at zh_dX12_word_0_0 3 rfl) rfl
theorem dX12_word_4 : decode cX12_word 4 = .ok (.iload_n 1, 1) := zo_27 (zi_at zh_dX12_word_0_0 4 rfl)
theorem dX12_word_5 : decode cX12_word 5 = .ok (.iload_n 2, 1) := zo_28 (zi_at zh_dX12_word_0_0 5 rfl)
theorem dX12_word_6 : decode cX12_word 6 = .ok (.invokevirtual 146, 3) := zo_182 (zi_at zh_dX12_word_0_0 6 rfl) (zi_at zh_dX12_word_0_0 7 rfl) (zi_at zh_dX12_word_0_0 8 rfl) rfl
theorem dX12_word_9 : decode cX12_word 9 = .ok (.ifCond .eq 13, 3) := zo_153 (zi_at zh_dX12_word_0_0 9 rfl) (zi_at zh_dX12_word_0_0 10 rfl) (zi_at zh_dX12_word_0_0 11 rfl) rfl
theorem dX12_word_12 : decode cX12_word 12 = .ok (.iload_n 3, 1) := zo_29 (zi_at zh_dX12_word_0_0 12 rfl)
theorem dX12_word_13 : decode cX12_word 13 = .ok (.iconst 0, 1) := zo_3 (zi_at zh_dX12_word_0_0 13 rfl)
theorem dX12_word_14 : decode cX12_word 14 = .ok (.ldc 208, 2) := zo_18 (zi_at zh_dX12_word_0_0 14 rfl) (zi_at zh_dX12_word_0_0 15 rfl)
theorem dX12_word_16 : decode cX12_word 16 = .ok (.invokestatic 59, 3) := zo_184 (zi_at zh_dX12_word_16_16 0 rfl) (zi_at zh_dX12_word_16_16 1 rfl) (zi_at zh_dX12_word_16_16 2 rfl) rfl
theorem dX12_word_19 : decode cX12_word 19 = .ok (.ifCond .ne 5, 3) := zo_154 (zi_at zh_dX12_word_16_16 3 rfl) (zi_at zh_dX12_word_16_16 4 rfl) (zi_at zh_dX12_word_16_16 5 rfl) rfl
theorem dX12_word_22 : decode cX12_word 22 = .ok (.iconst (-1), 1) := zo_2 (zi_at zh_dX12_word_16_16 6 rfl)
theorem dX12_word_23 : decode cX12_word 23 = .ok (.ireturn, 1) := zo_172 (zi_at zh_dX12_word_16_16 7 rfl)
theorem dX12_word_24 : decode cX12_word 24 = .ok (.iload 6, 2) := zo_21 (zi_at zh_dX12_word_16_16 8 rfl) (zi_at zh_dX12_word_16_16 9 rfl)
theorem dX12_word_26 : decode cX12_word 26 = .ok (.iconst 0, 1) := zo_3 (zi_at zh_dX12_word_16_16 10 rfl)
theorem dX12_word_27 : decode cX12_word 27 = .ok (.iconst 3, 1) := zo_6 (zi_at zh_dX12_word_16_16 11 rfl)
theorem dX12_word_28 : decode cX12_word 28 = .ok (.invokestatic 59, 3) := zo_184 (zi_at zh_dX12_word_16_16 12 rfl) (zi_at zh_dX12_word_16_16 13 rfl) (zi_at zh_dX12_word_16_16 14 rfl) rfl
theorem dX12_word_31 : decode cX12_word 31 = .ok (.ifCond .eq 15, 3) := zo_153 (zi_at zh_dX12_word_16_16 15 rfl) (zi_at zh_dX12_word_31_32 0 rfl) (zi_at zh_dX12_word_31_32 1 rfl) rfl
theorem dX12_word_34 : decode cX12_word 34 = .ok (.iload 7, 2) := zo_21 (zi_at zh_dX12_word_31_32 2 rfl) (zi_at zh_dX12_word_31_32 3 rfl)
theorem dX12_word_36 : decode cX12_word 36 = .ok (.iconst 1, 1) := zo_4 (zi_at zh_dX12_word_31_32 4 rfl)
theorem dX12_word_37 : decode cX12_word 37 = .ok (.sipush 255, 3) := zo_17 (zi_at zh_dX12_word_31_32 5 rfl) (zi_at zh_dX12_word_31_32 6 rfl) (zi_at zh_dX12_word_31_32 7 rfl) rfl
theorem dX12_word_40 : decode cX12_word 40 = .ok (.invokestatic 59, 3) := zo_184 (zi_at zh_dX12_word_31_32 8 rfl) (zi_at zh_dX12_word_31_32 9 rfl) (zi_at zh_dX12_word_31_32 10 rfl) rfl
theorem dX12_word_43 : decode cX12_word 43 = .ok (.ifCond .ne 5, 3) := zo_154 (zi_at zh_dX12_word_31_32 11 rfl) (zi_at zh_dX12_word_31_32 12 rfl) (zi_at zh_dX12_word_31_32 13 rfl) rfl
theorem dX12_word_46 : decode cX12_word 46 = .ok (.iconst (-1), 1) := zo_2 (zi_at zh_dX12_word_31_32 14 rfl)
theorem dX12_word_47 : decode cX12_word 47 = .ok (.ireturn, 1) := zo_172 (zi_at zh_dX12_word_31_32 15 rfl)
theorem dX12_word_48 : decode cX12_word 48 = .ok (.iload 4, 2) := zo_21 (zi_at zh_dX12_word_48_48 0 rfl) (zi_at zh_dX12_word_48_48 1 rfl)
theorem dX12_word_50 : decode cX12_word 50 = .ok (.iconst 0, 1) := zo_3 (zi_at zh_dX12_word_48_48 2 rfl)
theorem dX12_word_51 : decode cX12_word 51 = .ok (.bipush 99, 2) := zo_16 (zi_at zh_dX12_word_48_48 3 rfl) (zi_at zh_dX12_word_48_48 4 rfl) rfl
theorem dX12_word_53 : decode cX12_word 53 = .ok (.iload 6, 2) := zo_21 (zi_at zh_dX12_word_48_48 5 rfl) (zi_at zh_dX12_word_48_48 6 rfl)
theorem dX12_word_55 : decode cX12_word 55 = .ok (.isub, 1) := zo_100 (zi_at zh_dX12_word_48_48 7 rfl)
theorem dX12_word_56 : decode cX12_word 56 = .ok (.invokestatic 59, 3) := zo_184 (zi_at zh_dX12_word_48_48 8 rfl) (zi_at zh_dX12_word_48_48 9 rfl) (zi_at zh_dX12_word_48_48 10 rfl) rfl
theorem dX12_word_59 : decode cX12_word 59 = .ok (.ifCond .eq 17, 3) := zo_153 (zi_at zh_dX12_word_48_48 11 rfl) (zi_at zh_dX12_word_48_48 12 rfl) (zi_at zh_dX12_word_48_48 13 rfl) rfl
theorem dX12_word_62 : decode cX12_word 62 = .ok (.iload 5, 2) := zo_21 (zi_at zh_dX12_word_48_48 14 rfl) (zi_at zh_dX12_word_48_48 15 rfl)
theorem dX12_word_64 : decode cX12_word 64 = .ok (.iconst 0, 1) := zo_3 (zi_at zh_dX12_word_64_64 0 rfl)
theorem dX12_word_65 : decode cX12_word 65 = .ok (.bipush 99, 2) := zo_16 (zi_at zh_dX12_word_64_64 1 rfl) (zi_at zh_dX12_word_64_64 2 rfl) rfl
theorem dX12_word_67 : decode cX12_word 67 = .ok (.iload 6, 2) := zo_21 (zi_at zh_dX12_word_64_64 3 rfl) (zi_at zh_dX12_word_64_64 4 rfl)
theorem dX12_word_69 : decode cX12_word 69 = .ok (.isub, 1) := zo_100 (zi_at zh_dX12_word_64_64 5 rfl)
theorem dX12_word_70 : decode cX12_word 70 = .ok (.invokestatic 59, 3) := zo_184 (zi_at zh_dX12_word_64_64 6 rfl) (zi_at zh_dX12_word_64_64 7 rfl) (zi_at zh_dX12_word_64_64 8 rfl) rfl
theorem dX12_word_73 : decode cX12_word 73 = .ok (.ifCond .ne 5, 3) := zo_154 (zi_at zh_dX12_word_64_64 9 rfl) (zi_at zh_dX12_word_64_64 10 rfl) (zi_at zh_dX12_word_64_64 11 rfl) rfl
theorem dX12_word_76 : decode cX12_word 76 = .ok (.iconst (-1), 1) := zo_2 (zi_at zh_dX12_word_64_64 12 rfl)
theorem dX12_word_77 : decode cX12_word 77 = .ok (.ireturn, 1) := zo_172 (zi_at zh_dX12_word_64_64 13 rfl)
theorem dX12_word_78 : decode cX12_word 78 = .ok (.aload_n 0, 1) := zo_42 (zi_at zh_dX12_word_64_64 14 rfl)
theorem dX12_word_79 : decode cX12_word 79 = .ok (.getfield 10, 3) := zo_180 (zi_at zh_dX12_word_64_64 15 rfl) (zi_at zh_dX12_word_79_80 0 rfl) (zi_at zh_dX12_word_79_80 1 rfl) rfl
theorem dX12_word_82 : decode cX12_word 82 = .ok (.getfield 209, 3) := zo_180 (zi_at zh_dX12_word_79_80 2 rfl) (zi_at zh_dX12_word_79_80 3 rfl) (zi_at zh_dX12_word_79_80 4 rfl) rfl
theorem dX12_word_85 : decode cX12_word 85 = .ok (.invokevirtual 77, 3) := zo_182 (zi_at zh_dX12_word_79_80 5 rfl) (zi_at zh_dX12_word_79_80 6 rfl) (zi_at zh_dX12_word_79_80 7 rfl) rfl
theorem dX12_word_88 : decode cX12_word 88 = .ok (.sipush 200, 3) := zo_17 (zi_at zh_dX12_word_79_80 8 rfl) (zi_at zh_dX12_word_79_80 9 rfl) (zi_at zh_dX12_word_79_80 10 rfl) rfl
theorem dX12_word_91 : decode cX12_word 91 = .ok (.if_icmp .lt 5, 3) := zo_161 (zi_at zh_dX12_word_79_80 11 rfl) (zi_at zh_dX12_word_79_80 12 rfl) (zi_at zh_dX12_word_79_80 13 rfl) rfl
theorem dX12_word_94 : decode cX12_word 94 = .ok (.iconst (-1), 1) := zo_2 (zi_at zh_dX12_word_79_80 14 rfl)
theorem dX12_word_95 : decode cX12_word 95 = .ok (.ireturn, 1) := zo_172 (zi_at zh_dX12_word_79_80 15 rfl)
theorem dX12_word_96 : decode cX12_word 96 = .ok (.new 212, 3) := zo_187 (zi_at zh_dX12_word_96_96 0 rfl) (zi_at zh_dX12_word_96_96 1 rfl) (zi_at zh_dX12_word_96_96 2 rfl) rfl
theorem dX12_word_99 : decode cX12_word 99 = .ok (.dup, 1) := zo_89 (zi_at zh_dX12_word_96_96 3 rfl)
theorem dX12_word_100 : decode cX12_word 100 = .ok (.iload_n 1, 1) := zo_27 (zi_at zh_dX12_word_96_96 4 rfl)
theorem dX12_word_101 : decode cX12_word 101 = .ok (.iload_n 2, 1) := zo_28 (zi_at zh_dX12_word_96_96 5 rfl)
theorem dX12_word_102 : decode cX12_word 102 = .ok (.aload_n 0, 1) := zo_42 (zi_at zh_dX12_word_96_96 6 rfl)
theorem dX12_word_103 : decode cX12_word 103 = .ok (.getfield 10, 3) := zo_180 (zi_at zh_dX12_word_96_96 7 rfl) (zi_at zh_dX12_word_96_96 8 rfl) (zi_at zh_dX12_word_96_96 9 rfl) rfl
theorem dX12_word_106 : decode cX12_word 106 = .ok (.getfield 55, 3) := zo_180 (zi_at zh_dX12_word_96_96 10 rfl) (zi_at zh_dX12_word_96_96 11 rfl) (zi_at zh_dX12_word_96_96 12 rfl) rfl
theorem dX12_word_109 : decode cX12_word 109 = .ok (.invokespecial 214, 3) := zo_183 (zi_at zh_dX12_word_96_96 13 rfl) (zi_at zh_dX12_word_96_96 14 rfl) (zi_at zh_dX12_word_96_96 15 rfl) rfl
theorem dX12_word_112 : decode cX12_word 112 = .ok (.astore 8, 2) := zo_58 (zi_at zh_dX12_word_112_112 0 rfl) (zi_at zh_dX12_word_112_112 1 rfl)
theorem dX12_word_114 : decode cX12_word 114 = .ok (.aload 8, 2) := zo_25 (zi_at zh_dX12_word_112_112 2 rfl) (zi_at zh_dX12_word_112_112 3 rfl)
theorem dX12_word_116 : decode cX12_word 116 = .ok (.iload_n 3, 1) := zo_29 (zi_at zh_dX12_word_112_112 4 rfl)
theorem dX12_word_117 : decode cX12_word 117 = .ok (.iload 4, 2) := zo_21 (zi_at zh_dX12_word_112_112 5 rfl) (zi_at zh_dX12_word_112_112 6 rfl)
theorem dX12_word_119 : decode cX12_word 119 = .ok (.iload 5, 2) := zo_21 (zi_at zh_dX12_word_112_112 7 rfl) (zi_at zh_dX12_word_112_112 8 rfl)
theorem dX12_word_121 : decode cX12_word 121 = .ok (.iload 6, 2) := zo_21 (zi_at zh_dX12_word_112_112 9 rfl) (zi_at zh_dX12_word_112_112 10 rfl)
theorem dX12_word_123 : decode cX12_word 123 = .ok (.iload 7, 2) := zo_21 (zi_at zh_dX12_word_112_112 11 rfl) (zi_at zh_dX12_word_112_112 12 rfl)
theorem dX12_word_125 : decode cX12_word 125 = .ok (.invokevirtual 217, 3) := zo_182 (zi_at zh_dX12_word_112_112 13 rfl) (zi_at zh_dX12_word_112_112 14 rfl) (zi_at zh_dX12_word_112_112 15 rfl) rfl
theorem dX12_word_128 : decode cX12_word 128 = .ok (.aload_n 0, 1) := zo_42 (zi_at zh_dX12_word_128_128 0 rfl)
theorem dX12_word_129 : decode cX12_word 129 = .ok (.getfield 10, 3) := zo_180 (zi_at zh_dX12_word_128_128 1 rfl) (zi_at zh_dX12_word_128_128 2 rfl) (zi_at zh_dX12_word_128_128 3 rfl) rfl
theorem dX12_word_132 : decode cX12_word 132 = .ok (.getfield 209, 3) := zo_180 (zi_at zh_dX12_word_128_128 4 rfl) (zi_at zh_dX12_word_128_128 5 rfl) (zi_at zh_dX12_word_128_128 6 rfl) rfl
theorem dX12_word_135 : decode cX12_word 135 = .ok (.aload 8, 2) := zo_25 (zi_at zh_dX12_word_128_128 7 rfl) (zi_at zh_dX12_word_128_128 8 rfl)
theorem dX12_word_137 : decode cX12_word 137 = .ok (.invokevirtual 88, 3) := zo_182 (zi_at zh_dX12_word_128_128 9 rfl) (zi_at zh_dX12_word_128_128 10 rfl) (zi_at zh_dX12_word_128_128 11 rfl) rfl
theorem dX12_word_140 : decode cX12_word 140 = .ok (.pop, 1) := zo_87 (zi_at zh_dX12_word_128_128 12 rfl)
theorem dX12_word_141 : decode cX12_word 141 = .ok (.aload_n 0, 1) := zo_42 (zi_at zh_dX12_word_128_128 13 rfl)
theorem dX12_word_142 : decode cX12_word 142 = .ok (.getfield 10, 3) := zo_180 (zi_at zh_dX12_word_128_128 14 rfl) (zi_at zh_dX12_word_128_128 15 rfl) (zi_at zh_dX12_word_142_144 0 rfl) rfl
theorem dX12_word_145 : decode cX12_word 145 = .ok (.getfield 209, 3) := zo_180 (zi_at zh_dX12_word_142_144 1 rfl) (zi_at zh_dX12_word_142_144 2 rfl) (zi_at zh_dX12_word_142_144 3 rfl) rfl
theorem dX12_word_148 : decode cX12_word 148 = .ok (.invokevirtual 77, 3) := zo_182 (zi_at zh_dX12_word_142_144 4 rfl) (zi_at zh_dX12_word_142_144 5 rfl) (zi_at zh_dX12_word_142_144 6 rfl) rfl
theorem dX12_word_151 : decode cX12_word 151 = .ok (.iconst 1, 1) := zo_4 (zi_at zh_dX12_word_142_144 7 rfl)
theorem dX12_word_152 : decode cX12_word 152 = .ok (.isub, 1) := zo_100 (zi_at zh_dX12_word_142_144 8 rfl)
theorem dX12_word_153 : decode cX12_word 153 = .ok (.ireturn, 1) := zo_172 (zi_at zh_dX12_word_142_144 9 rfl)
theorem dX12_protest_0 : decode cX12_protest 0 = .ok (.aload_n 0, 1) := zo_42 (zi_at zh_dX12_protest_0_0 0 rfl)
theorem dX12_protest_1 : decode cX12_protest 1 = .ok (.getfield 10, 3) := zo_180 (zi_at zh_dX12_protest_0_0 1 rfl) (zi_at zh_dX12_protest_0_0 2 rfl) (zi_at zh_dX12_protest_0_0 3 rfl) rfl
theorem dX12_protest_4 : decode cX12_protest 4 = .ok (.iload_n 1, 1) := zo_27 (zi_at zh_dX12_protest_0_0 4 rfl)
theorem dX12_protest_5 : decode cX12_protest 5 = .ok (.iload_n 2, 1) := zo_28 (zi_at zh_dX12_protest_0_0 5 rfl)
theorem dX12_protest_6 : decode cX12_protest 6 = .ok (.invokevirtual 146, 3) := zo_182 (zi_at zh_dX12_protest_0_0 6 rfl) (zi_at zh_dX12_protest_0_0 7 rfl) (zi_at zh_dX12_protest_0_0 8 rfl) rfl
theorem dX12_protest_9 : decode cX12_protest 9 = .ok (.ifCond .eq 20, 3) := zo_153 (zi_at zh_dX12_protest_0_0 9 rfl) (zi_at zh_dX12_protest_0_0 10 rfl) (zi_at zh_dX12_protest_0_0 11 rfl) rfl
theorem dX12_protest_12 : decode cX12_protest 12 = .ok (.aload_n 0, 1) := zo_42 (zi_at zh_dX12_protest_0_0 12 rfl)
theorem dX12_protest_13 : decode cX12_protest 13 = .ok (.getfield 10, 3) := zo_180 (zi_at zh_dX12_protest_0_0 13 rfl) (zi_at zh_dX12_protest_0_0 14 rfl) (zi_at zh_dX12_protest_0_0 15 rfl) rfl
theorem dX12_protest_16 : decode cX12_protest 16 = .ok (.iload_n 1, 1) := zo_27 (zi_at zh_dX12_protest_16_16 0 rfl)
theorem dX12_protest_17 : decode cX12_protest 17 = .ok (.iload_n 3, 1) := zo_29 (zi_at zh_dX12_protest_16_16 1 rfl)
theorem dX12_protest_18 : decode cX12_protest 18 = .ok (.invokevirtual 146, 3) := zo_182 (zi_at zh_dX12_protest_16_16 2 rfl) (zi_at zh_dX12_protest_16_16 3 rfl) (zi_at zh_dX12_protest_16_16 4 rfl) rfl
theorem dX12_protest_21 : decode cX12_protest 21 = .ok (.ifCond .eq 8, 3) := zo_153 (zi_at zh_dX12_protest_16_16 5 rfl) (zi_at zh_dX12_protest_16_16 6 rfl) (zi_at zh_dX12_protest_16_16 7 rfl) rfl
theorem dX12_protest_24 : decode cX12_protest 24 = .ok (.iload_n 2, 1) := zo_28 (zi_at zh_dX12_protest_16_16 8 rfl)
theorem dX12_protest_25 : decode cX12_protest 25 = .ok (.iload_n 3, 1) := zo_29 (zi_at zh_dX12_protest_16_16 9 rfl)
theorem dX12_protest_26 : decode cX12_protest 26 = .ok (.if_icmp .ne 5, 3) := zo_160 (zi_at zh_dX12_protest_16_16 10 rfl) (zi_at zh_dX12_protest_16_16 11 rfl) (zi_at zh_dX12_protest_16_16 12 rfl) rfl
theorem dX12_protest_29 : decode cX12_protest 29 = .ok (.iconst (-1), 1) := zo_2 (zi_at zh_dX12_protest_16_16 13 rfl)
theorem dX12_protest_30 : decode cX12_protest 30 = .ok (.ireturn, 1) := zo_172 (zi_at zh_dX12_protest_16_16 14 rfl)
theorem dX12_protest_31 : decode cX12_protest 31 = .ok (.iload 4, 2) := zo_21 (zi_at zh_dX12_protest_16_16 15 rfl) (zi_at zh_dX12_protest_31_32 0 rfl)
theorem dX12_protest_33 : decode cX12_protest 33 = .ok (.iconst 0, 1) := zo_3 (zi_at zh_dX12_protest_31_32 1 rfl)
theorem dX12_protest_34 : decode cX12_protest 34 = .ok (.ldc 208, 2) := zo_18 (zi_at zh_dX12_protest_31_32 2 rfl) (zi_at zh_dX12_protest_31_32 3 rfl)
theorem dX12_protest_36 : decode cX12_protest 36 = .ok (.invokestatic 59, 3) := zo_184 (zi_at zh_dX12_protest_31_32 4 rfl) (zi_at zh_dX12_protest_31_32 5 rfl) (zi_at zh_dX12_protest_31_32 6 rfl) rfl
theorem dX12_protest_39 : decode cX12_protest 39 = .ok (.ifCond .eq 18, 3) := zo_153 (zi_at zh_dX12_protest_31_32 7 rfl) (zi_at zh_dX12_protest_31_32 8 rfl) (zi_at zh_dX12_protest_31_32 9 rfl) rfl
theorem dX12_protest_42 : decode cX12_protest 42 = .ok (.aload_n 0, 1) := zo_42 (zi_at zh_dX12_protest_31_32 10 rfl)
theorem dX12_protest_43 : decode cX12_protest 43 = .ok (.getfield 10, 3) := zo_180 (zi_at zh_dX12_protest_31_32 11 rfl) (zi_at zh_dX12_protest_31_32 12 rfl) (zi_at zh_dX12_protest_31_32 13 rfl) rfl
theorem dX12_protest_46 : decode cX12_protest 46 = .ok (.getfield 220, 3) := zo_180 (zi_at zh_dX12_protest_31_32 14 rfl) (zi_at zh_dX12_protest_31_32 15 rfl) (zi_at zh_dX12_protest_46_48 0 rfl) rfl
theorem dX12_protest_49 : decode cX12_protest 49 = .ok (.invokevirtual 77, 3) := zo_182 (zi_at zh_dX12_protest_46_48 1 rfl) (zi_at zh_dX12_protest_46_48 2 rfl) (zi_at zh_dX12_protest_46_48 3 rfl) rfl
theorem dX12_protest_52 : decode cX12_protest 52 = .ok (.bipush 30, 2) := zo_16 (zi_at zh_dX12_protest_46_48 4 rfl) (zi_at zh_dX12_protest_46_48 5 rfl) rfl
theorem dX12_protest_54 : decode cX12_protest 54 = .ok (.if_icmp .lt 5, 3) := zo_161 (zi_at zh_dX12_protest_46_48 6 rfl) (zi_at zh_dX12_protest_46_48 7 rfl) (zi_at zh_dX12_protest_46_48 8 rfl) rfl
theorem dX12_protest_57 : decode cX12_protest 57 = .ok (.iconst (-1), 1) := zo_2 (zi_at zh_dX12_protest_46_48 9 rfl)
theorem dX12_protest_58 : decode cX12_protest 58 = .ok (.ireturn, 1) := zo_172 (zi_at zh_dX12_protest_46_48 10 rfl)
theorem dX12_protest_59 : decode cX12_protest 59 = .ok (.aload_n 0, 1) := zo_42 (zi_at zh_dX12_protest_46_48 11 rfl)
theorem dX12_protest_60 : decode cX12_protest 60 = .ok (.getfield 10, 3) := zo_180 (zi_at zh_dX12_protest_46_48 12 rfl) (zi_at zh_dX12_protest_46_48 13 rfl) (zi_at zh_dX12_protest_46_48 14 rfl) rfl
theorem dX12_protest_63 : decode cX12_protest 63 = .ok (.getfield 220, 3) := zo_180 (zi_at zh_dX12_protest_46_48 15 rfl) (zi_at zh_dX12_protest_63_64 0 rfl) (zi_at zh_dX12_protest_63_64 1 rfl) rfl
theorem dX12_protest_66 : decode cX12_protest 66 = .ok (.new 223, 3) := zo_187 (zi_at zh_dX12_protest_63_64 2 rfl) (zi_at zh_dX12_protest_63_64 3 rfl) (zi_at zh_dX12_protest_63_64 4 rfl) rfl
theorem dX12_protest_69 : decode cX12_protest 69 = .ok (.dup, 1) := zo_89 (zi_at zh_dX12_protest_63_64 5 rfl)
theorem dX12_protest_70 : decode cX12_protest 70 = .ok (.iload_n 1, 1) := zo_27 (zi_at zh_dX12_protest_63_64 6 rfl)
theorem dX12_protest_71 : decode cX12_protest 71 = .ok (.iload_n 2, 1) := zo_28 (zi_at zh_dX12_protest_63_64 7 rfl)
theorem dX12_protest_72 : decode cX12_protest 72 = .ok (.iload_n 3, 1) := zo_29 (zi_at zh_dX12_protest_63_64 8 rfl)
theorem dX12_protest_73 : decode cX12_protest 73 = .ok (.iload 4, 2) := zo_21 (zi_at zh_dX12_protest_63_64 9 rfl) (zi_at zh_dX12_protest_63_64 10 rfl)
theorem dX12_protest_75 : decode cX12_protest 75 = .ok (.aload_n 0, 1) := zo_42 (zi_at zh_dX12_protest_63_64 11 rfl)
theorem dX12_protest_76 : decode cX12_protest 76 = .ok (.getfield 10, 3) := zo_180 (zi_at zh_dX12_protest_63_64 12 rfl) (zi_at zh_dX12_protest_63_64 13 rfl) (zi_at zh_dX12_protest_63_64 14 rfl) rfl
theorem dX12_protest_79 : decode cX12_protest 79 = .ok (.getfield 55, 3) := zo_180 (zi_at zh_dX12_protest_63_64 15 rfl) (zi_at zh_dX12_protest_79_80 0 rfl) (zi_at zh_dX12_protest_79_80 1 rfl) rfl
theorem dX12_protest_82 : decode cX12_protest 82 = .ok (.invokespecial 225, 3) := zo_183 (zi_at zh_dX12_protest_79_80 2 rfl) (zi_at zh_dX12_protest_79_80 3 rfl) (zi_at zh_dX12_protest_79_80 4 rfl) rfl
theorem dX12_protest_85 : decode cX12_protest 85 = .ok (.invokevirtual 88, 3) := zo_182 (zi_at zh_dX12_protest_79_80 5 rfl) (zi_at zh_dX12_protest_79_80 6 rfl) (zi_at zh_dX12_protest_79_80 7 rfl) rfl
theorem dX12_protest_88 : decode cX12_protest 88 = .ok (.pop, 1) := zo_87 (zi_at zh_dX12_protest_79_80 8 rfl)
theorem dX12_protest_89 : decode cX12_protest 89 = .ok (.aload_n 0, 1) := zo_42 (zi_at zh_dX12_protest_79_80 9 rfl)
theorem dX12_protest_90 : decode cX12_protest 90 = .ok (.getfield 10, 3) := zo_180 (zi_at zh_dX12_protest_79_80 10 rfl) (zi_at zh_dX12_protest_79_80 11 rfl) (zi_at zh_dX12_protest_79_80 12 rfl) rfl
theorem dX12_protest_93 : decode cX12_protest 93 = .ok (.getfield 220, 3) := zo_180 (zi_at zh_dX12_protest_79_80 13 rfl) (zi_at zh_dX12_protest_79_80 14 rfl) (zi_at zh_dX12_protest_79_80 15 rfl) rfl
theorem dX12_protest_96 : decode cX12_protest 96 = .ok (.invokevirtual 77, 3) := zo_182 (zi_at zh_dX12_protest_96_96 0 rfl) (zi_at zh_dX12_protest_96_96 1 rfl) (zi_at zh_dX12_protest_96_96 2 rfl) rfl
theorem dX12_protest_99 : decode cX12_protest 99 = .ok (.iconst 1, 1) := zo_4 (zi_at zh_dX12_protest_96_96 3 rfl)
theorem dX12_protest_100 : decode cX12_protest 100 = .ok (.isub, 1) := zo_100 (zi_at zh_dX12_protest_96_96 4 rfl)
theorem dX12_protest_101 : decode cX12_protest 101 = .ok (.ireturn, 1) := zo_172 (zi_at zh_dX12_protest_96_96 5 rfl)
theorem hz_yX12_isDay_1 : yX12_isDay.cls ≠ "java/lang/invoke/MethodHandle" ∧ yX12_isDay.cls ≠ "java/lang/invoke/VarHandle" ∧ (parseMethodDescriptor yX12_isDay.desc).map (fun d => d.parameters.length) = some 1 := by decide +kernel
theorem hz_yX1_init_6 : yX1_init.cls ≠ "java/lang/invoke/MethodHandle" ∧ yX1_init.cls ≠ "java/lang/invoke/VarHandle" ∧ (parseMethodDescriptor yX1_init.desc).map (fun d => d.parameters.length) = some 6 := by decide +kernel
theorem hz_yX0_isEntered_2 : yX0_isEntered.cls ≠ "java/lang/invoke/MethodHandle" ∧ yX0_isEntered.cls ≠ "java/lang/invoke/VarHandle" ∧ (parseMethodDescriptor yX0_isEntered.desc).map (fun d => d.parameters.length) = some 2 := by decide +kernel
theorem hz_yX6_init_5 : yX6_init.cls ≠ "java/lang/invoke/MethodHandle" ∧ yX6_init.cls ≠ "java/lang/invoke/VarHandle" ∧ (parseMethodDescriptor yX6_init.desc).map (fun d => d.parameters.length) = some 5 := by decide +kernel
theorem hz_yX11_init_3 : yX11_init.cls ≠ "java/lang/invoke/MethodHandle" ∧ yX11_init.cls ≠ "java/lang/invoke/VarHandle" ∧ (parseMethodDescriptor yX11_init.desc).map (fun d => d.parameters.length) = some 3 := by decide +kernel
theorem hz_yX11_say_5 : yX11_say.cls ≠ "java/lang/invoke/MethodHandle" ∧ yX11_say.cls ≠ "java/lang/invoke/VarHandle" ∧ (parseMethodDescriptor yX11_say.desc).map (fun d => d.parameters.length) = some 5 := by decide +kernel
theorem hz_yX4_init_5 : yX4_init.cls ≠ "java/lang/invoke/MethodHandle" ∧ yX4_init.cls ≠ "java/lang/invoke/VarHandle" ∧ (parseMethodDescriptor yX4_init.desc).map (fun d => d.parameters.length) = some 5 := by decide +kernel

theorem new_free {A : Nat → Prop} {w1 w2 : va_W} {H0 H : Heap} {locs : List Loc} (hD : va_D A (w1 ++ w2)) (hS : va_S A H0 H locs) (hA : ∀ q, H0.size ≤ q → A q) : ∀ z, va_A w1 H.size z → A z := by
  rintro z (⟨k, e, hk⟩ | h)
  · exact (va_D_iff.mp hD).2 _ (List.mem_append_left _ (List.mem_of_getElem? hk))
  · exact hA z (Nat.le_trans hS.1 h)
theorem all_free {A : Nat → Prop} {w1 : va_W} {H0 H : Heap} {locs : List Loc} (hD : va_D A w1) (hS : va_S A H0 H locs) (hA : ∀ q, H0.size ≤ q → A q) : ∀ z, va_A w1 H.size z → A z := by
  rintro z (⟨k, e, hk⟩ | h)
  · exact hD.2 k _ hk
  · exact hA z (Nat.le_trans hS.1 h)
theorem km1 {n J t : Nat} (ht : t < 15) (h : ∀ t', t' < 15 → (kl t' = J ↔ t' = t)) : ∀ x, x ∈ [64 * (n + 1) + t] ↔ ∃ t', t' < 15 ∧ kl t' = J ∧ x = 64 * (n + 1) + t' := by
  intro x
  rw [List.mem_singleton]
  constructor
  · intro e
    exact ⟨t, ht, (h t ht).mpr rfl, e⟩
  · rintro ⟨t', h1, h2, rfl⟩
    rw [(h t' h1).mp h2]
def v_u_certificate : List Cond := .code yX12_certificate cX12_certificate 6 (some .int) :: vA
abbrev rm_u_certificate : Room := { frames := 8, cells := 2, slots := 646, locals := 320 }
def w_u_certificate : Nat → Nat → Bool := wl [] []
set_option maxHeartbeats 4000000 in
set_option maxRecDepth 100000 in
theorem q_u_certificate (l : Launch) (dC : Nat → ClassId) (dI : Nat → Nat → Nat) (cT : Nat → ClassId) (cf : Nat → Nat) (hC : CF cf) (ad : Nat → Nat) (E : Nat → va_E) (sz : Nat) (a0 : Int32) (a1 : Int32) (a2 : Int32) (a3 : Int32) (a4 : Int32) (hI0 : IXL cT (shC cf) (spC cf) (LC cf) ad E)  : Met l yX12_certificate v_u_certificate rm_u_certificate (va_Pc [.ref (ad 0), .int a0, .int a1, .int a2, .int a3, .int a4] (HWL dC dI (TYC cT) cf ad E sz)) (va_Qi (S := (Nat → Nat) × (Nat → Nat) × (Nat → va_E)) (fun r u => Made 0 cT cf ad w_u_certificate E u (r = -1 ∧ ¬ ((0 ≤ a0.toInt ∧ a0.toInt < (xi (E 1) 1).toInt) ∧ (0 ≤ a1.toInt ∧ a1.toInt ≤ 400) ∧ (10 ≤ a2.toInt ∧ a2.toInt ≤ 400) ∧ (1 ≤ a3.toInt ∧ a3.toInt ≤ 4000) ∧ (1 ≤ a4.toInt ∧ a4.toInt ≤ 900) ∧ cf 0 < 80)) (fun e9 => r.toInt = ((cf 0 : Nat) : Int) ∧ ((0 ≤ a0.toInt ∧ a0.toInt < (xi (E 1) 1).toInt) ∧ (0 ≤ a1.toInt ∧ a1.toInt ≤ 400) ∧ (10 ≤ a2.toInt ∧ a2.toInt ≤ 400) ∧ (1 ≤ a3.toInt ∧ a3.toInt ≤ 4000) ∧ (1 ≤ a4.toInt ∧ a4.toInt ≤ 900) ∧ cf 0 < 80) ∧ e9 = .inr (2, [.int a0, .int a1, .int (xi (E 1) 0), .int a2, .int a3, .int a4]))) (fun u t => va_P (dC, dI) vwCl (WL (LC u.1) u.2.1 u.2.2) t.heap ∧ va_D (va_A (WL (LC cf) ad E) sz) (WL (LC u.1) u.2.1 u.2.2)) (va_A (WL (LC cf) ad E) sz)) 2 646 (va_A (WL (LC cf) ad E) sz) := by
  obtain ⟨⟨hc0, hc1, hc2, hc3, hc4, hc5⟩, hcr⟩ := id hC
  refine Met.ofW (cc := cX12_certificate) (maxL := 6) (ret := (some .int)) (by decide) rfl ?_
  intro p e s m args below meth c s₁ B hml hv
  obtain ⟨hargs, hsz, hP, hK, hD0, hEV⟩ := hv
  subst hsz
  have hx := B.exec
  have hb := B.bytes
  have hr := B.returns
  have hts := atoms_spec (ws := v_u_certificate) B.pre
  have hown : s.vm.findClass RX12 = some m.cls := findClass_of_methodNamed B.named
  have hlocks := B.notSynchronized
  have hinX0 : ∀ w ∈ u_ws RX0 TX0 11, w ∈ v_u_certificate := fun w h => vA_in _ w (in_X0 w h)
  have hinX1 : ∀ w ∈ u_ws RX1 TX1 6, w ∈ v_u_certificate := fun w h => vA_in _ w (in_X1 w h)
  have hinX12 : ∀ w ∈ u_ws RX12 TX12 6, w ∈ v_u_certificate := fun w h => vA_in _ w (in_X12 w h)
  generalize hAe : va_A (WL (LC cf) ad E) s.heap.size = A at hEV ⊢
  have hA : ∀ q : Nat, s.heap.size ≤ q → A q := fun q h => by rw [← hAe]; exact Or.inr h
  have hD : va_D A (WL (LC cf) ad E) := by rw [← hAe]; exact hD0.self
  have hS : va_S A s.heap s.heap [] := va_S.rf
  have hI := hI0
  have hKp : Kp w_u_certificate E E := Kp.rf
  have hl := lv_entry ([.ref (ad 0), .int a0, .int a1, .int a2, .int a3, .int a4]) (n := 6) (Nat.le_of_ble_eq_true rfl)
  obtain ⟨Q, hQ⟩ : ∃ Q, Q = MQ below (va_Qi (S := (Nat → Nat) × (Nat → Nat) × (Nat → va_E)) (fun r u => Made 0 cT cf ad w_u_certificate E u (r = -1 ∧ ¬ ((0 ≤ a0.toInt ∧ a0.toInt < (xi (E 1) 1).toInt) ∧ (0 ≤ a1.toInt ∧ a1.toInt ≤ 400) ∧ (10 ≤ a2.toInt ∧ a2.toInt ≤ 400) ∧ (1 ≤ a3.toInt ∧ a3.toInt ≤ 4000) ∧ (1 ≤ a4.toInt ∧ a4.toInt ≤ 900) ∧ cf 0 < 80)) (fun e9 => r.toInt = ((cf 0 : Nat) : Int) ∧ ((0 ≤ a0.toInt ∧ a0.toInt < (xi (E 1) 1).toInt) ∧ (0 ≤ a1.toInt ∧ a1.toInt ≤ 400) ∧ (10 ≤ a2.toInt ∧ a2.toInt ≤ 400) ∧ (1 ≤ a3.toInt ∧ a3.toInt ≤ 4000) ∧ (1 ≤ a4.toInt ∧ a4.toInt ≤ 900) ∧ cf 0 < 80) ∧ e9 = .inr (2, [.int a0, .int a1, .int (xi (E 1) 0), .int a2, .int a3, .int a4]))) (fun u t => va_P (dC, dI) vwCl (WL (LC u.1) u.2.1 u.2.2) t.heap ∧ va_D A (WL (LC u.1) u.2.1 u.2.2)) (A)) args s 2 646 (A) := ⟨_, rfl⟩
  rw [← hQ, show entryFrame m args 6 = _ from (congrArg (fun z => entryFrame m z 6) hargs).trans (lg_entry_eq _ _ _)]
  generalize (lg_sl ([.ref (ad 0), .int a0, .int a1, .int a2, .int a3, .int a4]) ++ List.replicate (6 - (lg_sl ([.ref (ad 0), .int a0, .int a1, .int a2, .int a3, .int a4])).length) Slot.unset).toArray = ls at hl ⊢
  have hl : lv_has ls 6 [(0, .ref (ad 0)), (1, .int a0), (2, .int a1), (3, .int a2), (4, .int a3), (5, .int a4)] := hl
  refine lv_aload_n hx hb dX12_certificate_0 rfl (lv_at hl 0 rfl) ?_
  refine th_getL (ci := 13) (C := RX12) (T := TX12) (N := 6) (v := .ref (ad 1)) hx hb hts hinX12 hown hK hP hI 0 (mF 0 rfl) rfl rfl 0 (Nat.le_of_ble_eq_true rfl) (hts _ (vA_in _ _ (in_10 _ (zs16 (zs1 (zs0)))))) (fun _ h9 => h9) (hI.fr 0 (mF 0 rfl) rfl (Nat.le_of_ble_eq_true rfl) 1 rfl) dX12_certificate_1 ?_
  refine lv_iload_n hx hb dX12_certificate_4 rfl (lv_at hl 1 rfl) ?_
  refine th_riL (va_runV (As := [.int a0]) (rest := []) ⟨hx, hb, hml, hown, hts⟩ (q_isBoatC l dC dI cT cf hC ad E s.heap.size a0 hI) (cwV 1 hts (gi_V (in_10 _ (zs16 (zs4 (zs4 (zs1 (zs1 (zs1 (zs0)))))))) (in_6 _ (zs4 (zs4 (zs4 (zs0))))) (in_6 _ (zs4 (zs4 (zs4 (zs1 (zs0)))))) (in_5 _ (zs4 (zs1 (zs1 (zs0))))) (in_5 _ (zs16 (zs16 (zs4 (zs1 (zs1 (zs0)))))))) rfl rfl rfl ⟨rfl, hz_yX0_isBoat_1⟩ ⟨Nat.le_of_ble_eq_true rfl, Nat.le_of_ble_eq_true rfl⟩) ⟨HWL_bl, va_recv hK hP (ci := 1) (q0 := posL 1 (LC cf)) rfl (hI.ob 1 (mF 1 rfl) rfl), (HWL_wi hP hK (WL_D hD) hS hA hEV)⟩ rfl rfl hl.1 rfl (lv_room (Nat.le_of_ble_eq_true rfl)) dX12_certificate_5 ⟨Nat.le_of_ble_eq_true rfl, Nat.le_of_ble_eq_true rfl⟩) hS hP (fun r1 H locs hw hP hS => ?_)
  rcases hw with hw | hw
  · -- isBoatC, case 0
    obtain ⟨rfl, f2, f3⟩ := hw
    have i4 : 0 ≤ (xi (E 1) 1).toInt ∧ (xi (E 1) 1).toInt ≤ 16 := hI0.iv 1 (mF 1 rfl) rfl (Nat.le_of_ble_eq_true rfl) rfl
    refine lv_if_eq (tgt := 18) hx hb dX12_certificate_8 (by decide) (fun c5 => ?_) (fun c5 => ?_)
    · --8 taken
      exact absurd c5 (by decide)
    · --8 not
      refine lv_iload_n hx hb dX12_certificate_11 rfl (lv_at hl 2 rfl) ?_
      refine th_pi (va_runS (As := [.int a1]) (rest := []) ⟨hx, hb, hml, hown, hts⟩ (q_cisDay l a1) (va_cwS 1 hts (gi_S (in_10 _ (zs16 (zs4 (zs4 (zs4 (zs0)))))) (in_10 _ (zs16 (zs4 (zs4 (zs4 (zs1 (zs0))))))) (in_4 _ (zs16 (zs4 (zs1 (zs1 (zs1 (zs0))))))) (in_10 _ (zs16 (zs4 (zs4 (zs4 (zs1 (zs1 (zs0))))))))) rfl rfl rfl hz_yX12_isDay_1 ⟨Nat.le_of_ble_eq_true rfl, Nat.le_of_ble_eq_true rfl⟩) ⟨fun _ _ _ _ q => q, fun _ _ _ => ⟨rfl, trivial⟩⟩ rfl rfl hl.1 rfl (lv_room (Nat.le_of_ble_eq_true rfl)) dX12_certificate_12 ⟨Nat.le_of_ble_eq_true rfl, Nat.le_of_ble_eq_true rfl⟩) hS (fun r6 H1 locs1 hw hk1 hS => ?_)
      have hP := ub_keep hP hk1
      generalize H1 = H at hP hS ⊢
      generalize locs1 = locs at hS ⊢
      rcases hw with hw | hw
      · -- cisDay, case 0
        obtain ⟨rfl, f7⟩ := hw
        have t8 : (0 : Int) ≤ a1.toInt := f7.1
        have t9 : a1.toInt ≤ 400 := f7.2
        have i10 : 0 ≤ a1.toInt ∧ a1.toInt ≤ 2147483647 := iv_le_r t8 (il_ 0) (iv_all _) (by decide)
        have i11 : 0 ≤ a1.toInt ∧ a1.toInt ≤ 400 := iv_le_l t9 i10 (il_ 400) (by decide)
        refine lv_if_ne (tgt := 20) hx hb dX12_certificate_15 (by decide) (fun c12 => ?_) (fun c12 => ?_)
        · --15 taken
          refine lv_iload_n hx hb dX12_certificate_20 rfl (lv_at hl 3 rfl) ?_
          refine lv_bipush (v := 10) hx hb dX12_certificate_21 (by decide) ?_
          refine lv_sipush (v := 400) hx hb dX12_certificate_23 (by decide) ?_
          refine th_pi (va_runS (As := [.int a2, .int 10, .int 400]) (rest := []) ⟨hx, hb, hml, hown, hts⟩ (q_cwithin l a2 (10 : Int32) (400 : Int32)) (va_cwS 3 hts (gi_S (in_10 _ (zs16 (zs4 (zs4 (zs4 (zs1 (zs1 (zs1 (zs0))))))))) (in_4 _ (zs16 (zs4 (zs1 (zs1 (zs0)))))) (in_4 _ (zs16 (zs4 (zs1 (zs1 (zs1 (zs0))))))) (in_4 _ (zs16 (zs4 (zs4 (zs0)))))) rfl rfl rfl hz_yX12_within_3 ⟨Nat.le_of_ble_eq_true rfl, Nat.le_of_ble_eq_true rfl⟩) ⟨fun _ _ _ _ q => q, fun _ _ _ => ⟨rfl, trivial⟩⟩ rfl rfl hl.1 rfl (lv_room (Nat.le_of_ble_eq_true rfl)) dX12_certificate_26 ⟨Nat.le_of_ble_eq_true rfl, Nat.le_of_ble_eq_true rfl⟩) hS (fun r13 H1 locs1 hw hk1 hS => ?_)
          have hP := ub_keep hP hk1
          generalize H1 = H at hP hS ⊢
          generalize locs1 = locs at hS ⊢
          rcases hw with hw | hw
          · -- cwithin, case 0
            obtain ⟨rfl, f14⟩ := hw
            have t15 : (10 : Int) ≤ a2.toInt := f14.1
            have t16 : a2.toInt ≤ 400 := f14.2
            have i17 : 10 ≤ a2.toInt ∧ a2.toInt ≤ 2147483647 := iv_le_r t15 (il_ 10) (iv_all _) (by decide)
            have i18 : 10 ≤ a2.toInt ∧ a2.toInt ≤ 400 := iv_le_l t16 i17 (il_ 400) (by decide)
            refine lv_if_eq (tgt := 56) hx hb dX12_certificate_29 (by decide) (fun c19 => ?_) (fun c19 => ?_)
            · --29 taken
              exact absurd c19 (by decide)
            · --29 not
              refine lv_iload hx hb dX12_certificate_32 (lv_at hl 4 rfl) ?_
              refine lv_iconst (v := 1) hx hb dX12_certificate_34 (by decide) ?_
              refine lv_sipush (v := 4000) hx hb dX12_certificate_35 (by decide) ?_
              refine th_pi (va_runS (As := [.int a3, .int 1, .int 4000]) (rest := []) ⟨hx, hb, hml, hown, hts⟩ (q_cwithin l a3 (1 : Int32) (4000 : Int32)) (va_cwS 3 hts (gi_S (in_10 _ (zs16 (zs4 (zs4 (zs4 (zs1 (zs1 (zs1 (zs0))))))))) (in_4 _ (zs16 (zs4 (zs1 (zs1 (zs0)))))) (in_4 _ (zs16 (zs4 (zs1 (zs1 (zs1 (zs0))))))) (in_4 _ (zs16 (zs4 (zs4 (zs0)))))) rfl rfl rfl hz_yX12_within_3 ⟨Nat.le_of_ble_eq_true rfl, Nat.le_of_ble_eq_true rfl⟩) ⟨fun _ _ _ _ q => q, fun _ _ _ => ⟨rfl, trivial⟩⟩ rfl rfl hl.1 rfl (lv_room (Nat.le_of_ble_eq_true rfl)) dX12_certificate_38 ⟨Nat.le_of_ble_eq_true rfl, Nat.le_of_ble_eq_true rfl⟩) hS (fun r20 H1 locs1 hw hk1 hS => ?_)
              have hP := ub_keep hP hk1
              generalize H1 = H at hP hS ⊢
              generalize locs1 = locs at hS ⊢
              rcases hw with hw | hw
              · -- cwithin, case 0
                obtain ⟨rfl, f21⟩ := hw
                have t22 : (1 : Int) ≤ a3.toInt := f21.1
                have t23 : a3.toInt ≤ 4000 := f21.2
                have i24 : 1 ≤ a3.toInt ∧ a3.toInt ≤ 2147483647 := iv_le_r t22 (il_ 1) (iv_all _) (by decide)
                have i25 : 1 ≤ a3.toInt ∧ a3.toInt ≤ 4000 := iv_le_l t23 i24 (il_ 4000) (by decide)
                refine lv_if_eq (tgt := 56) hx hb dX12_certificate_41 (by decide) (fun c26 => ?_) (fun c26 => ?_)
                · --41 taken
                  exact absurd c26 (by decide)
                · --41 not
                  refine lv_iload hx hb dX12_certificate_44 (lv_at hl 5 rfl) ?_
                  refine lv_iconst (v := 1) hx hb dX12_certificate_46 (by decide) ?_
                  refine lv_sipush (v := 900) hx hb dX12_certificate_47 (by decide) ?_
                  refine th_pi (va_runS (As := [.int a4, .int 1, .int 900]) (rest := []) ⟨hx, hb, hml, hown, hts⟩ (q_cwithin l a4 (1 : Int32) (900 : Int32)) (va_cwS 3 hts (gi_S (in_10 _ (zs16 (zs4 (zs4 (zs4 (zs1 (zs1 (zs1 (zs0))))))))) (in_4 _ (zs16 (zs4 (zs1 (zs1 (zs0)))))) (in_4 _ (zs16 (zs4 (zs1 (zs1 (zs1 (zs0))))))) (in_4 _ (zs16 (zs4 (zs4 (zs0)))))) rfl rfl rfl hz_yX12_within_3 ⟨Nat.le_of_ble_eq_true rfl, Nat.le_of_ble_eq_true rfl⟩) ⟨fun _ _ _ _ q => q, fun _ _ _ => ⟨rfl, trivial⟩⟩ rfl rfl hl.1 rfl (lv_room (Nat.le_of_ble_eq_true rfl)) dX12_certificate_50 ⟨Nat.le_of_ble_eq_true rfl, Nat.le_of_ble_eq_true rfl⟩) hS (fun r27 H1 locs1 hw hk1 hS => ?_)
                  have hP := ub_keep hP hk1
                  generalize H1 = H at hP hS ⊢
                  generalize locs1 = locs at hS ⊢
                  rcases hw with hw | hw
                  · -- cwithin, case 0
                    obtain ⟨rfl, f28⟩ := hw
                    have t29 : (1 : Int) ≤ a4.toInt := f28.1
                    have t30 : a4.toInt ≤ 900 := f28.2
                    have i31 : 1 ≤ a4.toInt ∧ a4.toInt ≤ 2147483647 := iv_le_r t29 (il_ 1) (iv_all _) (by decide)
                    have i32 : 1 ≤ a4.toInt ∧ a4.toInt ≤ 900 := iv_le_l t30 i31 (il_ 900) (by decide)
                    refine lv_if_ne (tgt := 58) hx hb dX12_certificate_53 (by decide) (fun c33 => ?_) (fun c33 => ?_)
                    · --53 taken
                      refine lv_aload_n hx hb dX12_certificate_58 rfl (lv_at hl 0 rfl) ?_
                      refine th_getL (ci := 13) (C := RX12) (T := TX12) (N := 6) (v := .ref (ad 1)) hx hb hts hinX12 hown hK hP hI 0 (mF 0 rfl) rfl rfl 0 (Nat.le_of_ble_eq_true rfl) (hts _ (vA_in _ _ (in_10 _ (zs16 (zs1 (zs0)))))) (fun _ h9 => h9) (hI.fr 0 (mF 0 rfl) rfl (Nat.le_of_ble_eq_true rfl) 1 rfl) dX12_certificate_59 ?_
                      refine th_getL (ci := 1) (C := RX0) (T := TX0) (N := 11) (v := .ref (ad 7)) hx hb hts hinX0 hown hK hP hI 1 (mF 1 rfl) rfl rfl 3 (Nat.le_of_ble_eq_true rfl) (hts _ (vA_in _ _ (in_10 _ (zs16 (zs4 (zs1 (zs1 (zs0)))))))) (fun _ h9 => h9) (hI.fr 1 (mF 1 rfl) rfl (Nat.le_of_ble_eq_true rfl) 7 rfl) dX12_certificate_62 ?_
                      refine th_riL (va_runV (As := []) (rest := []) ⟨hx, hb, hml, hown, hts⟩ (q_size0 l dC dI cT cf hC ad E H.size hI) (cwV 0 hts (gi_V (in_10 _ (zs16 (zs16 (zs0)))) (in_4 _ (zs16 (zs16 (zs1 (zs1 (zs1 (zs0))))))) (in_4 _ (zs16 (zs16 (zs4 (zs0))))) (in_3 _ (zs16 (zs1 (zs1 (zs0))))) (in_4 _ (zs16 (zs1 (zs1 (zs1 (zs0))))))) rfl rfl rfl ⟨rfl, hz_yJx4a65c_size_8abf5_0⟩ ⟨Nat.le_of_ble_eq_true rfl, Nat.le_of_ble_eq_true rfl⟩) ⟨HWL_bl, va_recv hK hP (ci := 0) (q0 := posL 7 (LC cf)) rfl (hI.ob 7 (mF 7 rfl) rfl), (HWL_wi hP hK (WL_D hD) hS hA hEV)⟩ rfl rfl hl.1 rfl (lv_room (Nat.le_of_ble_eq_true rfl)) dX12_certificate_65 ⟨Nat.le_of_ble_eq_true rfl, Nat.le_of_ble_eq_true rfl⟩) hS hP (fun r34 H locs hw hP hS => ?_)
                      obtain ⟨f35, f36⟩ := hw
                      refine lv_bipush (v := 80) hx hb dX12_certificate_68 (by decide) ?_
                      refine lv_icmp_lt (tgt := 75) hx hb dX12_certificate_70 (by decide) (fun c37 => ?_) (fun c37 => ?_)
                      · --70 taken
                        have t38 : r34.toInt < 80 := ti_lt c37
                        have i39 : 0 ≤ r34.toInt ∧ r34.toInt ≤ 79 := iv_lt_l t38 f35 (il_ 80) (by decide)
                        refine lv_aload_n hx hb dX12_certificate_75 rfl (lv_at hl 0 rfl) ?_
                        refine th_getL (ci := 13) (C := RX12) (T := TX12) (N := 6) (v := .ref (ad 1)) hx hb hts hinX12 hown hK hP hI 0 (mF 0 rfl) rfl rfl 0 (Nat.le_of_ble_eq_true rfl) (hts _ (vA_in _ _ (in_10 _ (zs16 (zs1 (zs0)))))) (fun _ h9 => h9) (hI.fr 0 (mF 0 rfl) rfl (Nat.le_of_ble_eq_true rfl) 1 rfl) dX12_certificate_76 ?_
                        refine th_getL (ci := 1) (C := RX0) (T := TX0) (N := 11) (v := .ref (ad 7)) hx hb hts hinX0 hown hK hP hI 1 (mF 1 rfl) rfl rfl 3 (Nat.le_of_ble_eq_true rfl) (hts _ (vA_in _ _ (in_10 _ (zs16 (zs4 (zs1 (zs1 (zs0)))))))) (fun _ h9 => h9) (hI.fr 1 (mF 1 rfl) rfl (Nat.le_of_ble_eq_true rfl) 7 rfl) dX12_certificate_79 ?_
                        refine va_new (ci := 2) (fs := [.int 0, .int 0, .int 0, .int 0, .int 0, .int 0]) (C := RX1) (T := TX1) (N := 6) hx hb hts hinX1 tyX1 tyX1_ok hown (hts _ (vA_in _ _ (in_10 _ (zs16 (zs4 (zs1 (zs1 (zs1 (zs0))))))))) (hts _ (vA_in _ _ (in_10 _ (zs16 (zs4 (zs4 (zs0))))))) (hts _ (vA_in _ _ (in_10 _ (zs16 (zs4 (zs4 (zs1 (zs0)))))))) hK hP (WL_D hD) hS hA rfl (fun j hj => by rcases (show j = 0 ∨ j = 1 ∨ j = 2 ∨ j = 3 ∨ j = 4 ∨ j = 5 by omega) with rfl | rfl | rfl | rfl | rfl | rfl <;> rfl) (Nat.le_of_ble_eq_true rfl) (Nat.le_of_ble_eq_true rfl) dX12_certificate_82 (fun qn H hP2 hD2 hS => ?_)
                        have hP2 : va_P (dC, dI) vwCl ([(qn, .inr (2, [.int 0, .int 0, .int 0, .int 0, .int 0, .int 0]))] ++ WL (LC cf) ad E) H := va_P_perm hP2 List.perm_append_comm
                        have hD2 : va_D A ([(qn, .inr (2, [.int 0, .int 0, .int 0, .int 0, .int 0, .int 0]))] ++ WL (LC cf) ad E) := va_D_perm hD2 List.perm_append_comm
                        have hP : va_P (dC, dI) vwCl (WL (LC cf) ad E) H := va_P_sub hP2 (fun x hx => List.mem_append_right _ hx)
                        refine lv_dup hx hb dX12_certificate_85 rfl ?_
                        refine lv_iload_n hx hb dX12_certificate_86 rfl (lv_at hl 1 rfl) ?_
                        refine lv_iload_n hx hb dX12_certificate_87 rfl (lv_at hl 2 rfl) ?_
                        refine lv_aload_n hx hb dX12_certificate_88 rfl (lv_at hl 0 rfl) ?_
                        refine th_getL (ci := 13) (C := RX12) (T := TX12) (N := 6) (v := .ref (ad 1)) hx hb hts hinX12 hown hK hP hI 0 (mF 0 rfl) rfl rfl 0 (Nat.le_of_ble_eq_true rfl) (hts _ (vA_in _ _ (in_10 _ (zs16 (zs1 (zs0)))))) (fun _ h9 => h9) (hI.fr 0 (mF 0 rfl) rfl (Nat.le_of_ble_eq_true rfl) 1 rfl) dX12_certificate_89 ?_
                        have i40 : 0 ≤ (xi (E 1) 0).toInt ∧ (xi (E 1) 0).toInt ≤ 400 := hI0.iv 1 (mF 1 rfl) rfl (Nat.le_of_ble_eq_true rfl) rfl
                        refine th_getL (ci := 1) (C := RX0) (T := TX0) (N := 11) (v := .int (xi (E 1) 0)) hx hb hts hinX0 hown hK hP hI 1 (mF 1 rfl) rfl rfl 0 (Nat.le_of_ble_eq_true rfl) (hts _ (vA_in _ _ (in_10 _ (zs16 (zs4 (zs4 (zs1 (zs1 (zs0))))))))) (fun _ h9 => h9) (th_v0L hKp hI0 1 (mF 1 rfl) rfl (Nat.le_of_ble_eq_true rfl) rfl rfl) dX12_certificate_92 ?_
                        refine lv_iload_n hx hb dX12_certificate_95 rfl (lv_at hl 3 rfl) ?_
                        refine lv_iload hx hb dX12_certificate_96 (lv_at hl 4 rfl) ?_
                        refine lv_iload hx hb dX12_certificate_98 (lv_at hl 5 rfl) ?_
                        have hPc := va_P_sub (ws' := [(qn, .inr (2, [.int 0, .int 0, .int 0, .int 0, .int 0, .int 0]))]) hP2 (fun x hx => List.mem_append_left _ hx)
                        have hDc := va_D_left hD2
                        have hFc : ∀ z, va_A [(qn, .inr (2, [.int 0, .int 0, .int 0, .int 0, .int 0, .int 0]))] H.size z → A z := new_free hD2 hS hA
                        refine va_callv (va_runI (As := [.int a0, .int a1, .int (xi (E 1) 0), .int a2, .int a3, .int a4]) (rest := [.ref qn, .ref (ad 7)]) ⟨hx, hb, hml, hown, hts⟩ (x_Cert l dC dI qn a0 a1 (xi (E 1) 0) a2 a3 a4 H.size) (cwI 6 hts (gi_0 (in_10 _ (zs16 (zs16 (zs1 (zs1 (zs1 (zs0)))))))) rfl rfl rfl (hts _ (vA_in _ _ (in_10 _ (zs16 (zs4 (zs4 (zs1 (zs0)))))))) (hts _ (vA_in _ _ (in_10 _ (zs16 (zs16 (zs1 (zs0))))))) (hts _ (vA_in _ _ (in_10 _ (zs16 (zs16 (zs1 (zs1 (zs0)))))))) rfl hz_yX1_init_6 ⟨Nat.le_of_ble_eq_true rfl, Nat.le_of_ble_eq_true rfl⟩) ⟨fun a U g mk q => by obtain ⟨e0, e1, qP, qK, qD⟩ := q; exact ⟨e0, e1, qP, va_K.moved (u := U) (U := U.calling g mk a) (Vm.Alike.refl U.vm) qK, qD⟩, fun U hU hW => ⟨rfl, by rw [hU], by rw [hU]; exact hPc, va_K.moved hW.alike (hK.sub (tys' := []) [] rfl), hDc.weaken (fun _ _ _ _ => trivial)⟩⟩ rfl rfl hl.1 rfl (lv_room (Nat.le_of_ble_eq_true rfl)) dX12_certificate_100 ⟨Nat.le_of_ble_eq_true rfl, Nat.le_of_ble_eq_true rfl⟩) hS (fun z _ h => hFc z h) hFc (fun u1 t H1 locs ht hvm hw hB hz1 hk1 hS => ?_)
                        obtain ⟨hP1, -, hD1⟩ := hB
                        rw [ht] at hP1
                        obtain ⟨hP2, hD2⟩ := va_joinQ (wr := []) hP2 hD2 [0] [] rfl rfl rfl (fun _ h => nomatch h) hk1 hFc hP1 hD1
                        have hP2 : va_P (dC, dI) vwCl ([(qn, .inr (2, [.int a0, .int a1, .int (xi (E 1) 0), .int a2, .int a3, .int a4]))] ++ WL (LC cf) ad E) H1 := hP2
                        have hD2 : va_D A ([(qn, .inr (2, [.int a0, .int a1, .int (xi (E 1) 0), .int a2, .int a3, .int a4]))] ++ WL (LC cf) ad E) := hD2
                        generalize H1 = H at hP2 hS ⊢
                        have hP : va_P (dC, dI) vwCl (WL (LC cf) ad E) H := va_P_sub hP2 (fun x hx => List.mem_append_right _ hx)
                        obtain ⟨ad1, had1⟩ : ∃ z, z = va_up ad (64 * (cf 0 + 1) + 0) qn := ⟨_, rfl⟩
                        obtain ⟨E1, hE1⟩ : ∃ z : Nat → va_E, z = va_up E (64 * (cf 0 + 1) + 0) (.inr (2, [.int a0, .int a1, .int (xi (E 1) 0), .int a2, .int a3, .int a4])) := ⟨_, rfl⟩
                        have huq : ∀ t', t' < 15 → (kl t' = 0 ↔ t' = 0) := by decide
                        have hKM := km1 (n := cf 0) (J := 0) (t := 0) (by decide) huq
                        have hko : (64 * (cf 0 + 1) + 0) ∉ LC cf := K_out (J := 0) (by decide) hKM _ (List.mem_singleton.mpr rfl)
                        have haa : ∀ o, o ∈ LC cf → ad1 o = ad o := fun o h => by rw [had1]; exact va_up_ne _ _ (fun e => hko (e ▸ h))
                        have hee : ∀ o, o ∈ LC cf → E1 o = E o := fun o h => by rw [hE1]; exact va_up_ne _ _ (fun e => hko (e ▸ h))
                        have aq : ad1 (64 * (cf 0 + 1) + 0) = qn := by rw [had1]; exact va_up_self _ _ _
                        have eq : E1 (64 * (cf 0 + 1) + 0) = .inr (2, [.int a0, .int a1, .int (xi (E 1) 0), .int a2, .int a3, .int a4]) := by rw [hE1]; exact va_up_self _ _ _
                        have hw9 : WL ([(64 * (cf 0 + 1) + 0)] ++ LC cf) ad1 E1 = [(qn, .inr (2, [.int a0, .int a1, .int (xi (E 1) 0), .int a2, .int a3, .int a4]))] ++ WL (LC cf) ad E := by
                          show (ad1 (64 * (cf 0 + 1) + 0), E1 (64 * (cf 0 + 1) + 0)) :: WL (LC cf) ad1 E1 = _
                          rw [aq, eq, WL_congr (ad' := ad) (E' := E) fun o h => ⟨haa o h, hee o h⟩]
                          rfl
                        rw [← hw9] at hP2 hD2
                        have hI1 := IX_ad hI hC haa hee
                        have hlt : cf 0 < 80 := by omega
                        obtain ⟨hG, hCn⟩ := CF_up hC (J := 0) (by decide) (m := 80) rfl hlt (by decide)
                        have hnew : ∀ t', t' < 15 → kl t' = 0 → okS cT (shP (va_up cf 0 (cf 0 + 1)) t' (cf 0)) (E1 (64 * (cf 0 + 1) + t')) ∧ ∀ j, j < (shP (va_up cf 0 (cf 0 + 1)) t' (cf 0)).2.2 → okV ad1 (spP (va_up cf 0 (cf 0 + 1)) t' (cf 0) j) (xv (E1 (64 * (cf 0 + 1) + t')) j) := by
                          intro t' h1 h2
                          obtain rfl : t' = 0 := (huq t' h1).mp h2
                          rw [eq]
                          refine ⟨rfl, fun j hj => ?_⟩
                          have hj : j < 6 := hj
                          rcases (show j = 0 ∨ j = 1 ∨ j = 2 ∨ j = 3 ∨ j = 4 ∨ j = 5 by omega) with rfl | rfl | rfl | rfl | rfl | rfl
                          · exact okI rfl f3
                          · exact okI rfl i11
                          · exact okI rfl i40
                          · exact okI rfl (iv_w i18 (by decide))
                          · exact okI rfl (iv_w i25 (by decide))
                          · exact okI rfl (iv_w i32 (by decide))
                        have hM := k_addW l dC dI cT cf hC ad1 E1 (va_up cf 0 (cf 0 + 1)) 0 (by decide) hG (by omega) [(64 * (cf 0 + 1) + 0)] (by simp) hKM 2 RX1 TX1 6 _ rfl (fun _ => rfl) (List.mem_of_getElem? (i := 0) rfl) eq H.size hI1 hnew
                        rw [show ad1 (7 + 0) = ad 7 from haa _ (mF _ rfl), show ad1 (64 * (cf 0 + 1) + lkd 0) = qn from aq] at hM
                        have hFA := all_free hD2 hS hA
                        refine va_calli (va_runV (As := [.ref qn]) (rest := []) ⟨hx, hb, hml, hown, hts⟩ hM (cwV 1 hts (gi_V (in_11 _ (zs1 (zs1 (zs1 (zs0))))) (in_11 _ (zs4 (zs0))) (in_11 _ (zs4 (zs1 (zs0)))) (in_3 _ (zs16 (zs1 (zs1 (zs0))))) (in_3 _ (zs16 (zs16 (zs0))))) rfl rfl rfl (by decide +kernel) ⟨Nat.le_of_ble_eq_true rfl, Nat.le_of_ble_eq_true rfl⟩) ⟨fun a U g mk q => by obtain ⟨e0, e1, qP, qK, qD, qE⟩ := q; exact ⟨e0, e1, qP, va_K.moved (u := U) (U := U.calling g mk a) (Vm.Alike.refl U.vm) qK, qD, EVC_c qE⟩, va_recv hK hP (ci := 0) (q0 := posL 7 (LC cf)) rfl (hI.ob 7 (mF 7 rfl) rfl), fun U hU hW => ⟨rfl, by rw [hU], by rw [hU]; exact hP2, va_K.moved hW.alike hK, hD2.weaken (fun _ _ _ _ => trivial), EVC_w hU hW hS hFA hEV⟩⟩ rfl rfl hl.1 rfl (lv_room (Nat.le_of_ble_eq_true rfl)) dX12_certificate_103 ⟨Nat.le_of_ble_eq_true rfl, Nat.le_of_ble_eq_true rfl⟩) hS (fun z _ h => hFA z h) hFA (fun r9 u9 t H1 locs ht hvm hw hB hz1 hk1 hS => ?_)
                        obtain ⟨rfl, hI9, a9, e9⟩ := hw
                        obtain ⟨hP9, hD9⟩ := hB
                        rw [ht] at hP9
                        have hD9 := hD9.weaken (B := A) (fun _ _ _ h => hFA _ h)
                        generalize H1 = H at hP9 hS ⊢
                        obtain ⟨ad9, E9⟩ := u9
                        dsimp only at hI9 a9 e9 hP9 hD9
                        have had9 : ∀ o, o ≠ 13 + 0 → (∀ t, t < 15 → kl t = 0 → o ≠ 64 * (cf 0 + 1) + t) → ad9 o = ad o := fun o h1 h2 => (a9 o h1).trans (by rw [had1]; exact va_up_ne _ _ (h2 0 (by decide) rfl))
                        have hkg : KpG 0 cf w_u_certificate E E9 := fun o j h1 h2 h3 h4 => by have h5 := hKp o j h4; rw [← h5]; rw [e9 o h1 h2, hE1, va_up_ne _ _ (h3 0 (by decide) rfl)]
                        have hob : E9 (64 * (cf 0 + 1) + lkd 0) = .inr (2, [.int a0, .int a1, .int (xi (E 1) 0), .int a2, .int a3, .int a4]) := (e9 _ (by show 64 * (cf 0 + 1) + 0 ≠ _; omega) (by show 64 * (cf 0 + 1) + 0 ≠ _; omega)).trans eq
                        refine lv_pop hx hb dX12_certificate_106 rfl ?_
                        refine lv_aload_n hx hb dX12_certificate_107 rfl (lv_at hl 0 rfl) ?_
                        rw [show ad 0 = ad9 0 from (had9 0 (by decide) (fun t h1 h2 => by omega)).symm]
                        refine th_getL (ci := 13) (C := RX12) (T := TX12) (N := 6) (v := .ref (ad9 1)) hx hb hts hinX12 hown hK hP9 hI9 0 (mF 0 rfl) rfl rfl 0 (Nat.le_of_ble_eq_true rfl) (hts _ (vA_in _ _ (in_10 _ (zs16 (zs1 (zs0)))))) (fun _ h9 => h9) (hI9.fr 0 (mF 0 rfl) rfl (Nat.le_of_ble_eq_true rfl) 1 rfl) dX12_certificate_108 ?_
                        refine th_getL (ci := 1) (C := RX0) (T := TX0) (N := 11) (v := .ref (ad9 7)) hx hb hts hinX0 hown hK hP9 hI9 1 (mF 1 rfl) rfl rfl 3 (Nat.le_of_ble_eq_true rfl) (hts _ (vA_in _ _ (in_10 _ (zs16 (zs4 (zs1 (zs1 (zs0)))))))) (fun _ h9 => h9) (hI9.fr 1 (mF 1 rfl) rfl (Nat.le_of_ble_eq_true rfl) 7 rfl) dX12_certificate_111 ?_
                        refine th_riL (va_runV (As := []) (rest := []) ⟨hx, hb, hml, hown, hts⟩ (q_size0 l dC dI cT (va_up cf 0 (cf 0 + 1)) hCn ad9 E9 H.size hI9) (cwV 0 hts (gi_V (in_10 _ (zs16 (zs16 (zs0)))) (in_4 _ (zs16 (zs16 (zs1 (zs1 (zs1 (zs0))))))) (in_4 _ (zs16 (zs16 (zs4 (zs0))))) (in_3 _ (zs16 (zs1 (zs1 (zs0))))) (in_4 _ (zs16 (zs1 (zs1 (zs1 (zs0))))))) rfl rfl rfl ⟨rfl, hz_yJx4a65c_size_8abf5_0⟩ ⟨Nat.le_of_ble_eq_true rfl, Nat.le_of_ble_eq_true rfl⟩) ⟨HWL_bl, va_recv hK hP9 (ci := 0) (q0 := posL 7 (LC (va_up cf 0 (cf 0 + 1)))) rfl (hI9.ob 7 (mF 7 rfl) rfl), HWL_wi hP9 hK hD9 hS hA (by rw [show (va_up cf 0 (cf 0 + 1)) 6 = cf 6 from va_up_ne _ _ (by decide)]; exact hEV)⟩ rfl rfl hl.1 rfl (lv_room (Nat.le_of_ble_eq_true rfl)) dX12_certificate_114 ⟨Nat.le_of_ble_eq_true rfl, Nat.le_of_ble_eq_true rfl⟩) hS hP9 (fun r8 H locs hw8 hP9 hS => ?_)
                        obtain ⟨i8, t8⟩ := hw8
                        rw [show (va_up cf 0 (cf 0 + 1)) 0 = cf 0 + 1 from va_up_self _ _ _] at t8
                        refine lv_iconst (v := 1) hx hb dX12_certificate_117 (by decide) ?_
                        refine lv_isub hx hb dX12_certificate_118 ?_
                        refine lv_topi (fun y8 e8 => ?_)
                        obtain ⟨ty8, iy8⟩ := ti_sub (e := -1) (f := 300) i8 ln_1 e8 (by decide)
                        have l1 : (1 : Int32).toInt = 1 := rfl
                        rw [hQ]
                        refine W.widen (k := 2) (n := 646) (by first | exact Nat.le_of_ble_eq_true rfl | omega) (by first | exact Nat.le_of_ble_eq_true rfl | omega) ?_
                        exact W.iret (v := y8) hx hb hr (fun t ht hW => ⟨⟨y8, ((va_up cf 0 (cf 0 + 1)), ad9, E9), rfl, ⟨hCn, hI9, Or.inr ⟨hG, had9, hkg, (by omega), (by  omega), hob⟩⟩, by rw [ht]; exact hP9, hD9⟩, hS.F ht⟩) hS.2.2 dX12_certificate_119
                      · --70 not
                        have t41 : (80 : Int) ≤ r34.toInt := ti_nlt c37
                        have i42 : 80 ≤ r34.toInt ∧ r34.toInt ≤ 80 := iv_le_r t41 (il_ 80) f35 (by decide)
                        refine lv_iconst (v := -1) hx hb dX12_certificate_73 (by decide) ?_
                        have zm1 := ln_m1
                        rw [hQ]
                        refine W.widen (k := 2) (n := 646) (by first | exact Nat.le_of_ble_eq_true rfl | omega) (by first | exact Nat.le_of_ble_eq_true rfl | omega) ?_
                        exact W.iret (v := (-1)) hx hb hr (fun t ht hW => ⟨⟨(-1), (cf, ad, E), rfl, ⟨hC, hI, Or.inl ⟨rfl, rfl, hKp, rfl, by omega⟩⟩, by rw [ht]; exact hP, (WL_D hD)⟩, hS.F ht⟩) hS.2.2 dX12_certificate_74
                    · --53 not
                      exact absurd c33 (by decide)
                  · -- cwithin, case 1
                    obtain ⟨rfl, f43⟩ := hw
                    have t44 : ¬ ((1 : Int) ≤ a4.toInt ∧ a4.toInt ≤ 900) := f43
                    refine lv_if_ne (tgt := 58) hx hb dX12_certificate_53 (by decide) (fun c45 => ?_) (fun c45 => ?_)
                    · --53 taken
                      exact absurd c45 (by decide)
                    · --53 not
                      refine lv_iconst (v := -1) hx hb dX12_certificate_56 (by decide) ?_
                      have zm1 := ln_m1
                      rw [hQ]
                      refine W.widen (k := 2) (n := 646) (by first | exact Nat.le_of_ble_eq_true rfl | omega) (by first | exact Nat.le_of_ble_eq_true rfl | omega) ?_
                      exact W.iret (v := (-1)) hx hb hr (fun t ht hW => ⟨⟨(-1), (cf, ad, E), rfl, ⟨hC, hI, Or.inl ⟨rfl, rfl, hKp, rfl, by omega⟩⟩, by rw [ht]; exact hP, (WL_D hD)⟩, hS.F ht⟩) hS.2.2 dX12_certificate_57
              · -- cwithin, case 1
                obtain ⟨rfl, f46⟩ := hw
                have t47 : ¬ ((1 : Int) ≤ a3.toInt ∧ a3.toInt ≤ 4000) := f46
                refine lv_if_eq (tgt := 56) hx hb dX12_certificate_41 (by decide) (fun c48 => ?_) (fun c48 => ?_)
                · --41 taken
                  refine lv_iconst (v := -1) hx hb dX12_certificate_56 (by decide) ?_
                  have zm1 := ln_m1
                  rw [hQ]
                  refine W.widen (k := 2) (n := 646) (by first | exact Nat.le_of_ble_eq_true rfl | omega) (by first | exact Nat.le_of_ble_eq_true rfl | omega) ?_
                  exact W.iret (v := (-1)) hx hb hr (fun t ht hW => ⟨⟨(-1), (cf, ad, E), rfl, ⟨hC, hI, Or.inl ⟨rfl, rfl, hKp, rfl, by omega⟩⟩, by rw [ht]; exact hP, (WL_D hD)⟩, hS.F ht⟩) hS.2.2 dX12_certificate_57
                · --41 not
                  exact absurd c48 (by decide)
          · -- cwithin, case 1
            obtain ⟨rfl, f49⟩ := hw
            have t50 : ¬ ((10 : Int) ≤ a2.toInt ∧ a2.toInt ≤ 400) := f49
            refine lv_if_eq (tgt := 56) hx hb dX12_certificate_29 (by decide) (fun c51 => ?_) (fun c51 => ?_)
            · --29 taken
              refine lv_iconst (v := -1) hx hb dX12_certificate_56 (by decide) ?_
              have zm1 := ln_m1
              rw [hQ]
              refine W.widen (k := 2) (n := 646) (by first | exact Nat.le_of_ble_eq_true rfl | omega) (by first | exact Nat.le_of_ble_eq_true rfl | omega) ?_
              exact W.iret (v := (-1)) hx hb hr (fun t ht hW => ⟨⟨(-1), (cf, ad, E), rfl, ⟨hC, hI, Or.inl ⟨rfl, rfl, hKp, rfl, by omega⟩⟩, by rw [ht]; exact hP, (WL_D hD)⟩, hS.F ht⟩) hS.2.2 dX12_certificate_57
            · --29 not
              exact absurd c51 (by decide)
        · --15 not
          exact absurd c12 (by decide)
      · -- cisDay, case 1
        obtain ⟨rfl, f52⟩ := hw
        have t53 : ¬ ((0 : Int) ≤ a1.toInt ∧ a1.toInt ≤ 400) := f52
        refine lv_if_ne (tgt := 20) hx hb dX12_certificate_15 (by decide) (fun c54 => ?_) (fun c54 => ?_)
        · --15 taken
          exact absurd c54 (by decide)
        · --15 not
          refine lv_iconst (v := -1) hx hb dX12_certificate_18 (by decide) ?_
          have zm1 := ln_m1
          rw [hQ]
          refine W.widen (k := 2) (n := 646) (by first | exact Nat.le_of_ble_eq_true rfl | omega) (by first | exact Nat.le_of_ble_eq_true rfl | omega) ?_
          exact W.iret (v := (-1)) hx hb hr (fun t ht hW => ⟨⟨(-1), (cf, ad, E), rfl, ⟨hC, hI, Or.inl ⟨rfl, rfl, hKp, rfl, by omega⟩⟩, by rw [ht]; exact hP, (WL_D hD)⟩, hS.F ht⟩) hS.2.2 dX12_certificate_19
  · -- isBoatC, case 1
    obtain ⟨rfl, f55⟩ := hw
    have i56 : 0 ≤ (xi (E 1) 1).toInt ∧ (xi (E 1) 1).toInt ≤ 16 := hI0.iv 1 (mF 1 rfl) rfl (Nat.le_of_ble_eq_true rfl) rfl
    refine lv_if_eq (tgt := 18) hx hb dX12_certificate_8 (by decide) (fun c57 => ?_) (fun c57 => ?_)
    · --8 taken
      refine lv_iconst (v := -1) hx hb dX12_certificate_18 (by decide) ?_
      have zm1 := ln_m1
      rw [hQ]
      refine W.widen (k := 2) (n := 646) (by first | exact Nat.le_of_ble_eq_true rfl | omega) (by first | exact Nat.le_of_ble_eq_true rfl | omega) ?_
      exact W.iret (v := (-1)) hx hb hr (fun t ht hW => ⟨⟨(-1), (cf, ad, E), rfl, ⟨hC, hI, Or.inl ⟨rfl, rfl, hKp, rfl, by omega⟩⟩, by rw [ht]; exact hP, (WL_D hD)⟩, hS.F ht⟩) hS.2.2 dX12_certificate_19
    · --8 not
      exact absurd c57 (by decide)
def v_u_result : List Cond := .code yX12_result cX12_result 6 (some .boolean) :: vA
abbrev rm_u_result : Room := { frames := 8, cells := 2, slots := 645, locals := 320 }
def w_u_result : Nat → Nat → Bool := wl [] []
set_option maxHeartbeats 4000000 in
set_option maxRecDepth 100000 in
theorem q_u_result (l : Launch) (dC : Nat → ClassId) (dI : Nat → Nat → Nat) (cT : Nat → ClassId) (cf : Nat → Nat) (hC : CF cf) (ad : Nat → Nat) (E : Nat → va_E) (sz : Nat) (a0 : Int32) (a1 : Int32) (a2 : Int32) (a3 : Int32) (hI0 : IXL cT (shC cf) (spC cf) (LC cf) ad E)  : Met l yX12_result v_u_result rm_u_result (va_Pc [.ref (ad 0), .int a0, .int a1, .int a2, .int a3] (HWL dC dI (TYC cT) cf ad E sz)) (va_Qi (S := (Nat → Nat) × (Nat → Nat) × (Nat → va_E)) (fun r u => Made 3 cT cf ad w_u_result E u (r = 0 ∧ ¬ ((0 ≤ a0.toInt ∧ a0.toInt < ((cf 2 : Nat) : Int)) ∧ (0 ≤ a1.toInt ∧ a1.toInt < (xi (E 1) 1).toInt) ∧ (¬ (xi (E (64 * (a0.toNatClampNeg + 1) + 7)) a1.toNatClampNeg).toInt = -1 ∧ (xi (E (64 * (a0.toNatClampNeg + 1) + 7)) a1.toNatClampNeg).toInt ≤ (xi (E 1) 0).toInt) ∧ (0 ≤ a2.toInt ∧ a2.toInt ≤ 4) ∧ ((a2.toInt = 0 ∧ 1 ≤ a3.toInt ∧ a3.toInt ≤ 200000) ∨ (¬ a2.toInt = 0 ∧ a3.toInt = 0)) ∧ cf 3 < 300)) (fun e9 => r = 1 ∧ ((0 ≤ a0.toInt ∧ a0.toInt < ((cf 2 : Nat) : Int)) ∧ (0 ≤ a1.toInt ∧ a1.toInt < (xi (E 1) 1).toInt) ∧ (¬ (xi (E (64 * (a0.toNatClampNeg + 1) + 7)) a1.toNatClampNeg).toInt = -1 ∧ (xi (E (64 * (a0.toNatClampNeg + 1) + 7)) a1.toNatClampNeg).toInt ≤ (xi (E 1) 0).toInt) ∧ (0 ≤ a2.toInt ∧ a2.toInt ≤ 4) ∧ ((a2.toInt = 0 ∧ 1 ≤ a3.toInt ∧ a3.toInt ≤ 200000) ∨ (¬ a2.toInt = 0 ∧ a3.toInt = 0)) ∧ cf 3 < 300) ∧ e9 = .inr (7, [.int a0, .int a1, .int a2, .int a3, .int (xi (E 1) 0)]))) (fun u t => va_P (dC, dI) vwCl (WL (LC u.1) u.2.1 u.2.2) t.heap ∧ va_D (va_A (WL (LC cf) ad E) sz) (WL (LC u.1) u.2.1 u.2.2)) (va_A (WL (LC cf) ad E) sz)) 2 645 (va_A (WL (LC cf) ad E) sz) := by
  obtain ⟨⟨hc0, hc1, hc2, hc3, hc4, hc5⟩, hcr⟩ := id hC
  refine Met.ofW (cc := cX12_result) (maxL := 6) (ret := (some .boolean)) (by decide) rfl ?_
  intro p e s m args below meth c s₁ B hml hv
  obtain ⟨hargs, hsz, hP, hK, hD0, hEV⟩ := hv
  subst hsz
  have hx := B.exec
  have hb := B.bytes
  have hr := B.returns
  have hts := atoms_spec (ws := v_u_result) B.pre
  have hown : s.vm.findClass RX12 = some m.cls := findClass_of_methodNamed B.named
  have hlocks := B.notSynchronized
  have hinX0 : ∀ w ∈ u_ws RX0 TX0 11, w ∈ v_u_result := fun w h => vA_in _ w (in_X0 w h)
  have hinX12 : ∀ w ∈ u_ws RX12 TX12 6, w ∈ v_u_result := fun w h => vA_in _ w (in_X12 w h)
  have hinX6 : ∀ w ∈ u_ws RX6 TX6 5, w ∈ v_u_result := fun w h => vA_in _ w (in_X6 w h)
  generalize hAe : va_A (WL (LC cf) ad E) s.heap.size = A at hEV ⊢
  have hA : ∀ q : Nat, s.heap.size ≤ q → A q := fun q h => by rw [← hAe]; exact Or.inr h
  have hD : va_D A (WL (LC cf) ad E) := by rw [← hAe]; exact hD0.self
  have hS : va_S A s.heap s.heap [] := va_S.rf
  have hI := hI0
  have hKp : Kp w_u_result E E := Kp.rf
  have hl := lv_entry ([.ref (ad 0), .int a0, .int a1, .int a2, .int a3]) (n := 6) (Nat.le_of_ble_eq_true rfl)
  obtain ⟨Q, hQ⟩ : ∃ Q, Q = MQ below (va_Qi (S := (Nat → Nat) × (Nat → Nat) × (Nat → va_E)) (fun r u => Made 3 cT cf ad w_u_result E u (r = 0 ∧ ¬ ((0 ≤ a0.toInt ∧ a0.toInt < ((cf 2 : Nat) : Int)) ∧ (0 ≤ a1.toInt ∧ a1.toInt < (xi (E 1) 1).toInt) ∧ (¬ (xi (E (64 * (a0.toNatClampNeg + 1) + 7)) a1.toNatClampNeg).toInt = -1 ∧ (xi (E (64 * (a0.toNatClampNeg + 1) + 7)) a1.toNatClampNeg).toInt ≤ (xi (E 1) 0).toInt) ∧ (0 ≤ a2.toInt ∧ a2.toInt ≤ 4) ∧ ((a2.toInt = 0 ∧ 1 ≤ a3.toInt ∧ a3.toInt ≤ 200000) ∨ (¬ a2.toInt = 0 ∧ a3.toInt = 0)) ∧ cf 3 < 300)) (fun e9 => r = 1 ∧ ((0 ≤ a0.toInt ∧ a0.toInt < ((cf 2 : Nat) : Int)) ∧ (0 ≤ a1.toInt ∧ a1.toInt < (xi (E 1) 1).toInt) ∧ (¬ (xi (E (64 * (a0.toNatClampNeg + 1) + 7)) a1.toNatClampNeg).toInt = -1 ∧ (xi (E (64 * (a0.toNatClampNeg + 1) + 7)) a1.toNatClampNeg).toInt ≤ (xi (E 1) 0).toInt) ∧ (0 ≤ a2.toInt ∧ a2.toInt ≤ 4) ∧ ((a2.toInt = 0 ∧ 1 ≤ a3.toInt ∧ a3.toInt ≤ 200000) ∨ (¬ a2.toInt = 0 ∧ a3.toInt = 0)) ∧ cf 3 < 300) ∧ e9 = .inr (7, [.int a0, .int a1, .int a2, .int a3, .int (xi (E 1) 0)]))) (fun u t => va_P (dC, dI) vwCl (WL (LC u.1) u.2.1 u.2.2) t.heap ∧ va_D A (WL (LC u.1) u.2.1 u.2.2)) (A)) args s 2 645 (A) := ⟨_, rfl⟩
  rw [← hQ, show entryFrame m args 6 = _ from (congrArg (fun z => entryFrame m z 6) hargs).trans (lg_entry_eq _ _ _)]
  generalize (lg_sl ([.ref (ad 0), .int a0, .int a1, .int a2, .int a3]) ++ List.replicate (6 - (lg_sl ([.ref (ad 0), .int a0, .int a1, .int a2, .int a3])).length) Slot.unset).toArray = ls at hl ⊢
  have hl : lv_has ls 6 [(0, .ref (ad 0)), (1, .int a0), (2, .int a1), (3, .int a2), (4, .int a3)] := hl
  refine lv_aload_n hx hb dX12_result_0 rfl (lv_at hl 0 rfl) ?_
  refine th_getL (ci := 13) (C := RX12) (T := TX12) (N := 6) (v := .ref (ad 1)) hx hb hts hinX12 hown hK hP hI 0 (mF 0 rfl) rfl rfl 0 (Nat.le_of_ble_eq_true rfl) (hts _ (vA_in _ _ (in_10 _ (zs16 (zs1 (zs0)))))) (fun _ h9 => h9) (hI.fr 0 (mF 0 rfl) rfl (Nat.le_of_ble_eq_true rfl) 1 rfl) dX12_result_1 ?_
  refine lv_iload_n hx hb dX12_result_4 rfl (lv_at hl 1 rfl) ?_
  refine lv_iload_n hx hb dX12_result_5 rfl (lv_at hl 2 rfl) ?_
  refine th_riL (va_runV (As := [.int a0, .int a1]) (rest := []) ⟨hx, hb, hml, hown, hts⟩ (q_isEnteredC l dC dI cT cf hC ad E s.heap.size a0 a1 hI) (cwV 2 hts (gi_V (in_18 _ (zs1 (zs0))) (in_18 _ (zs1 (zs1 (zs0)))) (in_18 _ (zs1 (zs1 (zs1 (zs0))))) (in_5 _ (zs4 (zs1 (zs1 (zs0))))) (in_6 _ (zs4 (zs4 (zs1 (zs1 (zs0))))))) rfl rfl rfl ⟨rfl, hz_yX0_isEntered_2⟩ ⟨Nat.le_of_ble_eq_true rfl, Nat.le_of_ble_eq_true rfl⟩) ⟨HWL_bl, va_recv hK hP (ci := 1) (q0 := posL 1 (LC cf)) rfl (hI.ob 1 (mF 1 rfl) rfl), (HWL_wi hP hK (WL_D hD) hS hA hEV)⟩ rfl rfl hl.1 rfl (lv_room (Nat.le_of_ble_eq_true rfl)) dX12_result_6 ⟨Nat.le_of_ble_eq_true rfl, Nat.le_of_ble_eq_true rfl⟩) hS hP (fun r1 H locs hw hP hS => ?_)
  rcases hw with hw | hw
  · -- isEnteredC, case 0
    obtain ⟨rfl, f2, f3, f4⟩ := hw
    have i5 : 0 ≤ (xi (E 1) 1).toInt ∧ (xi (E 1) 1).toInt ≤ 16 := hI0.iv 1 (mF 1 rfl) rfl (Nat.le_of_ble_eq_true rfl) rfl
    have i6 : 0 ≤ (xi (E 1) 0).toInt ∧ (xi (E 1) 0).toInt ≤ 400 := hI0.iv 1 (mF 1 rfl) rfl (Nat.le_of_ble_eq_true rfl) rfl
    refine lv_if_eq (tgt := 21) hx hb dX12_result_9 (by decide) (fun c7 => ?_) (fun c7 => ?_)
    · --9 taken
      exact absurd c7 (by decide)
    · --9 not
      refine lv_iload_n hx hb dX12_result_12 rfl (lv_at hl 3 rfl) ?_
      refine lv_iconst (v := 0) hx hb dX12_result_13 (by decide) ?_
      refine lv_iconst (v := 4) hx hb dX12_result_14 (by decide) ?_
      refine th_pi (va_runS (As := [.int a2, .int 0, .int 4]) (rest := []) ⟨hx, hb, hml, hown, hts⟩ (q_cwithin l a2 (0 : Int32) (4 : Int32)) (va_cwS 3 hts (gi_S (in_10 _ (zs16 (zs4 (zs4 (zs4 (zs1 (zs1 (zs1 (zs0))))))))) (in_4 _ (zs16 (zs4 (zs1 (zs1 (zs0)))))) (in_4 _ (zs16 (zs4 (zs1 (zs1 (zs1 (zs0))))))) (in_4 _ (zs16 (zs4 (zs4 (zs0)))))) rfl rfl rfl hz_yX12_within_3 ⟨Nat.le_of_ble_eq_true rfl, Nat.le_of_ble_eq_true rfl⟩) ⟨fun _ _ _ _ q => q, fun _ _ _ => ⟨rfl, trivial⟩⟩ rfl rfl hl.1 rfl (lv_room (Nat.le_of_ble_eq_true rfl)) dX12_result_15 ⟨Nat.le_of_ble_eq_true rfl, Nat.le_of_ble_eq_true rfl⟩) hS (fun r8 H1 locs1 hw hk1 hS => ?_)
      have hP := ub_keep hP hk1
      generalize H1 = H at hP hS ⊢
      generalize locs1 = locs at hS ⊢
      rcases hw with hw | hw
      · -- cwithin, case 0
        obtain ⟨rfl, f9⟩ := hw
        have t10 : (0 : Int) ≤ a2.toInt := f9.1
        have t11 : a2.toInt ≤ 4 := f9.2
        have i12 : 0 ≤ a2.toInt ∧ a2.toInt ≤ 2147483647 := iv_le_r t10 (il_ 0) (iv_all _) (by decide)
        have i13 : 0 ≤ a2.toInt ∧ a2.toInt ≤ 4 := iv_le_l t11 i12 (il_ 4) (by decide)
        refine lv_if_ne (tgt := 23) hx hb dX12_result_18 (by decide) (fun c14 => ?_) (fun c14 => ?_)
        · --18 taken
          refine lv_iload_n hx hb dX12_result_23 rfl (lv_at hl 3 rfl) ?_
          refine lv_if_ne (tgt := 38) hx hb dX12_result_24 (by decide) (fun c15 => ?_) (fun c15 => ?_)
          · --24 taken
            have t16 : ¬ a2.toInt = 0 := ti_ne c15
            have i17 : 1 ≤ a2.toInt ∧ a2.toInt ≤ 4 := iv_ne_l t16 i13 (il_ 0)
            refine lv_iload hx hb dX12_result_38 (lv_at hl 4 rfl) ?_
            refine lv_if_ne (tgt := 47) hx hb dX12_result_40 (by decide) (fun c18 => ?_) (fun c18 => ?_)
            · --40 taken
              have t19 : ¬ a3.toInt = 0 := ti_ne c18
              refine lv_iconst (v := 0) hx hb dX12_result_47 (by decide) ?_
              refine lv_istore (lv' := [(5, .int 0), (0, .ref (ad 0)), (1, .int a0), (2, .int a1), (3, .int a2), (4, .int a3)]) hx hb dX12_result_48 hl (by decide) rfl (fun ls hl => ?_)
              refine lv_iload hx hb dX12_result_50 (lv_at hl 0 rfl) ?_
              refine lv_if_eq (tgt := 71) hx hb dX12_result_52 (by decide) (fun c20 => ?_) (fun c20 => ?_)
              · --52 taken
                refine lv_iconst (v := 0) hx hb dX12_result_71 (by decide) ?_
                have z0 := ln_0
                rw [hQ]
                refine W.widen (k := 2) (n := 645) (by first | exact Nat.le_of_ble_eq_true rfl | omega) (by first | exact Nat.le_of_ble_eq_true rfl | omega) ?_
                exact W.zret (v := 0) hx hb hr rfl (fun t ht hW => ⟨⟨0, (cf, ad, E), rfl, ⟨hC, hI, Or.inl ⟨rfl, rfl, hKp, rfl, by omega⟩⟩, by rw [ht]; exact hP, (WL_D hD)⟩, hS.F ht⟩) hS.2.2 dX12_result_72
              · --52 not
                exact absurd c20 (by decide)
            · --40 not
              have t21 : a3.toInt = 0 := ti_eq c18
              have i22 : 0 ≤ a3.toInt ∧ a3.toInt ≤ 0 := iv_eqi t21 (iv_all _) (il_ 0) (by decide)
              refine lv_iconst (v := 1) hx hb dX12_result_43 (by decide) ?_
              refine lv_goto (tgt := 48) hx hb dX12_result_44 (by decide) ?_
              refine lv_istore (lv' := [(5, .int 1), (0, .ref (ad 0)), (1, .int a0), (2, .int a1), (3, .int a2), (4, .int a3)]) hx hb dX12_result_48 hl (by decide) rfl (fun ls hl => ?_)
              refine lv_iload hx hb dX12_result_50 (lv_at hl 0 rfl) ?_
              refine lv_if_eq (tgt := 71) hx hb dX12_result_52 (by decide) (fun c23 => ?_) (fun c23 => ?_)
              · --52 taken
                exact absurd c23 (by decide)
              · --52 not
                refine lv_aload_n hx hb dX12_result_55 rfl (lv_at hl 1 rfl) ?_
                refine th_getL (ci := 13) (C := RX12) (T := TX12) (N := 6) (v := .ref (ad 1)) hx hb hts hinX12 hown hK hP hI 0 (mF 0 rfl) rfl rfl 0 (Nat.le_of_ble_eq_true rfl) (hts _ (vA_in _ _ (in_10 _ (zs16 (zs1 (zs0)))))) (fun _ h9 => h9) (hI.fr 0 (mF 0 rfl) rfl (Nat.le_of_ble_eq_true rfl) 1 rfl) dX12_result_56 ?_
                refine th_getL (ci := 1) (C := RX0) (T := TX0) (N := 11) (v := .ref (ad 10)) hx hb hts hinX0 hown hK hP hI 1 (mF 1 rfl) rfl rfl 6 (Nat.le_of_ble_eq_true rfl) (hts _ (vA_in _ _ (in_14 _ (zs4 (zs4 (zs0)))))) (fun _ h9 => h9) (hI.fr 1 (mF 1 rfl) rfl (Nat.le_of_ble_eq_true rfl) 10 rfl) dX12_result_59 ?_
                refine th_riL (va_runV (As := []) (rest := []) ⟨hx, hb, hml, hown, hts⟩ (q_size3 l dC dI cT cf hC ad E H.size hI) (cwV 0 hts (gi_V (in_10 _ (zs16 (zs16 (zs0)))) (in_4 _ (zs16 (zs16 (zs1 (zs1 (zs1 (zs0))))))) (in_4 _ (zs16 (zs16 (zs4 (zs0))))) (in_3 _ (zs16 (zs1 (zs1 (zs0))))) (in_4 _ (zs16 (zs1 (zs1 (zs1 (zs0))))))) rfl rfl rfl ⟨rfl, hz_yJx4a65c_size_8abf5_0⟩ ⟨Nat.le_of_ble_eq_true rfl, Nat.le_of_ble_eq_true rfl⟩) ⟨HWL_bl, va_recv hK hP (ci := 0) (q0 := posL 10 (LC cf)) rfl (hI.ob 10 (mF 10 rfl) rfl), (HWL_wi hP hK (WL_D hD) hS hA hEV)⟩ rfl rfl hl.1 rfl (lv_room (Nat.le_of_ble_eq_true rfl)) dX12_result_62 ⟨Nat.le_of_ble_eq_true rfl, Nat.le_of_ble_eq_true rfl⟩) hS hP (fun r24 H locs hw hP hS => ?_)
                obtain ⟨f25, f26⟩ := hw
                refine lv_sipush (v := 300) hx hb dX12_result_65 (by decide) ?_
                refine lv_icmp_lt (tgt := 73) hx hb dX12_result_68 (by decide) (fun c27 => ?_) (fun c27 => ?_)
                · --68 taken
                  have t28 : r24.toInt < 300 := ti_lt c27
                  have i29 : 0 ≤ r24.toInt ∧ r24.toInt ≤ 299 := iv_lt_l t28 f25 (il_ 300) (by decide)
                  refine lv_aload_n hx hb dX12_result_73 rfl (lv_at hl 1 rfl) ?_
                  refine th_getL (ci := 13) (C := RX12) (T := TX12) (N := 6) (v := .ref (ad 1)) hx hb hts hinX12 hown hK hP hI 0 (mF 0 rfl) rfl rfl 0 (Nat.le_of_ble_eq_true rfl) (hts _ (vA_in _ _ (in_10 _ (zs16 (zs1 (zs0)))))) (fun _ h9 => h9) (hI.fr 0 (mF 0 rfl) rfl (Nat.le_of_ble_eq_true rfl) 1 rfl) dX12_result_74 ?_
                  refine th_getL (ci := 1) (C := RX0) (T := TX0) (N := 11) (v := .ref (ad 10)) hx hb hts hinX0 hown hK hP hI 1 (mF 1 rfl) rfl rfl 6 (Nat.le_of_ble_eq_true rfl) (hts _ (vA_in _ _ (in_14 _ (zs4 (zs4 (zs0)))))) (fun _ h9 => h9) (hI.fr 1 (mF 1 rfl) rfl (Nat.le_of_ble_eq_true rfl) 10 rfl) dX12_result_77 ?_
                  refine va_new (ci := 7) (fs := [.int 0, .int 0, .int 0, .int 0, .int 0]) (C := RX6) (T := TX6) (N := 5) hx hb hts hinX6 tyX6 tyX6_ok hown (hts _ (vA_in _ _ (in_22 _ (zs16 (zs4 (zs1 (zs1 (zs1 (zs0))))))))) (hts _ (vA_in _ _ (in_22 _ (zs16 (zs4 (zs4 (zs0))))))) (hts _ (vA_in _ _ (in_22 _ (zs16 (zs4 (zs4 (zs1 (zs0)))))))) hK hP (WL_D hD) hS hA rfl (fun j hj => by rcases (show j = 0 ∨ j = 1 ∨ j = 2 ∨ j = 3 ∨ j = 4 by omega) with rfl | rfl | rfl | rfl | rfl <;> rfl) (Nat.le_of_ble_eq_true rfl) (Nat.le_of_ble_eq_true rfl) dX12_result_80 (fun qn H hP2 hD2 hS => ?_)
                  have hP2 : va_P (dC, dI) vwCl ([(qn, .inr (7, [.int 0, .int 0, .int 0, .int 0, .int 0]))] ++ WL (LC cf) ad E) H := va_P_perm hP2 List.perm_append_comm
                  have hD2 : va_D A ([(qn, .inr (7, [.int 0, .int 0, .int 0, .int 0, .int 0]))] ++ WL (LC cf) ad E) := va_D_perm hD2 List.perm_append_comm
                  have hP : va_P (dC, dI) vwCl (WL (LC cf) ad E) H := va_P_sub hP2 (fun x hx => List.mem_append_right _ hx)
                  refine lv_dup hx hb dX12_result_83 rfl ?_
                  refine lv_iload_n hx hb dX12_result_84 rfl (lv_at hl 2 rfl) ?_
                  refine lv_iload_n hx hb dX12_result_85 rfl (lv_at hl 3 rfl) ?_
                  refine lv_iload_n hx hb dX12_result_86 rfl (lv_at hl 4 rfl) ?_
                  refine lv_iload hx hb dX12_result_87 (lv_at hl 5 rfl) ?_
                  refine lv_aload_n hx hb dX12_result_89 rfl (lv_at hl 1 rfl) ?_
                  refine th_getL (ci := 13) (C := RX12) (T := TX12) (N := 6) (v := .ref (ad 1)) hx hb hts hinX12 hown hK hP hI 0 (mF 0 rfl) rfl rfl 0 (Nat.le_of_ble_eq_true rfl) (hts _ (vA_in _ _ (in_10 _ (zs16 (zs1 (zs0)))))) (fun _ h9 => h9) (hI.fr 0 (mF 0 rfl) rfl (Nat.le_of_ble_eq_true rfl) 1 rfl) dX12_result_90 ?_
                  refine th_getL (ci := 1) (C := RX0) (T := TX0) (N := 11) (v := .int (xi (E 1) 0)) hx hb hts hinX0 hown hK hP hI 1 (mF 1 rfl) rfl rfl 0 (Nat.le_of_ble_eq_true rfl) (hts _ (vA_in _ _ (in_10 _ (zs16 (zs4 (zs4 (zs1 (zs1 (zs0))))))))) (fun _ h9 => h9) (th_v0L hKp hI0 1 (mF 1 rfl) rfl (Nat.le_of_ble_eq_true rfl) rfl rfl) dX12_result_93 ?_
                  have hPc := va_P_sub (ws' := [(qn, .inr (7, [.int 0, .int 0, .int 0, .int 0, .int 0]))]) hP2 (fun x hx => List.mem_append_left _ hx)
                  have hDc := va_D_left hD2
                  have hFc : ∀ z, va_A [(qn, .inr (7, [.int 0, .int 0, .int 0, .int 0, .int 0]))] H.size z → A z := new_free hD2 hS hA
                  refine va_callv (va_runI (As := [.int a0, .int a1, .int a2, .int a3, .int (xi (E 1) 0)]) (rest := [.ref qn, .ref (ad 10)]) ⟨hx, hb, hml, hown, hts⟩ (x_Result l dC dI qn a0 a1 a2 a3 (xi (E 1) 0) H.size) (cwI 5 hts (gi_0 (in_22 _ (zs16 (zs4 (zs4 (zs4 (zs0))))))) rfl rfl rfl (hts _ (vA_in _ _ (in_22 _ (zs16 (zs4 (zs4 (zs1 (zs0)))))))) (hts _ (vA_in _ _ (in_22 _ (zs16 (zs4 (zs4 (zs1 (zs1 (zs0))))))))) (hts _ (vA_in _ _ (in_22 _ (zs16 (zs4 (zs4 (zs1 (zs1 (zs1 (zs0)))))))))) rfl hz_yX6_init_5 ⟨Nat.le_of_ble_eq_true rfl, Nat.le_of_ble_eq_true rfl⟩) ⟨fun a U g mk q => by obtain ⟨e0, e1, qP, qK, qD⟩ := q; exact ⟨e0, e1, qP, va_K.moved (u := U) (U := U.calling g mk a) (Vm.Alike.refl U.vm) qK, qD⟩, fun U hU hW => ⟨rfl, by rw [hU], by rw [hU]; exact hPc, va_K.moved hW.alike (hK.sub (tys' := []) [] rfl), hDc.weaken (fun _ _ _ _ => trivial)⟩⟩ rfl rfl hl.1 rfl (lv_room (Nat.le_of_ble_eq_true rfl)) dX12_result_96 ⟨Nat.le_of_ble_eq_true rfl, Nat.le_of_ble_eq_true rfl⟩) hS (fun z _ h => hFc z h) hFc (fun u1 t H1 locs ht hvm hw hB hz1 hk1 hS => ?_)
                  obtain ⟨hP1, -, hD1⟩ := hB
                  rw [ht] at hP1
                  obtain ⟨hP2, hD2⟩ := va_joinQ (wr := []) hP2 hD2 [0] [] rfl rfl rfl (fun _ h => nomatch h) hk1 hFc hP1 hD1
                  have hP2 : va_P (dC, dI) vwCl ([(qn, .inr (7, [.int a0, .int a1, .int a2, .int a3, .int (xi (E 1) 0)]))] ++ WL (LC cf) ad E) H1 := hP2
                  have hD2 : va_D A ([(qn, .inr (7, [.int a0, .int a1, .int a2, .int a3, .int (xi (E 1) 0)]))] ++ WL (LC cf) ad E) := hD2
                  generalize H1 = H at hP2 hS ⊢
                  have hP : va_P (dC, dI) vwCl (WL (LC cf) ad E) H := va_P_sub hP2 (fun x hx => List.mem_append_right _ hx)
                  obtain ⟨ad1, had1⟩ : ∃ z, z = va_up ad (64 * (cf 3 + 1) + 12) qn := ⟨_, rfl⟩
                  obtain ⟨E1, hE1⟩ : ∃ z : Nat → va_E, z = va_up E (64 * (cf 3 + 1) + 12) (.inr (7, [.int a0, .int a1, .int a2, .int a3, .int (xi (E 1) 0)])) := ⟨_, rfl⟩
                  have huq : ∀ t', t' < 15 → (kl t' = 3 ↔ t' = 12) := by decide
                  have hKM := km1 (n := cf 3) (J := 3) (t := 12) (by decide) huq
                  have hko : (64 * (cf 3 + 1) + 12) ∉ LC cf := K_out (J := 3) (by decide) hKM _ (List.mem_singleton.mpr rfl)
                  have haa : ∀ o, o ∈ LC cf → ad1 o = ad o := fun o h => by rw [had1]; exact va_up_ne _ _ (fun e => hko (e ▸ h))
                  have hee : ∀ o, o ∈ LC cf → E1 o = E o := fun o h => by rw [hE1]; exact va_up_ne _ _ (fun e => hko (e ▸ h))
                  have aq : ad1 (64 * (cf 3 + 1) + 12) = qn := by rw [had1]; exact va_up_self _ _ _
                  have eq : E1 (64 * (cf 3 + 1) + 12) = .inr (7, [.int a0, .int a1, .int a2, .int a3, .int (xi (E 1) 0)]) := by rw [hE1]; exact va_up_self _ _ _
                  have hw9 : WL ([(64 * (cf 3 + 1) + 12)] ++ LC cf) ad1 E1 = [(qn, .inr (7, [.int a0, .int a1, .int a2, .int a3, .int (xi (E 1) 0)]))] ++ WL (LC cf) ad E := by
                    show (ad1 (64 * (cf 3 + 1) + 12), E1 (64 * (cf 3 + 1) + 12)) :: WL (LC cf) ad1 E1 = _
                    rw [aq, eq, WL_congr (ad' := ad) (E' := E) fun o h => ⟨haa o h, hee o h⟩]
                    rfl
                  rw [← hw9] at hP2 hD2
                  have hI1 := IX_ad hI hC haa hee
                  have hlt : cf 3 < 300 := by omega
                  obtain ⟨hG, hCn⟩ := CF_up hC (J := 3) (by decide) (m := 300) rfl hlt (by decide)
                  have hnew : ∀ t', t' < 15 → kl t' = 3 → okS cT (shP (va_up cf 3 (cf 3 + 1)) t' (cf 3)) (E1 (64 * (cf 3 + 1) + t')) ∧ ∀ j, j < (shP (va_up cf 3 (cf 3 + 1)) t' (cf 3)).2.2 → okV ad1 (spP (va_up cf 3 (cf 3 + 1)) t' (cf 3) j) (xv (E1 (64 * (cf 3 + 1) + t')) j) := by
                    intro t' h1 h2
                    obtain rfl : t' = 12 := (huq t' h1).mp h2
                    rw [eq]
                    refine ⟨rfl, fun j hj => ?_⟩
                    have hj : j < 5 := hj
                    rcases (show j = 0 ∨ j = 1 ∨ j = 2 ∨ j = 3 ∨ j = 4 by omega) with rfl | rfl | rfl | rfl | rfl
                    · exact okI rfl f3
                    · exact okI rfl f4
                    · exact okI rfl (iv_w i17 (by decide))
                    · exact okI rfl (iv_w i22 (by decide))
                    · exact okI rfl i6
                  have hM := k_addW l dC dI cT cf hC ad1 E1 (va_up cf 3 (cf 3 + 1)) 3 (by decide) hG (by omega) [(64 * (cf 3 + 1) + 12)] (by simp) hKM 7 RX6 TX6 5 _ rfl (fun _ => rfl) (List.mem_of_getElem? (i := 3) rfl) eq H.size hI1 hnew
                  rw [show ad1 (7 + 3) = ad 10 from haa _ (mF _ rfl), show ad1 (64 * (cf 3 + 1) + lkd 3) = qn from aq] at hM
                  have hFA := all_free hD2 hS hA
                  refine va_calli (va_runV (As := [.ref qn]) (rest := []) ⟨hx, hb, hml, hown, hts⟩ hM (cwV 1 hts (gi_V (in_11 _ (zs1 (zs1 (zs1 (zs0))))) (in_11 _ (zs4 (zs0))) (in_11 _ (zs4 (zs1 (zs0)))) (in_3 _ (zs16 (zs1 (zs1 (zs0))))) (in_3 _ (zs16 (zs16 (zs0))))) rfl rfl rfl (by decide +kernel) ⟨Nat.le_of_ble_eq_true rfl, Nat.le_of_ble_eq_true rfl⟩) ⟨fun a U g mk q => by obtain ⟨e0, e1, qP, qK, qD, qE⟩ := q; exact ⟨e0, e1, qP, va_K.moved (u := U) (U := U.calling g mk a) (Vm.Alike.refl U.vm) qK, qD, EVC_c qE⟩, va_recv hK hP (ci := 0) (q0 := posL 10 (LC cf)) rfl (hI.ob 10 (mF 10 rfl) rfl), fun U hU hW => ⟨rfl, by rw [hU], by rw [hU]; exact hP2, va_K.moved hW.alike hK, hD2.weaken (fun _ _ _ _ => trivial), EVC_w hU hW hS hFA hEV⟩⟩ rfl rfl hl.1 rfl (lv_room (Nat.le_of_ble_eq_true rfl)) dX12_result_99 ⟨Nat.le_of_ble_eq_true rfl, Nat.le_of_ble_eq_true rfl⟩) hS (fun z _ h => hFA z h) hFA (fun r9 u9 t H1 locs ht hvm hw hB hz1 hk1 hS => ?_)
                  obtain ⟨rfl, hI9, a9, e9⟩ := hw
                  obtain ⟨hP9, hD9⟩ := hB
                  rw [ht] at hP9
                  have hD9 := hD9.weaken (B := A) (fun _ _ _ h => hFA _ h)
                  generalize H1 = H at hP9 hS ⊢
                  obtain ⟨ad9, E9⟩ := u9
                  dsimp only at hI9 a9 e9 hP9 hD9
                  have had9 : ∀ o, o ≠ 13 + 3 → (∀ t, t < 15 → kl t = 3 → o ≠ 64 * (cf 3 + 1) + t) → ad9 o = ad o := fun o h1 h2 => (a9 o h1).trans (by rw [had1]; exact va_up_ne _ _ (h2 12 (by decide) rfl))
                  have hkg : KpG 3 cf w_u_result E E9 := fun o j h1 h2 h3 h4 => by have h5 := hKp o j h4; rw [← h5]; rw [e9 o h1 h2, hE1, va_up_ne _ _ (h3 12 (by decide) rfl)]
                  have hob : E9 (64 * (cf 3 + 1) + lkd 3) = .inr (7, [.int a0, .int a1, .int a2, .int a3, .int (xi (E 1) 0)]) := (e9 _ (by show 64 * (cf 3 + 1) + 12 ≠ _; omega) (by show 64 * (cf 3 + 1) + 12 ≠ _; omega)).trans eq
                  refine lv_pop hx hb dX12_result_102 rfl ?_
                  refine lv_iconst (v := 1) hx hb dX12_result_103 (by decide) ?_
                  rw [hQ]
                  refine W.widen (k := 2) (n := 645) (by first | exact Nat.le_of_ble_eq_true rfl | omega) (by first | exact Nat.le_of_ble_eq_true rfl | omega) ?_
                  exact W.zret (v := 1) hx hb hr rfl (fun t ht hW => ⟨⟨1, ((va_up cf 3 (cf 3 + 1)), ad9, E9), rfl, ⟨hCn, hI9, Or.inr ⟨hG, had9, hkg, rfl, (by  omega), hob⟩⟩, by rw [ht]; exact hP9, hD9⟩, hS.F ht⟩) hS.2.2 dX12_result_104
                · --68 not
                  have t30 : (300 : Int) ≤ r24.toInt := ti_nlt c27
                  have i31 : 300 ≤ r24.toInt ∧ r24.toInt ≤ 300 := iv_le_r t30 (il_ 300) f25 (by decide)
                  refine lv_iconst (v := 0) hx hb dX12_result_71 (by decide) ?_
                  have z0 := ln_0
                  rw [hQ]
                  refine W.widen (k := 2) (n := 645) (by first | exact Nat.le_of_ble_eq_true rfl | omega) (by first | exact Nat.le_of_ble_eq_true rfl | omega) ?_
                  exact W.zret (v := 0) hx hb hr rfl (fun t ht hW => ⟨⟨0, (cf, ad, E), rfl, ⟨hC, hI, Or.inl ⟨rfl, rfl, hKp, rfl, by omega⟩⟩, by rw [ht]; exact hP, (WL_D hD)⟩, hS.F ht⟩) hS.2.2 dX12_result_72
          · --24 not
            have t32 : a2.toInt = 0 := ti_eq c15
            have i33 : 0 ≤ a2.toInt ∧ a2.toInt ≤ 0 := iv_eqi t32 i13 (il_ 0) (by decide)
            refine lv_iload hx hb dX12_result_27 (lv_at hl 4 rfl) ?_
            refine lv_iconst (v := 1) hx hb dX12_result_29 (by decide) ?_
            refine lv_ldc hx hb hown (hts _ (vA_in _ _ (in_22 _ (zs16 (zs4 (zs1 (zs1 (zs0)))))))) dX12_result_30 ?_
            refine th_pi (va_runS (As := [.int a3, .int 1, .int 200000]) (rest := []) ⟨hx, hb, hml, hown, hts⟩ (q_cwithin l a3 (1 : Int32) (200000 : Int32)) (va_cwS 3 hts (gi_S (in_10 _ (zs16 (zs4 (zs4 (zs4 (zs1 (zs1 (zs1 (zs0))))))))) (in_4 _ (zs16 (zs4 (zs1 (zs1 (zs0)))))) (in_4 _ (zs16 (zs4 (zs1 (zs1 (zs1 (zs0))))))) (in_4 _ (zs16 (zs4 (zs4 (zs0)))))) rfl rfl rfl hz_yX12_within_3 ⟨Nat.le_of_ble_eq_true rfl, Nat.le_of_ble_eq_true rfl⟩) ⟨fun _ _ _ _ q => q, fun _ _ _ => ⟨rfl, trivial⟩⟩ rfl rfl hl.1 rfl (lv_room (Nat.le_of_ble_eq_true rfl)) dX12_result_32 ⟨Nat.le_of_ble_eq_true rfl, Nat.le_of_ble_eq_true rfl⟩) hS (fun r34 H1 locs1 hw hk1 hS => ?_)
            have hP := ub_keep hP hk1
            generalize H1 = H at hP hS ⊢
            generalize locs1 = locs at hS ⊢
            rcases hw with hw | hw
            · -- cwithin, case 0
              obtain ⟨rfl, f35⟩ := hw
              have t36 : (1 : Int) ≤ a3.toInt := f35.1
              have t37 : a3.toInt ≤ 200000 := f35.2
              have i38 : 1 ≤ a3.toInt ∧ a3.toInt ≤ 2147483647 := iv_le_r t36 (il_ 1) (iv_all _) (by decide)
              have i39 : 1 ≤ a3.toInt ∧ a3.toInt ≤ 200000 := iv_le_l t37 i38 (il_ 200000) (by decide)
              refine lv_goto (tgt := 48) hx hb dX12_result_35 (by decide) ?_
              refine lv_istore (lv' := [(5, .int 1), (0, .ref (ad 0)), (1, .int a0), (2, .int a1), (3, .int a2), (4, .int a3)]) hx hb dX12_result_48 hl (by decide) rfl (fun ls hl => ?_)
              refine lv_iload hx hb dX12_result_50 (lv_at hl 0 rfl) ?_
              refine lv_if_eq (tgt := 71) hx hb dX12_result_52 (by decide) (fun c40 => ?_) (fun c40 => ?_)
              · --52 taken
                exact absurd c40 (by decide)
              · --52 not
                refine lv_aload_n hx hb dX12_result_55 rfl (lv_at hl 1 rfl) ?_
                refine th_getL (ci := 13) (C := RX12) (T := TX12) (N := 6) (v := .ref (ad 1)) hx hb hts hinX12 hown hK hP hI 0 (mF 0 rfl) rfl rfl 0 (Nat.le_of_ble_eq_true rfl) (hts _ (vA_in _ _ (in_10 _ (zs16 (zs1 (zs0)))))) (fun _ h9 => h9) (hI.fr 0 (mF 0 rfl) rfl (Nat.le_of_ble_eq_true rfl) 1 rfl) dX12_result_56 ?_
                refine th_getL (ci := 1) (C := RX0) (T := TX0) (N := 11) (v := .ref (ad 10)) hx hb hts hinX0 hown hK hP hI 1 (mF 1 rfl) rfl rfl 6 (Nat.le_of_ble_eq_true rfl) (hts _ (vA_in _ _ (in_14 _ (zs4 (zs4 (zs0)))))) (fun _ h9 => h9) (hI.fr 1 (mF 1 rfl) rfl (Nat.le_of_ble_eq_true rfl) 10 rfl) dX12_result_59 ?_
                refine th_riL (va_runV (As := []) (rest := []) ⟨hx, hb, hml, hown, hts⟩ (q_size3 l dC dI cT cf hC ad E H.size hI) (cwV 0 hts (gi_V (in_10 _ (zs16 (zs16 (zs0)))) (in_4 _ (zs16 (zs16 (zs1 (zs1 (zs1 (zs0))))))) (in_4 _ (zs16 (zs16 (zs4 (zs0))))) (in_3 _ (zs16 (zs1 (zs1 (zs0))))) (in_4 _ (zs16 (zs1 (zs1 (zs1 (zs0))))))) rfl rfl rfl ⟨rfl, hz_yJx4a65c_size_8abf5_0⟩ ⟨Nat.le_of_ble_eq_true rfl, Nat.le_of_ble_eq_true rfl⟩) ⟨HWL_bl, va_recv hK hP (ci := 0) (q0 := posL 10 (LC cf)) rfl (hI.ob 10 (mF 10 rfl) rfl), (HWL_wi hP hK (WL_D hD) hS hA hEV)⟩ rfl rfl hl.1 rfl (lv_room (Nat.le_of_ble_eq_true rfl)) dX12_result_62 ⟨Nat.le_of_ble_eq_true rfl, Nat.le_of_ble_eq_true rfl⟩) hS hP (fun r41 H locs hw hP hS => ?_)
                obtain ⟨f42, f43⟩ := hw
                refine lv_sipush (v := 300) hx hb dX12_result_65 (by decide) ?_
                refine lv_icmp_lt (tgt := 73) hx hb dX12_result_68 (by decide) (fun c44 => ?_) (fun c44 => ?_)
                · --68 taken
                  have t45 : r41.toInt < 300 := ti_lt c44
                  have i46 : 0 ≤ r41.toInt ∧ r41.toInt ≤ 299 := iv_lt_l t45 f42 (il_ 300) (by decide)
                  refine lv_aload_n hx hb dX12_result_73 rfl (lv_at hl 1 rfl) ?_
                  refine th_getL (ci := 13) (C := RX12) (T := TX12) (N := 6) (v := .ref (ad 1)) hx hb hts hinX12 hown hK hP hI 0 (mF 0 rfl) rfl rfl 0 (Nat.le_of_ble_eq_true rfl) (hts _ (vA_in _ _ (in_10 _ (zs16 (zs1 (zs0)))))) (fun _ h9 => h9) (hI.fr 0 (mF 0 rfl) rfl (Nat.le_of_ble_eq_true rfl) 1 rfl) dX12_result_74 ?_
                  refine th_getL (ci := 1) (C := RX0) (T := TX0) (N := 11) (v := .ref (ad 10)) hx hb hts hinX0 hown hK hP hI 1 (mF 1 rfl) rfl rfl 6 (Nat.le_of_ble_eq_true rfl) (hts _ (vA_in _ _ (in_14 _ (zs4 (zs4 (zs0)))))) (fun _ h9 => h9) (hI.fr 1 (mF 1 rfl) rfl (Nat.le_of_ble_eq_true rfl) 10 rfl) dX12_result_77 ?_
                  refine va_new (ci := 7) (fs := [.int 0, .int 0, .int 0, .int 0, .int 0]) (C := RX6) (T := TX6) (N := 5) hx hb hts hinX6 tyX6 tyX6_ok hown (hts _ (vA_in _ _ (in_22 _ (zs16 (zs4 (zs1 (zs1 (zs1 (zs0))))))))) (hts _ (vA_in _ _ (in_22 _ (zs16 (zs4 (zs4 (zs0))))))) (hts _ (vA_in _ _ (in_22 _ (zs16 (zs4 (zs4 (zs1 (zs0)))))))) hK hP (WL_D hD) hS hA rfl (fun j hj => by rcases (show j = 0 ∨ j = 1 ∨ j = 2 ∨ j = 3 ∨ j = 4 by omega) with rfl | rfl | rfl | rfl | rfl <;> rfl) (Nat.le_of_ble_eq_true rfl) (Nat.le_of_ble_eq_true rfl) dX12_result_80 (fun qn H hP2 hD2 hS => ?_)
                  have hP2 : va_P (dC, dI) vwCl ([(qn, .inr (7, [.int 0, .int 0, .int 0, .int 0, .int 0]))] ++ WL (LC cf) ad E) H := va_P_perm hP2 List.perm_append_comm
                  have hD2 : va_D A ([(qn, .inr (7, [.int 0, .int 0, .int 0, .int 0, .int 0]))] ++ WL (LC cf) ad E) := va_D_perm hD2 List.perm_append_comm
                  have hP : va_P (dC, dI) vwCl (WL (LC cf) ad E) H := va_P_sub hP2 (fun x hx => List.mem_append_right _ hx)
                  refine lv_dup hx hb dX12_result_83 rfl ?_
                  refine lv_iload_n hx hb dX12_result_84 rfl (lv_at hl 2 rfl) ?_
                  refine lv_iload_n hx hb dX12_result_85 rfl (lv_at hl 3 rfl) ?_
                  refine lv_iload_n hx hb dX12_result_86 rfl (lv_at hl 4 rfl) ?_
                  refine lv_iload hx hb dX12_result_87 (lv_at hl 5 rfl) ?_
                  refine lv_aload_n hx hb dX12_result_89 rfl (lv_at hl 1 rfl) ?_
                  refine th_getL (ci := 13) (C := RX12) (T := TX12) (N := 6) (v := .ref (ad 1)) hx hb hts hinX12 hown hK hP hI 0 (mF 0 rfl) rfl rfl 0 (Nat.le_of_ble_eq_true rfl) (hts _ (vA_in _ _ (in_10 _ (zs16 (zs1 (zs0)))))) (fun _ h9 => h9) (hI.fr 0 (mF 0 rfl) rfl (Nat.le_of_ble_eq_true rfl) 1 rfl) dX12_result_90 ?_
                  refine th_getL (ci := 1) (C := RX0) (T := TX0) (N := 11) (v := .int (xi (E 1) 0)) hx hb hts hinX0 hown hK hP hI 1 (mF 1 rfl) rfl rfl 0 (Nat.le_of_ble_eq_true rfl) (hts _ (vA_in _ _ (in_10 _ (zs16 (zs4 (zs4 (zs1 (zs1 (zs0))))))))) (fun _ h9 => h9) (th_v0L hKp hI0 1 (mF 1 rfl) rfl (Nat.le_of_ble_eq_true rfl) rfl rfl) dX12_result_93 ?_
                  have hPc := va_P_sub (ws' := [(qn, .inr (7, [.int 0, .int 0, .int 0, .int 0, .int 0]))]) hP2 (fun x hx => List.mem_append_left _ hx)
                  have hDc := va_D_left hD2
                  have hFc : ∀ z, va_A [(qn, .inr (7, [.int 0, .int 0, .int 0, .int 0, .int 0]))] H.size z → A z := new_free hD2 hS hA
                  refine va_callv (va_runI (As := [.int a0, .int a1, .int a2, .int a3, .int (xi (E 1) 0)]) (rest := [.ref qn, .ref (ad 10)]) ⟨hx, hb, hml, hown, hts⟩ (x_Result l dC dI qn a0 a1 a2 a3 (xi (E 1) 0) H.size) (cwI 5 hts (gi_0 (in_22 _ (zs16 (zs4 (zs4 (zs4 (zs0))))))) rfl rfl rfl (hts _ (vA_in _ _ (in_22 _ (zs16 (zs4 (zs4 (zs1 (zs0)))))))) (hts _ (vA_in _ _ (in_22 _ (zs16 (zs4 (zs4 (zs1 (zs1 (zs0))))))))) (hts _ (vA_in _ _ (in_22 _ (zs16 (zs4 (zs4 (zs1 (zs1 (zs1 (zs0)))))))))) rfl hz_yX6_init_5 ⟨Nat.le_of_ble_eq_true rfl, Nat.le_of_ble_eq_true rfl⟩) ⟨fun a U g mk q => by obtain ⟨e0, e1, qP, qK, qD⟩ := q; exact ⟨e0, e1, qP, va_K.moved (u := U) (U := U.calling g mk a) (Vm.Alike.refl U.vm) qK, qD⟩, fun U hU hW => ⟨rfl, by rw [hU], by rw [hU]; exact hPc, va_K.moved hW.alike (hK.sub (tys' := []) [] rfl), hDc.weaken (fun _ _ _ _ => trivial)⟩⟩ rfl rfl hl.1 rfl (lv_room (Nat.le_of_ble_eq_true rfl)) dX12_result_96 ⟨Nat.le_of_ble_eq_true rfl, Nat.le_of_ble_eq_true rfl⟩) hS (fun z _ h => hFc z h) hFc (fun u1 t H1 locs ht hvm hw hB hz1 hk1 hS => ?_)
                  obtain ⟨hP1, -, hD1⟩ := hB
                  rw [ht] at hP1
                  obtain ⟨hP2, hD2⟩ := va_joinQ (wr := []) hP2 hD2 [0] [] rfl rfl rfl (fun _ h => nomatch h) hk1 hFc hP1 hD1
                  have hP2 : va_P (dC, dI) vwCl ([(qn, .inr (7, [.int a0, .int a1, .int a2, .int a3, .int (xi (E 1) 0)]))] ++ WL (LC cf) ad E) H1 := hP2
                  have hD2 : va_D A ([(qn, .inr (7, [.int a0, .int a1, .int a2, .int a3, .int (xi (E 1) 0)]))] ++ WL (LC cf) ad E) := hD2
                  generalize H1 = H at hP2 hS ⊢
                  have hP : va_P (dC, dI) vwCl (WL (LC cf) ad E) H := va_P_sub hP2 (fun x hx => List.mem_append_right _ hx)
                  obtain ⟨ad1, had1⟩ : ∃ z, z = va_up ad (64 * (cf 3 + 1) + 12) qn := ⟨_, rfl⟩
                  obtain ⟨E1, hE1⟩ : ∃ z : Nat → va_E, z = va_up E (64 * (cf 3 + 1) + 12) (.inr (7, [.int a0, .int a1, .int a2, .int a3, .int (xi (E 1) 0)])) := ⟨_, rfl⟩
                  have huq : ∀ t', t' < 15 → (kl t' = 3 ↔ t' = 12) := by decide
                  have hKM := km1 (n := cf 3) (J := 3) (t := 12) (by decide) huq
                  have hko : (64 * (cf 3 + 1) + 12) ∉ LC cf := K_out (J := 3) (by decide) hKM _ (List.mem_singleton.mpr rfl)
                  have haa : ∀ o, o ∈ LC cf → ad1 o = ad o := fun o h => by rw [had1]; exact va_up_ne _ _ (fun e => hko (e ▸ h))
                  have hee : ∀ o, o ∈ LC cf → E1 o = E o := fun o h => by rw [hE1]; exact va_up_ne _ _ (fun e => hko (e ▸ h))
                  have aq : ad1 (64 * (cf 3 + 1) + 12) = qn := by rw [had1]; exact va_up_self _ _ _
                  have eq : E1 (64 * (cf 3 + 1) + 12) = .inr (7, [.int a0, .int a1, .int a2, .int a3, .int (xi (E 1) 0)]) := by rw [hE1]; exact va_up_self _ _ _
                  have hw9 : WL ([(64 * (cf 3 + 1) + 12)] ++ LC cf) ad1 E1 = [(qn, .inr (7, [.int a0, .int a1, .int a2, .int a3, .int (xi (E 1) 0)]))] ++ WL (LC cf) ad E := by
                    show (ad1 (64 * (cf 3 + 1) + 12), E1 (64 * (cf 3 + 1) + 12)) :: WL (LC cf) ad1 E1 = _
                    rw [aq, eq, WL_congr (ad' := ad) (E' := E) fun o h => ⟨haa o h, hee o h⟩]
                    rfl
                  rw [← hw9] at hP2 hD2
                  have hI1 := IX_ad hI hC haa hee
                  have hlt : cf 3 < 300 := by omega
                  obtain ⟨hG, hCn⟩ := CF_up hC (J := 3) (by decide) (m := 300) rfl hlt (by decide)
                  have hnew : ∀ t', t' < 15 → kl t' = 3 → okS cT (shP (va_up cf 3 (cf 3 + 1)) t' (cf 3)) (E1 (64 * (cf 3 + 1) + t')) ∧ ∀ j, j < (shP (va_up cf 3 (cf 3 + 1)) t' (cf 3)).2.2 → okV ad1 (spP (va_up cf 3 (cf 3 + 1)) t' (cf 3) j) (xv (E1 (64 * (cf 3 + 1) + t')) j) := by
                    intro t' h1 h2
                    obtain rfl : t' = 12 := (huq t' h1).mp h2
                    rw [eq]
                    refine ⟨rfl, fun j hj => ?_⟩
                    have hj : j < 5 := hj
                    rcases (show j = 0 ∨ j = 1 ∨ j = 2 ∨ j = 3 ∨ j = 4 by omega) with rfl | rfl | rfl | rfl | rfl
                    · exact okI rfl f3
                    · exact okI rfl f4
                    · exact okI rfl (iv_w i33 (by decide))
                    · exact okI rfl (iv_w i39 (by decide))
                    · exact okI rfl i6
                  have hM := k_addW l dC dI cT cf hC ad1 E1 (va_up cf 3 (cf 3 + 1)) 3 (by decide) hG (by omega) [(64 * (cf 3 + 1) + 12)] (by simp) hKM 7 RX6 TX6 5 _ rfl (fun _ => rfl) (List.mem_of_getElem? (i := 3) rfl) eq H.size hI1 hnew
                  rw [show ad1 (7 + 3) = ad 10 from haa _ (mF _ rfl), show ad1 (64 * (cf 3 + 1) + lkd 3) = qn from aq] at hM
                  have hFA := all_free hD2 hS hA
                  refine va_calli (va_runV (As := [.ref qn]) (rest := []) ⟨hx, hb, hml, hown, hts⟩ hM (cwV 1 hts (gi_V (in_11 _ (zs1 (zs1 (zs1 (zs0))))) (in_11 _ (zs4 (zs0))) (in_11 _ (zs4 (zs1 (zs0)))) (in_3 _ (zs16 (zs1 (zs1 (zs0))))) (in_3 _ (zs16 (zs16 (zs0))))) rfl rfl rfl (by decide +kernel) ⟨Nat.le_of_ble_eq_true rfl, Nat.le_of_ble_eq_true rfl⟩) ⟨fun a U g mk q => by obtain ⟨e0, e1, qP, qK, qD, qE⟩ := q; exact ⟨e0, e1, qP, va_K.moved (u := U) (U := U.calling g mk a) (Vm.Alike.refl U.vm) qK, qD, EVC_c qE⟩, va_recv hK hP (ci := 0) (q0 := posL 10 (LC cf)) rfl (hI.ob 10 (mF 10 rfl) rfl), fun U hU hW => ⟨rfl, by rw [hU], by rw [hU]; exact hP2, va_K.moved hW.alike hK, hD2.weaken (fun _ _ _ _ => trivial), EVC_w hU hW hS hFA hEV⟩⟩ rfl rfl hl.1 rfl (lv_room (Nat.le_of_ble_eq_true rfl)) dX12_result_99 ⟨Nat.le_of_ble_eq_true rfl, Nat.le_of_ble_eq_true rfl⟩) hS (fun z _ h => hFA z h) hFA (fun r9 u9 t H1 locs ht hvm hw hB hz1 hk1 hS => ?_)
                  obtain ⟨rfl, hI9, a9, e9⟩ := hw
                  obtain ⟨hP9, hD9⟩ := hB
                  rw [ht] at hP9
                  have hD9 := hD9.weaken (B := A) (fun _ _ _ h => hFA _ h)
                  generalize H1 = H at hP9 hS ⊢
                  obtain ⟨ad9, E9⟩ := u9
                  dsimp only at hI9 a9 e9 hP9 hD9
                  have had9 : ∀ o, o ≠ 13 + 3 → (∀ t, t < 15 → kl t = 3 → o ≠ 64 * (cf 3 + 1) + t) → ad9 o = ad o := fun o h1 h2 => (a9 o h1).trans (by rw [had1]; exact va_up_ne _ _ (h2 12 (by decide) rfl))
                  have hkg : KpG 3 cf w_u_result E E9 := fun o j h1 h2 h3 h4 => by have h5 := hKp o j h4; rw [← h5]; rw [e9 o h1 h2, hE1, va_up_ne _ _ (h3 12 (by decide) rfl)]
                  have hob : E9 (64 * (cf 3 + 1) + lkd 3) = .inr (7, [.int a0, .int a1, .int a2, .int a3, .int (xi (E 1) 0)]) := (e9 _ (by show 64 * (cf 3 + 1) + 12 ≠ _; omega) (by show 64 * (cf 3 + 1) + 12 ≠ _; omega)).trans eq
                  refine lv_pop hx hb dX12_result_102 rfl ?_
                  refine lv_iconst (v := 1) hx hb dX12_result_103 (by decide) ?_
                  rw [hQ]
                  refine W.widen (k := 2) (n := 645) (by first | exact Nat.le_of_ble_eq_true rfl | omega) (by first | exact Nat.le_of_ble_eq_true rfl | omega) ?_
                  exact W.zret (v := 1) hx hb hr rfl (fun t ht hW => ⟨⟨1, ((va_up cf 3 (cf 3 + 1)), ad9, E9), rfl, ⟨hCn, hI9, Or.inr ⟨hG, had9, hkg, rfl, (by  omega), hob⟩⟩, by rw [ht]; exact hP9, hD9⟩, hS.F ht⟩) hS.2.2 dX12_result_104
                · --68 not
                  have t47 : (300 : Int) ≤ r41.toInt := ti_nlt c44
                  have i48 : 300 ≤ r41.toInt ∧ r41.toInt ≤ 300 := iv_le_r t47 (il_ 300) f42 (by decide)
                  refine lv_iconst (v := 0) hx hb dX12_result_71 (by decide) ?_
                  have z0 := ln_0
                  rw [hQ]
                  refine W.widen (k := 2) (n := 645) (by first | exact Nat.le_of_ble_eq_true rfl | omega) (by first | exact Nat.le_of_ble_eq_true rfl | omega) ?_
                  exact W.zret (v := 0) hx hb hr rfl (fun t ht hW => ⟨⟨0, (cf, ad, E), rfl, ⟨hC, hI, Or.inl ⟨rfl, rfl, hKp, rfl, by omega⟩⟩, by rw [ht]; exact hP, (WL_D hD)⟩, hS.F ht⟩) hS.2.2 dX12_result_72
            · -- cwithin, case 1
              obtain ⟨rfl, f49⟩ := hw
              have t50 : ¬ ((1 : Int) ≤ a3.toInt ∧ a3.toInt ≤ 200000) := f49
              refine lv_goto (tgt := 48) hx hb dX12_result_35 (by decide) ?_
              refine lv_istore (lv' := [(5, .int 0), (0, .ref (ad 0)), (1, .int a0), (2, .int a1), (3, .int a2), (4, .int a3)]) hx hb dX12_result_48 hl (by decide) rfl (fun ls hl => ?_)
              refine lv_iload hx hb dX12_result_50 (lv_at hl 0 rfl) ?_
              refine lv_if_eq (tgt := 71) hx hb dX12_result_52 (by decide) (fun c51 => ?_) (fun c51 => ?_)
              · --52 taken
                refine lv_iconst (v := 0) hx hb dX12_result_71 (by decide) ?_
                have z0 := ln_0
                rw [hQ]
                refine W.widen (k := 2) (n := 645) (by first | exact Nat.le_of_ble_eq_true rfl | omega) (by first | exact Nat.le_of_ble_eq_true rfl | omega) ?_
                exact W.zret (v := 0) hx hb hr rfl (fun t ht hW => ⟨⟨0, (cf, ad, E), rfl, ⟨hC, hI, Or.inl ⟨rfl, rfl, hKp, rfl, by omega⟩⟩, by rw [ht]; exact hP, (WL_D hD)⟩, hS.F ht⟩) hS.2.2 dX12_result_72
              · --52 not
                exact absurd c51 (by decide)
        · --18 not
          exact absurd c14 (by decide)
      · -- cwithin, case 1
        obtain ⟨rfl, f52⟩ := hw
        have t53 : ¬ ((0 : Int) ≤ a2.toInt ∧ a2.toInt ≤ 4) := f52
        refine lv_if_ne (tgt := 23) hx hb dX12_result_18 (by decide) (fun c54 => ?_) (fun c54 => ?_)
        · --18 taken
          exact absurd c54 (by decide)
        · --18 not
          refine lv_iconst (v := 0) hx hb dX12_result_21 (by decide) ?_
          have z0 := ln_0
          rw [hQ]
          refine W.widen (k := 2) (n := 645) (by first | exact Nat.le_of_ble_eq_true rfl | omega) (by first | exact Nat.le_of_ble_eq_true rfl | omega) ?_
          exact W.zret (v := 0) hx hb hr rfl (fun t ht hW => ⟨⟨0, (cf, ad, E), rfl, ⟨hC, hI, Or.inl ⟨rfl, rfl, hKp, rfl, by omega⟩⟩, by rw [ht]; exact hP, (WL_D hD)⟩, hS.F ht⟩) hS.2.2 dX12_result_22
  · -- isEnteredC, case 1
    obtain ⟨rfl, f55⟩ := hw
    have i56 : 0 ≤ (xi (E 1) 1).toInt ∧ (xi (E 1) 1).toInt ≤ 16 := hI0.iv 1 (mF 1 rfl) rfl (Nat.le_of_ble_eq_true rfl) rfl
    have i57 : 0 ≤ (xi (E 1) 0).toInt ∧ (xi (E 1) 0).toInt ≤ 400 := hI0.iv 1 (mF 1 rfl) rfl (Nat.le_of_ble_eq_true rfl) rfl
    refine lv_if_eq (tgt := 21) hx hb dX12_result_9 (by decide) (fun c58 => ?_) (fun c58 => ?_)
    · --9 taken
      refine lv_iconst (v := 0) hx hb dX12_result_21 (by decide) ?_
      have z0 := ln_0
      rw [hQ]
      refine W.widen (k := 2) (n := 645) (by first | exact Nat.le_of_ble_eq_true rfl | omega) (by first | exact Nat.le_of_ble_eq_true rfl | omega) ?_
      exact W.zret (v := 0) hx hb hr rfl (fun t ht hW => ⟨⟨0, (cf, ad, E), rfl, ⟨hC, hI, Or.inl ⟨rfl, rfl, hKp, rfl, by omega⟩⟩, by rw [ht]; exact hP, (WL_D hD)⟩, hS.F ht⟩) hS.2.2 dX12_result_22
    · --9 not
      exact absurd c58 (by decide)
def v_u_word : List Cond := .code yX12_word cX12_word 9 (some .int) :: vA
abbrev rm_u_word : Room := { frames := 8, cells := 2, slots := 648, locals := 320 }
def w_u_word : Nat → Nat → Bool := wl [] []
set_option maxHeartbeats 4000000 in
set_option maxRecDepth 100000 in
theorem q_u_word (l : Launch) (dC : Nat → ClassId) (dI : Nat → Nat → Nat) (cT : Nat → ClassId) (cf : Nat → Nat) (hC : CF cf) (ad : Nat → Nat) (E : Nat → va_E) (sz : Nat) (a0 : Int32) (a1 : Int32) (a2 : Int32) (a3 : Int32) (a4 : Int32) (a5 : Int32) (a6 : Int32) (hI0 : IXL cT (shC cf) (spC cf) (LC cf) ad E)  : Met l yX12_word v_u_word rm_u_word (va_Pc [.ref (ad 0), .int a0, .int a1, .int a2, .int a3, .int a4, .int a5, .int a6] (HWL dC dI (TYC cT) cf ad E sz)) (va_Qi (S := (Nat → Nat) × (Nat → Nat) × (Nat → va_E)) (fun r u => Made 4 cT cf ad w_u_word E u (r = -1 ∧ ¬ ((0 ≤ a0.toInt ∧ a0.toInt < ((cf 2 : Nat) : Int)) ∧ (0 ≤ a1.toInt ∧ a1.toInt < (xi (E 1) 1).toInt) ∧ (¬ (xi (E (64 * (a0.toNatClampNeg + 1) + 7)) a1.toNatClampNeg).toInt = -1 ∧ (xi (E (64 * (a0.toNatClampNeg + 1) + 7)) a1.toNatClampNeg).toInt ≤ (xi (E 1) 0).toInt) ∧ (0 ≤ a2.toInt ∧ a2.toInt ≤ 100000) ∧ (0 ≤ a5.toInt ∧ a5.toInt ≤ 3) ∧ (1 ≤ a6.toInt ∧ a6.toInt ≤ 255) ∧ (0 ≤ a3.toInt ∧ a3.toInt ≤ 99 - a5.toInt) ∧ (0 ≤ a4.toInt ∧ a4.toInt ≤ 99 - a5.toInt) ∧ cf 4 < 200)) (fun e9 => r.toInt = ((cf 4 : Nat) : Int) ∧ ((0 ≤ a0.toInt ∧ a0.toInt < ((cf 2 : Nat) : Int)) ∧ (0 ≤ a1.toInt ∧ a1.toInt < (xi (E 1) 1).toInt) ∧ (¬ (xi (E (64 * (a0.toNatClampNeg + 1) + 7)) a1.toNatClampNeg).toInt = -1 ∧ (xi (E (64 * (a0.toNatClampNeg + 1) + 7)) a1.toNatClampNeg).toInt ≤ (xi (E 1) 0).toInt) ∧ (0 ≤ a2.toInt ∧ a2.toInt ≤ 100000) ∧ (0 ≤ a5.toInt ∧ a5.toInt ≤ 3) ∧ (1 ≤ a6.toInt ∧ a6.toInt ≤ 255) ∧ (0 ≤ a3.toInt ∧ a3.toInt ≤ 99 - a5.toInt) ∧ (0 ≤ a4.toInt ∧ a4.toInt ≤ 99 - a5.toInt) ∧ cf 4 < 200) ∧ e9 = .inr (12, [.int a0, .int a1, .int (xi (E 1) 0), .int a2, .int a3, .int a4, .int a5, .int a6]))) (fun u t => va_P (dC, dI) vwCl (WL (LC u.1) u.2.1 u.2.2) t.heap ∧ va_D (va_A (WL (LC cf) ad E) sz) (WL (LC u.1) u.2.1 u.2.2)) (va_A (WL (LC cf) ad E) sz)) 2 648 (va_A (WL (LC cf) ad E) sz) := by
  obtain ⟨⟨hc0, hc1, hc2, hc3, hc4, hc5⟩, hcr⟩ := id hC
  refine Met.ofW (cc := cX12_word) (maxL := 9) (ret := (some .int)) (by decide) rfl ?_
  intro p e s m args below meth c s₁ B hml hv
  obtain ⟨hargs, hsz, hP, hK, hD0, hEV⟩ := hv
  subst hsz
  have hx := B.exec
  have hb := B.bytes
  have hr := B.returns
  have hts := atoms_spec (ws := v_u_word) B.pre
  have hown : s.vm.findClass RX12 = some m.cls := findClass_of_methodNamed B.named
  have hlocks := B.notSynchronized
  have hinX0 : ∀ w ∈ u_ws RX0 TX0 11, w ∈ v_u_word := fun w h => vA_in _ w (in_X0 w h)
  have hinX11 : ∀ w ∈ u_ws RX11 TX11 8, w ∈ v_u_word := fun w h => vA_in _ w (in_X11 w h)
  have hinX12 : ∀ w ∈ u_ws RX12 TX12 6, w ∈ v_u_word := fun w h => vA_in _ w (in_X12 w h)
  generalize hAe : va_A (WL (LC cf) ad E) s.heap.size = A at hEV ⊢
  have hA : ∀ q : Nat, s.heap.size ≤ q → A q := fun q h => by rw [← hAe]; exact Or.inr h
  have hD : va_D A (WL (LC cf) ad E) := by rw [← hAe]; exact hD0.self
  have hS : va_S A s.heap s.heap [] := va_S.rf
  have hI := hI0
  have hKp : Kp w_u_word E E := Kp.rf
  have hl := lv_entry ([.ref (ad 0), .int a0, .int a1, .int a2, .int a3, .int a4, .int a5, .int a6]) (n := 9) (Nat.le_of_ble_eq_true rfl)
  obtain ⟨Q, hQ⟩ : ∃ Q, Q = MQ below (va_Qi (S := (Nat → Nat) × (Nat → Nat) × (Nat → va_E)) (fun r u => Made 4 cT cf ad w_u_word E u (r = -1 ∧ ¬ ((0 ≤ a0.toInt ∧ a0.toInt < ((cf 2 : Nat) : Int)) ∧ (0 ≤ a1.toInt ∧ a1.toInt < (xi (E 1) 1).toInt) ∧ (¬ (xi (E (64 * (a0.toNatClampNeg + 1) + 7)) a1.toNatClampNeg).toInt = -1 ∧ (xi (E (64 * (a0.toNatClampNeg + 1) + 7)) a1.toNatClampNeg).toInt ≤ (xi (E 1) 0).toInt) ∧ (0 ≤ a2.toInt ∧ a2.toInt ≤ 100000) ∧ (0 ≤ a5.toInt ∧ a5.toInt ≤ 3) ∧ (1 ≤ a6.toInt ∧ a6.toInt ≤ 255) ∧ (0 ≤ a3.toInt ∧ a3.toInt ≤ 99 - a5.toInt) ∧ (0 ≤ a4.toInt ∧ a4.toInt ≤ 99 - a5.toInt) ∧ cf 4 < 200)) (fun e9 => r.toInt = ((cf 4 : Nat) : Int) ∧ ((0 ≤ a0.toInt ∧ a0.toInt < ((cf 2 : Nat) : Int)) ∧ (0 ≤ a1.toInt ∧ a1.toInt < (xi (E 1) 1).toInt) ∧ (¬ (xi (E (64 * (a0.toNatClampNeg + 1) + 7)) a1.toNatClampNeg).toInt = -1 ∧ (xi (E (64 * (a0.toNatClampNeg + 1) + 7)) a1.toNatClampNeg).toInt ≤ (xi (E 1) 0).toInt) ∧ (0 ≤ a2.toInt ∧ a2.toInt ≤ 100000) ∧ (0 ≤ a5.toInt ∧ a5.toInt ≤ 3) ∧ (1 ≤ a6.toInt ∧ a6.toInt ≤ 255) ∧ (0 ≤ a3.toInt ∧ a3.toInt ≤ 99 - a5.toInt) ∧ (0 ≤ a4.toInt ∧ a4.toInt ≤ 99 - a5.toInt) ∧ cf 4 < 200) ∧ e9 = .inr (12, [.int a0, .int a1, .int (xi (E 1) 0), .int a2, .int a3, .int a4, .int a5, .int a6]))) (fun u t => va_P (dC, dI) vwCl (WL (LC u.1) u.2.1 u.2.2) t.heap ∧ va_D A (WL (LC u.1) u.2.1 u.2.2)) (A)) args s 2 648 (A) := ⟨_, rfl⟩
  rw [← hQ, show entryFrame m args 9 = _ from (congrArg (fun z => entryFrame m z 9) hargs).trans (lg_entry_eq _ _ _)]
  generalize (lg_sl ([.ref (ad 0), .int a0, .int a1, .int a2, .int a3, .int a4, .int a5, .int a6]) ++ List.replicate (9 - (lg_sl ([.ref (ad 0), .int a0, .int a1, .int a2, .int a3, .int a4, .int a5, .int a6])).length) Slot.unset).toArray = ls at hl ⊢
  have hl : lv_has ls 9 [(0, .ref (ad 0)), (1, .int a0), (2, .int a1), (3, .int a2), (4, .int a3), (5, .int a4), (6, .int a5), (7, .int a6)] := hl
  refine lv_aload_n hx hb dX12_word_0 rfl (lv_at hl 0 rfl) ?_
  refine th_getL (ci := 13) (C := RX12) (T := TX12) (N := 6) (v := .ref (ad 1)) hx hb hts hinX12 hown hK hP hI 0 (mF 0 rfl) rfl rfl 0 (Nat.le_of_ble_eq_true rfl) (hts _ (vA_in _ _ (in_10 _ (zs16 (zs1 (zs0)))))) (fun _ h9 => h9) (hI.fr 0 (mF 0 rfl) rfl (Nat.le_of_ble_eq_true rfl) 1 rfl) dX12_word_1 ?_
  refine lv_iload_n hx hb dX12_word_4 rfl (lv_at hl 1 rfl) ?_
  refine lv_iload_n hx hb dX12_word_5 rfl (lv_at hl 2 rfl) ?_
  refine th_riL (va_runV (As := [.int a0, .int a1]) (rest := []) ⟨hx, hb, hml, hown, hts⟩ (q_isEnteredC l dC dI cT cf hC ad E s.heap.size a0 a1 hI) (cwV 2 hts (gi_V (in_18 _ (zs1 (zs0))) (in_18 _ (zs1 (zs1 (zs0)))) (in_18 _ (zs1 (zs1 (zs1 (zs0))))) (in_5 _ (zs4 (zs1 (zs1 (zs0))))) (in_6 _ (zs4 (zs4 (zs1 (zs1 (zs0))))))) rfl rfl rfl ⟨rfl, hz_yX0_isEntered_2⟩ ⟨Nat.le_of_ble_eq_true rfl, Nat.le_of_ble_eq_true rfl⟩) ⟨HWL_bl, va_recv hK hP (ci := 1) (q0 := posL 1 (LC cf)) rfl (hI.ob 1 (mF 1 rfl) rfl), (HWL_wi hP hK (WL_D hD) hS hA hEV)⟩ rfl rfl hl.1 rfl (lv_room (Nat.le_of_ble_eq_true rfl)) dX12_word_6 ⟨Nat.le_of_ble_eq_true rfl, Nat.le_of_ble_eq_true rfl⟩) hS hP (fun r1 H locs hw hP hS => ?_)
  rcases hw with hw | hw
  · -- isEnteredC, case 0
    obtain ⟨rfl, f2, f3, f4⟩ := hw
    have i5 : 0 ≤ (xi (E 1) 1).toInt ∧ (xi (E 1) 1).toInt ≤ 16 := hI0.iv 1 (mF 1 rfl) rfl (Nat.le_of_ble_eq_true rfl) rfl
    have i6 : 0 ≤ (xi (E 1) 0).toInt ∧ (xi (E 1) 0).toInt ≤ 400 := hI0.iv 1 (mF 1 rfl) rfl (Nat.le_of_ble_eq_true rfl) rfl
    refine lv_if_eq (tgt := 22) hx hb dX12_word_9 (by decide) (fun c7 => ?_) (fun c7 => ?_)
    · --9 taken
      exact absurd c7 (by decide)
    · --9 not
      refine lv_iload_n hx hb dX12_word_12 rfl (lv_at hl 3 rfl) ?_
      refine lv_iconst (v := 0) hx hb dX12_word_13 (by decide) ?_
      refine lv_ldc hx hb hown (hts _ (vA_in _ _ (in_20 _ (zs16 (zs16 (zs1 (zs1 (zs1 (zs0))))))))) dX12_word_14 ?_
      refine th_pi (va_runS (As := [.int a2, .int 0, .int 100000]) (rest := []) ⟨hx, hb, hml, hown, hts⟩ (q_cwithin l a2 (0 : Int32) (100000 : Int32)) (va_cwS 3 hts (gi_S (in_10 _ (zs16 (zs4 (zs4 (zs4 (zs1 (zs1 (zs1 (zs0))))))))) (in_4 _ (zs16 (zs4 (zs1 (zs1 (zs0)))))) (in_4 _ (zs16 (zs4 (zs1 (zs1 (zs1 (zs0))))))) (in_4 _ (zs16 (zs4 (zs4 (zs0)))))) rfl rfl rfl hz_yX12_within_3 ⟨Nat.le_of_ble_eq_true rfl, Nat.le_of_ble_eq_true rfl⟩) ⟨fun _ _ _ _ q => q, fun _ _ _ => ⟨rfl, trivial⟩⟩ rfl rfl hl.1 rfl (lv_room (Nat.le_of_ble_eq_true rfl)) dX12_word_16 ⟨Nat.le_of_ble_eq_true rfl, Nat.le_of_ble_eq_true rfl⟩) hS (fun r8 H1 locs1 hw hk1 hS => ?_)
      have hP := ub_keep hP hk1
      generalize H1 = H at hP hS ⊢
      generalize locs1 = locs at hS ⊢
      rcases hw with hw | hw
      · -- cwithin, case 0
        obtain ⟨rfl, f9⟩ := hw
        have t10 : (0 : Int) ≤ a2.toInt := f9.1
        have t11 : a2.toInt ≤ 100000 := f9.2
        have i12 : 0 ≤ a2.toInt ∧ a2.toInt ≤ 2147483647 := iv_le_r t10 (il_ 0) (iv_all _) (by decide)
        have i13 : 0 ≤ a2.toInt ∧ a2.toInt ≤ 100000 := iv_le_l t11 i12 (il_ 100000) (by decide)
        refine lv_if_ne (tgt := 24) hx hb dX12_word_19 (by decide) (fun c14 => ?_) (fun c14 => ?_)
        · --19 taken
          refine lv_iload hx hb dX12_word_24 (lv_at hl 6 rfl) ?_
          refine lv_iconst (v := 0) hx hb dX12_word_26 (by decide) ?_
          refine lv_iconst (v := 3) hx hb dX12_word_27 (by decide) ?_
          refine th_pi (va_runS (As := [.int a5, .int 0, .int 3]) (rest := []) ⟨hx, hb, hml, hown, hts⟩ (q_cwithin l a5 (0 : Int32) (3 : Int32)) (va_cwS 3 hts (gi_S (in_10 _ (zs16 (zs4 (zs4 (zs4 (zs1 (zs1 (zs1 (zs0))))))))) (in_4 _ (zs16 (zs4 (zs1 (zs1 (zs0)))))) (in_4 _ (zs16 (zs4 (zs1 (zs1 (zs1 (zs0))))))) (in_4 _ (zs16 (zs4 (zs4 (zs0)))))) rfl rfl rfl hz_yX12_within_3 ⟨Nat.le_of_ble_eq_true rfl, Nat.le_of_ble_eq_true rfl⟩) ⟨fun _ _ _ _ q => q, fun _ _ _ => ⟨rfl, trivial⟩⟩ rfl rfl hl.1 rfl (lv_room (Nat.le_of_ble_eq_true rfl)) dX12_word_28 ⟨Nat.le_of_ble_eq_true rfl, Nat.le_of_ble_eq_true rfl⟩) hS (fun r15 H1 locs1 hw hk1 hS => ?_)
          have hP := ub_keep hP hk1
          generalize H1 = H at hP hS ⊢
          generalize locs1 = locs at hS ⊢
          rcases hw with hw | hw
          · -- cwithin, case 0
            obtain ⟨rfl, f16⟩ := hw
            have t17 : (0 : Int) ≤ a5.toInt := f16.1
            have t18 : a5.toInt ≤ 3 := f16.2
            have i19 : 0 ≤ a5.toInt ∧ a5.toInt ≤ 2147483647 := iv_le_r t17 (il_ 0) (iv_all _) (by decide)
            have i20 : 0 ≤ a5.toInt ∧ a5.toInt ≤ 3 := iv_le_l t18 i19 (il_ 3) (by decide)
            refine lv_if_eq (tgt := 46) hx hb dX12_word_31 (by decide) (fun c21 => ?_) (fun c21 => ?_)
            · --31 taken
              exact absurd c21 (by decide)
            · --31 not
              refine lv_iload hx hb dX12_word_34 (lv_at hl 7 rfl) ?_
              refine lv_iconst (v := 1) hx hb dX12_word_36 (by decide) ?_
              refine lv_sipush (v := 255) hx hb dX12_word_37 (by decide) ?_
              refine th_pi (va_runS (As := [.int a6, .int 1, .int 255]) (rest := []) ⟨hx, hb, hml, hown, hts⟩ (q_cwithin l a6 (1 : Int32) (255 : Int32)) (va_cwS 3 hts (gi_S (in_10 _ (zs16 (zs4 (zs4 (zs4 (zs1 (zs1 (zs1 (zs0))))))))) (in_4 _ (zs16 (zs4 (zs1 (zs1 (zs0)))))) (in_4 _ (zs16 (zs4 (zs1 (zs1 (zs1 (zs0))))))) (in_4 _ (zs16 (zs4 (zs4 (zs0)))))) rfl rfl rfl hz_yX12_within_3 ⟨Nat.le_of_ble_eq_true rfl, Nat.le_of_ble_eq_true rfl⟩) ⟨fun _ _ _ _ q => q, fun _ _ _ => ⟨rfl, trivial⟩⟩ rfl rfl hl.1 rfl (lv_room (Nat.le_of_ble_eq_true rfl)) dX12_word_40 ⟨Nat.le_of_ble_eq_true rfl, Nat.le_of_ble_eq_true rfl⟩) hS (fun r22 H1 locs1 hw hk1 hS => ?_)
              have hP := ub_keep hP hk1
              generalize H1 = H at hP hS ⊢
              generalize locs1 = locs at hS ⊢
              rcases hw with hw | hw
              · -- cwithin, case 0
                obtain ⟨rfl, f23⟩ := hw
                have t24 : (1 : Int) ≤ a6.toInt := f23.1
                have t25 : a6.toInt ≤ 255 := f23.2
                have i26 : 1 ≤ a6.toInt ∧ a6.toInt ≤ 2147483647 := iv_le_r t24 (il_ 1) (iv_all _) (by decide)
                have i27 : 1 ≤ a6.toInt ∧ a6.toInt ≤ 255 := iv_le_l t25 i26 (il_ 255) (by decide)
                refine lv_if_ne (tgt := 48) hx hb dX12_word_43 (by decide) (fun c28 => ?_) (fun c28 => ?_)
                · --43 taken
                  refine lv_iload hx hb dX12_word_48 (lv_at hl 4 rfl) ?_
                  refine lv_iconst (v := 0) hx hb dX12_word_50 (by decide) ?_
                  refine lv_bipush (v := 99) hx hb dX12_word_51 (by decide) ?_
                  refine lv_iload hx hb dX12_word_53 (lv_at hl 6 rfl) ?_
                  refine lv_isub hx hb dX12_word_55 ?_
                  refine lv_topi (fun y29 ey29 => ?_)
                  obtain ⟨ty29, iy29⟩ := ti_sub (e := 96) (f := 99) ln_99 i20 ey29 (by decide)
                  have ty29 : y29.toInt = 99 - a5.toInt := ty29
                  have iy29 : 96 ≤ y29.toInt ∧ y29.toInt ≤ 99 := iy29
                  refine th_pi (va_runS (As := [.int a3, .int 0, .int y29]) (rest := []) ⟨hx, hb, hml, hown, hts⟩ (q_cwithin l a3 (0 : Int32) y29) (va_cwS 3 hts (gi_S (in_10 _ (zs16 (zs4 (zs4 (zs4 (zs1 (zs1 (zs1 (zs0))))))))) (in_4 _ (zs16 (zs4 (zs1 (zs1 (zs0)))))) (in_4 _ (zs16 (zs4 (zs1 (zs1 (zs1 (zs0))))))) (in_4 _ (zs16 (zs4 (zs4 (zs0)))))) rfl rfl rfl hz_yX12_within_3 ⟨Nat.le_of_ble_eq_true rfl, Nat.le_of_ble_eq_true rfl⟩) ⟨fun _ _ _ _ q => q, fun _ _ _ => ⟨rfl, trivial⟩⟩ rfl rfl hl.1 rfl (lv_room (Nat.le_of_ble_eq_true rfl)) dX12_word_56 ⟨Nat.le_of_ble_eq_true rfl, Nat.le_of_ble_eq_true rfl⟩) hS (fun r30 H1 locs1 hw hk1 hS => ?_)
                  have hP := ub_keep hP hk1
                  generalize H1 = H at hP hS ⊢
                  generalize locs1 = locs at hS ⊢
                  rcases hw with hw | hw
                  · -- cwithin, case 0
                    obtain ⟨rfl, f31⟩ := hw
                    have t32 : (0 : Int) ≤ a3.toInt := f31.1
                    have t33 : a3.toInt ≤ y29.toInt := f31.2
                    have i34 : 0 ≤ a3.toInt ∧ a3.toInt ≤ 2147483647 := iv_le_r t32 (il_ 0) (iv_all _) (by decide)
                    have i35 : 0 ≤ a3.toInt ∧ a3.toInt ≤ 99 := iv_le_l t33 i34 iy29 (by decide)
                    refine lv_if_eq (tgt := 76) hx hb dX12_word_59 (by decide) (fun c36 => ?_) (fun c36 => ?_)
                    · --59 taken
                      exact absurd c36 (by decide)
                    · --59 not
                      refine lv_iload hx hb dX12_word_62 (lv_at hl 5 rfl) ?_
                      refine lv_iconst (v := 0) hx hb dX12_word_64 (by decide) ?_
                      refine lv_bipush (v := 99) hx hb dX12_word_65 (by decide) ?_
                      refine lv_iload hx hb dX12_word_67 (lv_at hl 6 rfl) ?_
                      refine lv_isub hx hb dX12_word_69 ?_
                      refine lv_topi (fun y37 ey37 => ?_)
                      obtain ⟨ty37, iy37⟩ := ti_sub (e := 96) (f := 99) ln_99 i20 ey37 (by decide)
                      have ty37 : y37.toInt = 99 - a5.toInt := ty37
                      have iy37 : 96 ≤ y37.toInt ∧ y37.toInt ≤ 99 := iy37
                      refine th_pi (va_runS (As := [.int a4, .int 0, .int y37]) (rest := []) ⟨hx, hb, hml, hown, hts⟩ (q_cwithin l a4 (0 : Int32) y37) (va_cwS 3 hts (gi_S (in_10 _ (zs16 (zs4 (zs4 (zs4 (zs1 (zs1 (zs1 (zs0))))))))) (in_4 _ (zs16 (zs4 (zs1 (zs1 (zs0)))))) (in_4 _ (zs16 (zs4 (zs1 (zs1 (zs1 (zs0))))))) (in_4 _ (zs16 (zs4 (zs4 (zs0)))))) rfl rfl rfl hz_yX12_within_3 ⟨Nat.le_of_ble_eq_true rfl, Nat.le_of_ble_eq_true rfl⟩) ⟨fun _ _ _ _ q => q, fun _ _ _ => ⟨rfl, trivial⟩⟩ rfl rfl hl.1 rfl (lv_room (Nat.le_of_ble_eq_true rfl)) dX12_word_70 ⟨Nat.le_of_ble_eq_true rfl, Nat.le_of_ble_eq_true rfl⟩) hS (fun r38 H1 locs1 hw hk1 hS => ?_)
                      have hP := ub_keep hP hk1
                      generalize H1 = H at hP hS ⊢
                      generalize locs1 = locs at hS ⊢
                      rcases hw with hw | hw
                      · -- cwithin, case 0
                        obtain ⟨rfl, f39⟩ := hw
                        have t40 : (0 : Int) ≤ a4.toInt := f39.1
                        have t41 : a4.toInt ≤ y37.toInt := f39.2
                        have i42 : 0 ≤ a4.toInt ∧ a4.toInt ≤ 2147483647 := iv_le_r t40 (il_ 0) (iv_all _) (by decide)
                        have i43 : 0 ≤ a4.toInt ∧ a4.toInt ≤ 99 := iv_le_l t41 i42 iy37 (by decide)
                        refine lv_if_ne (tgt := 78) hx hb dX12_word_73 (by decide) (fun c44 => ?_) (fun c44 => ?_)
                        · --73 taken
                          refine lv_aload_n hx hb dX12_word_78 rfl (lv_at hl 0 rfl) ?_
                          refine th_getL (ci := 13) (C := RX12) (T := TX12) (N := 6) (v := .ref (ad 1)) hx hb hts hinX12 hown hK hP hI 0 (mF 0 rfl) rfl rfl 0 (Nat.le_of_ble_eq_true rfl) (hts _ (vA_in _ _ (in_10 _ (zs16 (zs1 (zs0)))))) (fun _ h9 => h9) (hI.fr 0 (mF 0 rfl) rfl (Nat.le_of_ble_eq_true rfl) 1 rfl) dX12_word_79 ?_
                          refine th_getL (ci := 1) (C := RX0) (T := TX0) (N := 11) (v := .ref (ad 11)) hx hb hts hinX0 hown hK hP hI 1 (mF 1 rfl) rfl rfl 7 (Nat.le_of_ble_eq_true rfl) (hts _ (vA_in _ _ (in_14 _ (zs4 (zs4 (zs1 (zs0))))))) (fun _ h9 => h9) (hI.fr 1 (mF 1 rfl) rfl (Nat.le_of_ble_eq_true rfl) 11 rfl) dX12_word_82 ?_
                          refine th_riL (va_runV (As := []) (rest := []) ⟨hx, hb, hml, hown, hts⟩ (q_size4 l dC dI cT cf hC ad E H.size hI) (cwV 0 hts (gi_V (in_10 _ (zs16 (zs16 (zs0)))) (in_4 _ (zs16 (zs16 (zs1 (zs1 (zs1 (zs0))))))) (in_4 _ (zs16 (zs16 (zs4 (zs0))))) (in_3 _ (zs16 (zs1 (zs1 (zs0))))) (in_4 _ (zs16 (zs1 (zs1 (zs1 (zs0))))))) rfl rfl rfl ⟨rfl, hz_yJx4a65c_size_8abf5_0⟩ ⟨Nat.le_of_ble_eq_true rfl, Nat.le_of_ble_eq_true rfl⟩) ⟨HWL_bl, va_recv hK hP (ci := 0) (q0 := posL 11 (LC cf)) rfl (hI.ob 11 (mF 11 rfl) rfl), (HWL_wi hP hK (WL_D hD) hS hA hEV)⟩ rfl rfl hl.1 rfl (lv_room (Nat.le_of_ble_eq_true rfl)) dX12_word_85 ⟨Nat.le_of_ble_eq_true rfl, Nat.le_of_ble_eq_true rfl⟩) hS hP (fun r45 H locs hw hP hS => ?_)
                          obtain ⟨f46, f47⟩ := hw
                          refine lv_sipush (v := 200) hx hb dX12_word_88 (by decide) ?_
                          refine lv_icmp_lt (tgt := 96) hx hb dX12_word_91 (by decide) (fun c48 => ?_) (fun c48 => ?_)
                          · --91 taken
                            have t49 : r45.toInt < 200 := ti_lt c48
                            have i50 : 0 ≤ r45.toInt ∧ r45.toInt ≤ 199 := iv_lt_l t49 f46 (il_ 200) (by decide)
                            refine va_new (ci := 12) (fs := [.int 0, .int 0, .int 0, .int 0, .int 0, .int 0, .int 0, .int 0]) (C := RX11) (T := TX11) (N := 8) hx hb hts hinX11 tyX11 tyX11_ok hown (hts _ (vA_in _ _ (in_24 _ (zs1 (zs0))))) (hts _ (vA_in _ _ (in_24 _ (zs1 (zs1 (zs0)))))) (hts _ (vA_in _ _ (in_24 _ (zs1 (zs1 (zs1 (zs0))))))) hK hP (WL_D hD) hS hA rfl (fun j hj => by rcases (show j = 0 ∨ j = 1 ∨ j = 2 ∨ j = 3 ∨ j = 4 ∨ j = 5 ∨ j = 6 ∨ j = 7 by omega) with rfl | rfl | rfl | rfl | rfl | rfl | rfl | rfl <;> rfl) (Nat.le_of_ble_eq_true rfl) (Nat.le_of_ble_eq_true rfl) dX12_word_96 (fun qn H hP2 hD2 hS => ?_)
                            have hP2 : va_P (dC, dI) vwCl ([(qn, .inr (12, [.int 0, .int 0, .int 0, .int 0, .int 0, .int 0, .int 0, .int 0]))] ++ WL (LC cf) ad E) H := va_P_perm hP2 List.perm_append_comm
                            have hD2 : va_D A ([(qn, .inr (12, [.int 0, .int 0, .int 0, .int 0, .int 0, .int 0, .int 0, .int 0]))] ++ WL (LC cf) ad E) := va_D_perm hD2 List.perm_append_comm
                            have hP : va_P (dC, dI) vwCl (WL (LC cf) ad E) H := va_P_sub hP2 (fun x hx => List.mem_append_right _ hx)
                            refine lv_dup hx hb dX12_word_99 rfl ?_
                            refine lv_iload_n hx hb dX12_word_100 rfl (lv_at hl 1 rfl) ?_
                            refine lv_iload_n hx hb dX12_word_101 rfl (lv_at hl 2 rfl) ?_
                            refine lv_aload_n hx hb dX12_word_102 rfl (lv_at hl 0 rfl) ?_
                            refine th_getL (ci := 13) (C := RX12) (T := TX12) (N := 6) (v := .ref (ad 1)) hx hb hts hinX12 hown hK hP hI 0 (mF 0 rfl) rfl rfl 0 (Nat.le_of_ble_eq_true rfl) (hts _ (vA_in _ _ (in_10 _ (zs16 (zs1 (zs0)))))) (fun _ h9 => h9) (hI.fr 0 (mF 0 rfl) rfl (Nat.le_of_ble_eq_true rfl) 1 rfl) dX12_word_103 ?_
                            refine th_getL (ci := 1) (C := RX0) (T := TX0) (N := 11) (v := .int (xi (E 1) 0)) hx hb hts hinX0 hown hK hP hI 1 (mF 1 rfl) rfl rfl 0 (Nat.le_of_ble_eq_true rfl) (hts _ (vA_in _ _ (in_10 _ (zs16 (zs4 (zs4 (zs1 (zs1 (zs0))))))))) (fun _ h9 => h9) (th_v0L hKp hI0 1 (mF 1 rfl) rfl (Nat.le_of_ble_eq_true rfl) rfl rfl) dX12_word_106 ?_
                            have hPc := va_P_sub (ws' := [(qn, .inr (12, [.int 0, .int 0, .int 0, .int 0, .int 0, .int 0, .int 0, .int 0]))]) hP2 (fun x hx => List.mem_append_left _ hx)
                            have hDc := va_D_left hD2
                            have hFc : ∀ z, va_A [(qn, .inr (12, [.int 0, .int 0, .int 0, .int 0, .int 0, .int 0, .int 0, .int 0]))] H.size z → A z := new_free hD2 hS hA
                            refine va_callv (va_runI (As := [.int a0, .int a1, .int (xi (E 1) 0)]) (rest := [.ref qn]) ⟨hx, hb, hml, hown, hts⟩ (x_Word l dC dI qn a0 a1 (xi (E 1) 0) H.size) (cwI 3 hts (gi_0 (in_10 _ (zs4 (zs0)))) rfl rfl rfl (hts _ (vA_in _ _ (in_24 _ (zs1 (zs1 (zs1 (zs0))))))) (hts _ (vA_in _ _ (in_24 _ (zs4 (zs0))))) (hts _ (vA_in _ _ (in_24 _ (zs4 (zs1 (zs0)))))) rfl hz_yX11_init_3 ⟨Nat.le_of_ble_eq_true rfl, Nat.le_of_ble_eq_true rfl⟩) ⟨fun a U g mk q => by obtain ⟨e0, e1, qP, qK, qD⟩ := q; exact ⟨e0, e1, qP, va_K.moved (u := U) (U := U.calling g mk a) (Vm.Alike.refl U.vm) qK, qD⟩, fun U hU hW => ⟨rfl, by rw [hU], by rw [hU]; exact hPc, va_K.moved hW.alike (hK.sub (tys' := []) [] rfl), hDc.weaken (fun _ _ _ _ => trivial)⟩⟩ rfl rfl hl.1 rfl (lv_room (Nat.le_of_ble_eq_true rfl)) dX12_word_109 ⟨Nat.le_of_ble_eq_true rfl, Nat.le_of_ble_eq_true rfl⟩) hS (fun z _ h => hFc z h) hFc (fun u1 t H1 locs ht hvm hw hB hz1 hk1 hS => ?_)
                            obtain ⟨hP1, -, hD1⟩ := hB
                            rw [ht] at hP1
                            obtain ⟨hP2, hD2⟩ := va_joinQ (wr := []) hP2 hD2 [0] [] rfl rfl rfl (fun _ h => nomatch h) hk1 hFc hP1 hD1
                            have hP2 : va_P (dC, dI) vwCl ([(qn, .inr (12, [.int a0, .int a1, .int (xi (E 1) 0), .int (0 : Int32), .int (0 : Int32), .int (0 : Int32), .int (0 : Int32), .int (0 : Int32)]))] ++ WL (LC cf) ad E) H1 := hP2
                            have hD2 : va_D A ([(qn, .inr (12, [.int a0, .int a1, .int (xi (E 1) 0), .int (0 : Int32), .int (0 : Int32), .int (0 : Int32), .int (0 : Int32), .int (0 : Int32)]))] ++ WL (LC cf) ad E) := hD2
                            generalize H1 = H at hP2 hS ⊢
                            have hP : va_P (dC, dI) vwCl (WL (LC cf) ad E) H := va_P_sub hP2 (fun x hx => List.mem_append_right _ hx)
                            refine lv_astore (lv' := [(8, .ref qn), (0, .ref (ad 0)), (1, .int a0), (2, .int a1), (3, .int a2), (4, .int a3), (5, .int a4), (6, .int a5), (7, .int a6)]) hx hb dX12_word_112 hl (by decide) rfl (fun ls hl => ?_)
                            refine lv_aload hx hb dX12_word_114 (lv_at hl 0 rfl) ?_
                            refine lv_iload_n hx hb dX12_word_116 rfl (lv_at hl 4 rfl) ?_
                            refine lv_iload hx hb dX12_word_117 (lv_at hl 5 rfl) ?_
                            refine lv_iload hx hb dX12_word_119 (lv_at hl 6 rfl) ?_
                            refine lv_iload hx hb dX12_word_121 (lv_at hl 7 rfl) ?_
                            refine lv_iload hx hb dX12_word_123 (lv_at hl 8 rfl) ?_
                            have hPc := va_P_sub (ws' := [(qn, .inr (12, [.int a0, .int a1, .int (xi (E 1) 0), .int (0 : Int32), .int (0 : Int32), .int (0 : Int32), .int (0 : Int32), .int (0 : Int32)]))]) hP2 (fun x hx => List.mem_append_left _ hx)
                            have hDc := va_D_left hD2
                            have hFc : ∀ z, va_A [(qn, .inr (12, [.int a0, .int a1, .int (xi (E 1) 0), .int (0 : Int32), .int (0 : Int32), .int (0 : Int32), .int (0 : Int32), .int (0 : Int32)]))] H.size z → A z := new_free hD2 hS hA
                            refine va_callv (va_runV (As := [.int a2, .int a3, .int a4, .int a5, .int a6]) (rest := []) ⟨hx, hb, hml, hown, hts⟩ (x_say l dC dI qn a0 a1 (xi (E 1) 0) a2 a3 a4 a5 a6 H.size) (cwV 5 hts (gi_V (in_24 _ (zs4 (zs1 (zs1 (zs0))))) (in_24 _ (zs4 (zs1 (zs1 (zs1 (zs0)))))) (in_24 _ (zs4 (zs4 (zs0)))) (in_24 _ (zs1 (zs1 (zs1 (zs0))))) (in_10 _ (zs4 (zs4 (zs1 (zs0)))))) rfl rfl rfl ⟨rfl, hz_yX11_say_5⟩ ⟨Nat.le_of_ble_eq_true rfl, Nat.le_of_ble_eq_true rfl⟩) ⟨fun a U g mk q => by obtain ⟨e0, e1, qP, qK, qD⟩ := q; exact ⟨e0, e1, qP, va_K.moved (u := U) (U := U.calling g mk a) (Vm.Alike.refl U.vm) qK, qD⟩, va_recv hK hPc (ci := 12) (q0 := 0) rfl rfl, fun U hU hW => ⟨rfl, by rw [hU], by rw [hU]; exact hPc, va_K.moved hW.alike (hK.sub (tys' := []) [] rfl), hDc.weaken (fun _ _ _ _ => trivial)⟩⟩ rfl rfl hl.1 rfl (lv_room (Nat.le_of_ble_eq_true rfl)) dX12_word_125 ⟨Nat.le_of_ble_eq_true rfl, Nat.le_of_ble_eq_true rfl⟩) hS (fun z _ h => hFc z h) hFc (fun u1 t H1 locs ht hvm hw hB hz1 hk1 hS => ?_)
                            obtain ⟨hP1, -, hD1⟩ := hB
                            rw [ht] at hP1
                            obtain ⟨hP2, hD2⟩ := va_joinQ (wr := []) hP2 hD2 [0] [] rfl rfl rfl (fun _ h => nomatch h) hk1 hFc hP1 hD1
                            have hP2 : va_P (dC, dI) vwCl ([(qn, .inr (12, [.int a0, .int a1, .int (xi (E 1) 0), .int a2, .int a3, .int a4, .int a5, .int a6]))] ++ WL (LC cf) ad E) H1 := hP2
                            have hD2 : va_D A ([(qn, .inr (12, [.int a0, .int a1, .int (xi (E 1) 0), .int a2, .int a3, .int a4, .int a5, .int a6]))] ++ WL (LC cf) ad E) := hD2
                            generalize H1 = H at hP2 hS ⊢
                            have hP : va_P (dC, dI) vwCl (WL (LC cf) ad E) H := va_P_sub hP2 (fun x hx => List.mem_append_right _ hx)
                            refine lv_aload_n hx hb dX12_word_128 rfl (lv_at hl 1 rfl) ?_
                            refine th_getL (ci := 13) (C := RX12) (T := TX12) (N := 6) (v := .ref (ad 1)) hx hb hts hinX12 hown hK hP hI 0 (mF 0 rfl) rfl rfl 0 (Nat.le_of_ble_eq_true rfl) (hts _ (vA_in _ _ (in_10 _ (zs16 (zs1 (zs0)))))) (fun _ h9 => h9) (hI.fr 0 (mF 0 rfl) rfl (Nat.le_of_ble_eq_true rfl) 1 rfl) dX12_word_129 ?_
                            refine th_getL (ci := 1) (C := RX0) (T := TX0) (N := 11) (v := .ref (ad 11)) hx hb hts hinX0 hown hK hP hI 1 (mF 1 rfl) rfl rfl 7 (Nat.le_of_ble_eq_true rfl) (hts _ (vA_in _ _ (in_14 _ (zs4 (zs4 (zs1 (zs0))))))) (fun _ h9 => h9) (hI.fr 1 (mF 1 rfl) rfl (Nat.le_of_ble_eq_true rfl) 11 rfl) dX12_word_132 ?_
                            refine lv_aload hx hb dX12_word_135 (lv_at hl 0 rfl) ?_
                            obtain ⟨ad1, had1⟩ : ∃ z, z = va_up ad (64 * (cf 4 + 1) + 13) qn := ⟨_, rfl⟩
                            obtain ⟨E1, hE1⟩ : ∃ z : Nat → va_E, z = va_up E (64 * (cf 4 + 1) + 13) (.inr (12, [.int a0, .int a1, .int (xi (E 1) 0), .int a2, .int a3, .int a4, .int a5, .int a6])) := ⟨_, rfl⟩
                            have huq : ∀ t', t' < 15 → (kl t' = 4 ↔ t' = 13) := by decide
                            have hKM := km1 (n := cf 4) (J := 4) (t := 13) (by decide) huq
                            have hko : (64 * (cf 4 + 1) + 13) ∉ LC cf := K_out (J := 4) (by decide) hKM _ (List.mem_singleton.mpr rfl)
                            have haa : ∀ o, o ∈ LC cf → ad1 o = ad o := fun o h => by rw [had1]; exact va_up_ne _ _ (fun e => hko (e ▸ h))
                            have hee : ∀ o, o ∈ LC cf → E1 o = E o := fun o h => by rw [hE1]; exact va_up_ne _ _ (fun e => hko (e ▸ h))
                            have aq : ad1 (64 * (cf 4 + 1) + 13) = qn := by rw [had1]; exact va_up_self _ _ _
                            have eq : E1 (64 * (cf 4 + 1) + 13) = .inr (12, [.int a0, .int a1, .int (xi (E 1) 0), .int a2, .int a3, .int a4, .int a5, .int a6]) := by rw [hE1]; exact va_up_self _ _ _
                            have hw9 : WL ([(64 * (cf 4 + 1) + 13)] ++ LC cf) ad1 E1 = [(qn, .inr (12, [.int a0, .int a1, .int (xi (E 1) 0), .int a2, .int a3, .int a4, .int a5, .int a6]))] ++ WL (LC cf) ad E := by
                              show (ad1 (64 * (cf 4 + 1) + 13), E1 (64 * (cf 4 + 1) + 13)) :: WL (LC cf) ad1 E1 = _
                              rw [aq, eq, WL_congr (ad' := ad) (E' := E) fun o h => ⟨haa o h, hee o h⟩]
                              rfl
                            rw [← hw9] at hP2 hD2
                            have hI1 := IX_ad hI hC haa hee
                            have hlt : cf 4 < 200 := by omega
                            obtain ⟨hG, hCn⟩ := CF_up hC (J := 4) (by decide) (m := 200) rfl hlt (by decide)
                            have hnew : ∀ t', t' < 15 → kl t' = 4 → okS cT (shP (va_up cf 4 (cf 4 + 1)) t' (cf 4)) (E1 (64 * (cf 4 + 1) + t')) ∧ ∀ j, j < (shP (va_up cf 4 (cf 4 + 1)) t' (cf 4)).2.2 → okV ad1 (spP (va_up cf 4 (cf 4 + 1)) t' (cf 4) j) (xv (E1 (64 * (cf 4 + 1) + t')) j) := by
                              intro t' h1 h2
                              obtain rfl : t' = 13 := (huq t' h1).mp h2
                              rw [eq]
                              refine ⟨rfl, fun j hj => ?_⟩
                              have hj : j < 8 := hj
                              rcases (show j = 0 ∨ j = 1 ∨ j = 2 ∨ j = 3 ∨ j = 4 ∨ j = 5 ∨ j = 6 ∨ j = 7 by omega) with rfl | rfl | rfl | rfl | rfl | rfl | rfl | rfl
                              · exact okI rfl f3
                              · exact okI rfl f4
                              · exact okI rfl i6
                              · exact okI rfl i13
                              · exact okI rfl i35
                              · exact okI rfl i43
                              · exact okI rfl i20
                              · exact okI rfl (iv_w i27 (by decide))
                            have hM := k_addW l dC dI cT cf hC ad1 E1 (va_up cf 4 (cf 4 + 1)) 4 (by decide) hG (by omega) [(64 * (cf 4 + 1) + 13)] (by simp) hKM 12 RX11 TX11 8 _ rfl (fun _ => rfl) (List.mem_of_getElem? (i := 4) rfl) eq H.size hI1 hnew
                            rw [show ad1 (7 + 4) = ad 11 from haa _ (mF _ rfl), show ad1 (64 * (cf 4 + 1) + lkd 4) = qn from aq] at hM
                            have hFA := all_free hD2 hS hA
                            refine va_calli (va_runV (As := [.ref qn]) (rest := []) ⟨hx, hb, hml, hown, hts⟩ hM (cwV 1 hts (gi_V (in_11 _ (zs1 (zs1 (zs1 (zs0))))) (in_11 _ (zs4 (zs0))) (in_11 _ (zs4 (zs1 (zs0)))) (in_3 _ (zs16 (zs1 (zs1 (zs0))))) (in_3 _ (zs16 (zs16 (zs0))))) rfl rfl rfl (by decide +kernel) ⟨Nat.le_of_ble_eq_true rfl, Nat.le_of_ble_eq_true rfl⟩) ⟨fun a U g mk q => by obtain ⟨e0, e1, qP, qK, qD, qE⟩ := q; exact ⟨e0, e1, qP, va_K.moved (u := U) (U := U.calling g mk a) (Vm.Alike.refl U.vm) qK, qD, EVC_c qE⟩, va_recv hK hP (ci := 0) (q0 := posL 11 (LC cf)) rfl (hI.ob 11 (mF 11 rfl) rfl), fun U hU hW => ⟨rfl, by rw [hU], by rw [hU]; exact hP2, va_K.moved hW.alike hK, hD2.weaken (fun _ _ _ _ => trivial), EVC_w hU hW hS hFA hEV⟩⟩ rfl rfl hl.1 rfl (lv_room (Nat.le_of_ble_eq_true rfl)) dX12_word_137 ⟨Nat.le_of_ble_eq_true rfl, Nat.le_of_ble_eq_true rfl⟩) hS (fun z _ h => hFA z h) hFA (fun r9 u9 t H1 locs ht hvm hw hB hz1 hk1 hS => ?_)
                            obtain ⟨rfl, hI9, a9, e9⟩ := hw
                            obtain ⟨hP9, hD9⟩ := hB
                            rw [ht] at hP9
                            have hD9 := hD9.weaken (B := A) (fun _ _ _ h => hFA _ h)
                            generalize H1 = H at hP9 hS ⊢
                            obtain ⟨ad9, E9⟩ := u9
                            dsimp only at hI9 a9 e9 hP9 hD9
                            have had9 : ∀ o, o ≠ 13 + 4 → (∀ t, t < 15 → kl t = 4 → o ≠ 64 * (cf 4 + 1) + t) → ad9 o = ad o := fun o h1 h2 => (a9 o h1).trans (by rw [had1]; exact va_up_ne _ _ (h2 13 (by decide) rfl))
                            have hkg : KpG 4 cf w_u_word E E9 := fun o j h1 h2 h3 h4 => by have h5 := hKp o j h4; rw [← h5]; rw [e9 o h1 h2, hE1, va_up_ne _ _ (h3 13 (by decide) rfl)]
                            have hob : E9 (64 * (cf 4 + 1) + lkd 4) = .inr (12, [.int a0, .int a1, .int (xi (E 1) 0), .int a2, .int a3, .int a4, .int a5, .int a6]) := (e9 _ (by show 64 * (cf 4 + 1) + 13 ≠ _; omega) (by show 64 * (cf 4 + 1) + 13 ≠ _; omega)).trans eq
                            refine lv_pop hx hb dX12_word_140 rfl ?_
                            refine lv_aload_n hx hb dX12_word_141 rfl (lv_at hl 1 rfl) ?_
                            rw [show ad 0 = ad9 0 from (had9 0 (by decide) (fun t h1 h2 => by omega)).symm]
                            refine th_getL (ci := 13) (C := RX12) (T := TX12) (N := 6) (v := .ref (ad9 1)) hx hb hts hinX12 hown hK hP9 hI9 0 (mF 0 rfl) rfl rfl 0 (Nat.le_of_ble_eq_true rfl) (hts _ (vA_in _ _ (in_10 _ (zs16 (zs1 (zs0)))))) (fun _ h9 => h9) (hI9.fr 0 (mF 0 rfl) rfl (Nat.le_of_ble_eq_true rfl) 1 rfl) dX12_word_142 ?_
                            refine th_getL (ci := 1) (C := RX0) (T := TX0) (N := 11) (v := .ref (ad9 11)) hx hb hts hinX0 hown hK hP9 hI9 1 (mF 1 rfl) rfl rfl 7 (Nat.le_of_ble_eq_true rfl) (hts _ (vA_in _ _ (in_14 _ (zs4 (zs4 (zs1 (zs0))))))) (fun _ h9 => h9) (hI9.fr 1 (mF 1 rfl) rfl (Nat.le_of_ble_eq_true rfl) 11 rfl) dX12_word_145 ?_
                            refine th_riL (va_runV (As := []) (rest := []) ⟨hx, hb, hml, hown, hts⟩ (q_size4 l dC dI cT (va_up cf 4 (cf 4 + 1)) hCn ad9 E9 H.size hI9) (cwV 0 hts (gi_V (in_10 _ (zs16 (zs16 (zs0)))) (in_4 _ (zs16 (zs16 (zs1 (zs1 (zs1 (zs0))))))) (in_4 _ (zs16 (zs16 (zs4 (zs0))))) (in_3 _ (zs16 (zs1 (zs1 (zs0))))) (in_4 _ (zs16 (zs1 (zs1 (zs1 (zs0))))))) rfl rfl rfl ⟨rfl, hz_yJx4a65c_size_8abf5_0⟩ ⟨Nat.le_of_ble_eq_true rfl, Nat.le_of_ble_eq_true rfl⟩) ⟨HWL_bl, va_recv hK hP9 (ci := 0) (q0 := posL 11 (LC (va_up cf 4 (cf 4 + 1)))) rfl (hI9.ob 11 (mF 11 rfl) rfl), HWL_wi hP9 hK hD9 hS hA (by rw [show (va_up cf 4 (cf 4 + 1)) 6 = cf 6 from va_up_ne _ _ (by decide)]; exact hEV)⟩ rfl rfl hl.1 rfl (lv_room (Nat.le_of_ble_eq_true rfl)) dX12_word_148 ⟨Nat.le_of_ble_eq_true rfl, Nat.le_of_ble_eq_true rfl⟩) hS hP9 (fun r8 H locs hw8 hP9 hS => ?_)
                            obtain ⟨i8, t8⟩ := hw8
                            rw [show (va_up cf 4 (cf 4 + 1)) 4 = cf 4 + 1 from va_up_self _ _ _] at t8
                            refine lv_iconst (v := 1) hx hb dX12_word_151 (by decide) ?_
                            refine lv_isub hx hb dX12_word_152 ?_
                            refine lv_topi (fun y8 e8 => ?_)
                            obtain ⟨ty8, iy8⟩ := ti_sub (e := -1) (f := 300) i8 ln_1 e8 (by decide)
                            have l1 : (1 : Int32).toInt = 1 := rfl
                            rw [hQ]
                            refine W.widen (k := 2) (n := 648) (by first | exact Nat.le_of_ble_eq_true rfl | omega) (by first | exact Nat.le_of_ble_eq_true rfl | omega) ?_
                            exact W.iret (v := y8) hx hb hr (fun t ht hW => ⟨⟨y8, ((va_up cf 4 (cf 4 + 1)), ad9, E9), rfl, ⟨hCn, hI9, Or.inr ⟨hG, had9, hkg, (by omega), (by  omega), hob⟩⟩, by rw [ht]; exact hP9, hD9⟩, hS.F ht⟩) hS.2.2 dX12_word_153
                          · --91 not
                            have t51 : (200 : Int) ≤ r45.toInt := ti_nlt c48
                            have i52 : 200 ≤ r45.toInt ∧ r45.toInt ≤ 200 := iv_le_r t51 (il_ 200) f46 (by decide)
                            refine lv_iconst (v := -1) hx hb dX12_word_94 (by decide) ?_
                            have zm1 := ln_m1
                            rw [hQ]
                            refine W.widen (k := 2) (n := 648) (by first | exact Nat.le_of_ble_eq_true rfl | omega) (by first | exact Nat.le_of_ble_eq_true rfl | omega) ?_
                            exact W.iret (v := (-1)) hx hb hr (fun t ht hW => ⟨⟨(-1), (cf, ad, E), rfl, ⟨hC, hI, Or.inl ⟨rfl, rfl, hKp, rfl, by omega⟩⟩, by rw [ht]; exact hP, (WL_D hD)⟩, hS.F ht⟩) hS.2.2 dX12_word_95
                        · --73 not
                          exact absurd c44 (by decide)
                      · -- cwithin, case 1
                        obtain ⟨rfl, f53⟩ := hw
                        have t54 : ¬ ((0 : Int) ≤ a4.toInt ∧ a4.toInt ≤ y37.toInt) := f53
                        refine lv_if_ne (tgt := 78) hx hb dX12_word_73 (by decide) (fun c55 => ?_) (fun c55 => ?_)
                        · --73 taken
                          exact absurd c55 (by decide)
                        · --73 not
                          refine lv_iconst (v := -1) hx hb dX12_word_76 (by decide) ?_
                          have zm1 := ln_m1
                          rw [hQ]
                          refine W.widen (k := 2) (n := 648) (by first | exact Nat.le_of_ble_eq_true rfl | omega) (by first | exact Nat.le_of_ble_eq_true rfl | omega) ?_
                          exact W.iret (v := (-1)) hx hb hr (fun t ht hW => ⟨⟨(-1), (cf, ad, E), rfl, ⟨hC, hI, Or.inl ⟨rfl, rfl, hKp, rfl, by omega⟩⟩, by rw [ht]; exact hP, (WL_D hD)⟩, hS.F ht⟩) hS.2.2 dX12_word_77
                  · -- cwithin, case 1
                    obtain ⟨rfl, f56⟩ := hw
                    have t57 : ¬ ((0 : Int) ≤ a3.toInt ∧ a3.toInt ≤ y29.toInt) := f56
                    refine lv_if_eq (tgt := 76) hx hb dX12_word_59 (by decide) (fun c58 => ?_) (fun c58 => ?_)
                    · --59 taken
                      refine lv_iconst (v := -1) hx hb dX12_word_76 (by decide) ?_
                      have zm1 := ln_m1
                      rw [hQ]
                      refine W.widen (k := 2) (n := 648) (by first | exact Nat.le_of_ble_eq_true rfl | omega) (by first | exact Nat.le_of_ble_eq_true rfl | omega) ?_
                      exact W.iret (v := (-1)) hx hb hr (fun t ht hW => ⟨⟨(-1), (cf, ad, E), rfl, ⟨hC, hI, Or.inl ⟨rfl, rfl, hKp, rfl, by omega⟩⟩, by rw [ht]; exact hP, (WL_D hD)⟩, hS.F ht⟩) hS.2.2 dX12_word_77
                    · --59 not
                      exact absurd c58 (by decide)
                · --43 not
                  exact absurd c28 (by decide)
              · -- cwithin, case 1
                obtain ⟨rfl, f59⟩ := hw
                have t60 : ¬ ((1 : Int) ≤ a6.toInt ∧ a6.toInt ≤ 255) := f59
                refine lv_if_ne (tgt := 48) hx hb dX12_word_43 (by decide) (fun c61 => ?_) (fun c61 => ?_)
                · --43 taken
                  exact absurd c61 (by decide)
                · --43 not
                  refine lv_iconst (v := -1) hx hb dX12_word_46 (by decide) ?_
                  have zm1 := ln_m1
                  rw [hQ]
                  refine W.widen (k := 2) (n := 648) (by first | exact Nat.le_of_ble_eq_true rfl | omega) (by first | exact Nat.le_of_ble_eq_true rfl | omega) ?_
                  exact W.iret (v := (-1)) hx hb hr (fun t ht hW => ⟨⟨(-1), (cf, ad, E), rfl, ⟨hC, hI, Or.inl ⟨rfl, rfl, hKp, rfl, by omega⟩⟩, by rw [ht]; exact hP, (WL_D hD)⟩, hS.F ht⟩) hS.2.2 dX12_word_47
          · -- cwithin, case 1
            obtain ⟨rfl, f62⟩ := hw
            have t63 : ¬ ((0 : Int) ≤ a5.toInt ∧ a5.toInt ≤ 3) := f62
            refine lv_if_eq (tgt := 46) hx hb dX12_word_31 (by decide) (fun c64 => ?_) (fun c64 => ?_)
            · --31 taken
              refine lv_iconst (v := -1) hx hb dX12_word_46 (by decide) ?_
              have zm1 := ln_m1
              rw [hQ]
              refine W.widen (k := 2) (n := 648) (by first | exact Nat.le_of_ble_eq_true rfl | omega) (by first | exact Nat.le_of_ble_eq_true rfl | omega) ?_
              exact W.iret (v := (-1)) hx hb hr (fun t ht hW => ⟨⟨(-1), (cf, ad, E), rfl, ⟨hC, hI, Or.inl ⟨rfl, rfl, hKp, rfl, by omega⟩⟩, by rw [ht]; exact hP, (WL_D hD)⟩, hS.F ht⟩) hS.2.2 dX12_word_47
            · --31 not
              exact absurd c64 (by decide)
        · --19 not
          exact absurd c14 (by decide)
      · -- cwithin, case 1
        obtain ⟨rfl, f65⟩ := hw
        have t66 : ¬ ((0 : Int) ≤ a2.toInt ∧ a2.toInt ≤ 100000) := f65
        refine lv_if_ne (tgt := 24) hx hb dX12_word_19 (by decide) (fun c67 => ?_) (fun c67 => ?_)
        · --19 taken
          exact absurd c67 (by decide)
        · --19 not
          refine lv_iconst (v := -1) hx hb dX12_word_22 (by decide) ?_
          have zm1 := ln_m1
          rw [hQ]
          refine W.widen (k := 2) (n := 648) (by first | exact Nat.le_of_ble_eq_true rfl | omega) (by first | exact Nat.le_of_ble_eq_true rfl | omega) ?_
          exact W.iret (v := (-1)) hx hb hr (fun t ht hW => ⟨⟨(-1), (cf, ad, E), rfl, ⟨hC, hI, Or.inl ⟨rfl, rfl, hKp, rfl, by omega⟩⟩, by rw [ht]; exact hP, (WL_D hD)⟩, hS.F ht⟩) hS.2.2 dX12_word_23
  · -- isEnteredC, case 1
    obtain ⟨rfl, f68⟩ := hw
    have i69 : 0 ≤ (xi (E 1) 1).toInt ∧ (xi (E 1) 1).toInt ≤ 16 := hI0.iv 1 (mF 1 rfl) rfl (Nat.le_of_ble_eq_true rfl) rfl
    have i70 : 0 ≤ (xi (E 1) 0).toInt ∧ (xi (E 1) 0).toInt ≤ 400 := hI0.iv 1 (mF 1 rfl) rfl (Nat.le_of_ble_eq_true rfl) rfl
    refine lv_if_eq (tgt := 22) hx hb dX12_word_9 (by decide) (fun c71 => ?_) (fun c71 => ?_)
    · --9 taken
      refine lv_iconst (v := -1) hx hb dX12_word_22 (by decide) ?_
      have zm1 := ln_m1
      rw [hQ]
      refine W.widen (k := 2) (n := 648) (by first | exact Nat.le_of_ble_eq_true rfl | omega) (by first | exact Nat.le_of_ble_eq_true rfl | omega) ?_
      exact W.iret (v := (-1)) hx hb hr (fun t ht hW => ⟨⟨(-1), (cf, ad, E), rfl, ⟨hC, hI, Or.inl ⟨rfl, rfl, hKp, rfl, by omega⟩⟩, by rw [ht]; exact hP, (WL_D hD)⟩, hS.F ht⟩) hS.2.2 dX12_word_23
    · --9 not
      exact absurd c71 (by decide)
def v_u_protest : List Cond := .code yX12_protest cX12_protest 5 (some .int) :: vA
abbrev rm_u_protest : Room := { frames := 8, cells := 2, slots := 650, locals := 320 }
def w_u_protest : Nat → Nat → Bool := wl [] []
set_option maxHeartbeats 4000000 in
set_option maxRecDepth 100000 in
theorem q_u_protest (l : Launch) (dC : Nat → ClassId) (dI : Nat → Nat → Nat) (cT : Nat → ClassId) (cf : Nat → Nat) (hC : CF cf) (ad : Nat → Nat) (E : Nat → va_E) (sz : Nat) (a0 : Int32) (a1 : Int32) (a2 : Int32) (a3 : Int32) (hI0 : IXL cT (shC cf) (spC cf) (LC cf) ad E)  : Met l yX12_protest v_u_protest rm_u_protest (va_Pc [.ref (ad 0), .int a0, .int a1, .int a2, .int a3] (HWL dC dI (TYC cT) cf ad E sz)) (va_Qi (S := (Nat → Nat) × (Nat → Nat) × (Nat → va_E)) (fun r u => Made 5 cT cf ad w_u_protest E u (r = -1 ∧ ¬ ((0 ≤ a0.toInt ∧ a0.toInt < ((cf 2 : Nat) : Int)) ∧ (0 ≤ a1.toInt ∧ a1.toInt < (xi (E 1) 1).toInt) ∧ (¬ (xi (E (64 * (a0.toNatClampNeg + 1) + 7)) a1.toNatClampNeg).toInt = -1 ∧ (xi (E (64 * (a0.toNatClampNeg + 1) + 7)) a1.toNatClampNeg).toInt ≤ (xi (E 1) 0).toInt) ∧ (0 ≤ a0.toInt ∧ a0.toInt < ((cf 2 : Nat) : Int)) ∧ (0 ≤ a2.toInt ∧ a2.toInt < (xi (E 1) 1).toInt) ∧ (¬ (xi (E (64 * (a0.toNatClampNeg + 1) + 7)) a2.toNatClampNeg).toInt = -1 ∧ (xi (E (64 * (a0.toNatClampNeg + 1) + 7)) a2.toNatClampNeg).toInt ≤ (xi (E 1) 0).toInt) ∧ ¬ a1.toInt = a2.toInt ∧ (0 ≤ a3.toInt ∧ a3.toInt ≤ 100000) ∧ cf 5 < 30)) (fun e9 => r.toInt = ((cf 5 : Nat) : Int) ∧ ((0 ≤ a0.toInt ∧ a0.toInt < ((cf 2 : Nat) : Int)) ∧ (0 ≤ a1.toInt ∧ a1.toInt < (xi (E 1) 1).toInt) ∧ (¬ (xi (E (64 * (a0.toNatClampNeg + 1) + 7)) a1.toNatClampNeg).toInt = -1 ∧ (xi (E (64 * (a0.toNatClampNeg + 1) + 7)) a1.toNatClampNeg).toInt ≤ (xi (E 1) 0).toInt) ∧ (0 ≤ a0.toInt ∧ a0.toInt < ((cf 2 : Nat) : Int)) ∧ (0 ≤ a2.toInt ∧ a2.toInt < (xi (E 1) 1).toInt) ∧ (¬ (xi (E (64 * (a0.toNatClampNeg + 1) + 7)) a2.toNatClampNeg).toInt = -1 ∧ (xi (E (64 * (a0.toNatClampNeg + 1) + 7)) a2.toNatClampNeg).toInt ≤ (xi (E 1) 0).toInt) ∧ ¬ a1.toInt = a2.toInt ∧ (0 ≤ a3.toInt ∧ a3.toInt ≤ 100000) ∧ cf 5 < 30) ∧ e9 = .inr (5, [.int a0, .int a1, .int a2, .int a3, .int (xi (E 1) 0), .int (-1 : Int32), .int (0 : Int32), .int (-1 : Int32), .int (-1 : Int32), .int (0 : Int32)]))) (fun u t => va_P (dC, dI) vwCl (WL (LC u.1) u.2.1 u.2.2) t.heap ∧ va_D (va_A (WL (LC cf) ad E) sz) (WL (LC u.1) u.2.1 u.2.2)) (va_A (WL (LC cf) ad E) sz)) 2 650 (va_A (WL (LC cf) ad E) sz) := by
  obtain ⟨⟨hc0, hc1, hc2, hc3, hc4, hc5⟩, hcr⟩ := id hC
  refine Met.ofW (cc := cX12_protest) (maxL := 5) (ret := (some .int)) (by decide) rfl ?_
  intro p e s m args below meth c s₁ B hml hv
  obtain ⟨hargs, hsz, hP, hK, hD0, hEV⟩ := hv
  subst hsz
  have hx := B.exec
  have hb := B.bytes
  have hr := B.returns
  have hts := atoms_spec (ws := v_u_protest) B.pre
  have hown : s.vm.findClass RX12 = some m.cls := findClass_of_methodNamed B.named
  have hlocks := B.notSynchronized
  have hinX0 : ∀ w ∈ u_ws RX0 TX0 11, w ∈ v_u_protest := fun w h => vA_in _ w (in_X0 w h)
  have hinX12 : ∀ w ∈ u_ws RX12 TX12 6, w ∈ v_u_protest := fun w h => vA_in _ w (in_X12 w h)
  have hinX4 : ∀ w ∈ u_ws RX4 TX4 10, w ∈ v_u_protest := fun w h => vA_in _ w (in_X4 w h)
  generalize hAe : va_A (WL (LC cf) ad E) s.heap.size = A at hEV ⊢
  have hA : ∀ q : Nat, s.heap.size ≤ q → A q := fun q h => by rw [← hAe]; exact Or.inr h
  have hD : va_D A (WL (LC cf) ad E) := by rw [← hAe]; exact hD0.self
  have hS : va_S A s.heap s.heap [] := va_S.rf
  have hI := hI0
  have hKp : Kp w_u_protest E E := Kp.rf
  have hl := lv_entry ([.ref (ad 0), .int a0, .int a1, .int a2, .int a3]) (n := 5) (Nat.le_of_ble_eq_true rfl)
  obtain ⟨Q, hQ⟩ : ∃ Q, Q = MQ below (va_Qi (S := (Nat → Nat) × (Nat → Nat) × (Nat → va_E)) (fun r u => Made 5 cT cf ad w_u_protest E u (r = -1 ∧ ¬ ((0 ≤ a0.toInt ∧ a0.toInt < ((cf 2 : Nat) : Int)) ∧ (0 ≤ a1.toInt ∧ a1.toInt < (xi (E 1) 1).toInt) ∧ (¬ (xi (E (64 * (a0.toNatClampNeg + 1) + 7)) a1.toNatClampNeg).toInt = -1 ∧ (xi (E (64 * (a0.toNatClampNeg + 1) + 7)) a1.toNatClampNeg).toInt ≤ (xi (E 1) 0).toInt) ∧ (0 ≤ a0.toInt ∧ a0.toInt < ((cf 2 : Nat) : Int)) ∧ (0 ≤ a2.toInt ∧ a2.toInt < (xi (E 1) 1).toInt) ∧ (¬ (xi (E (64 * (a0.toNatClampNeg + 1) + 7)) a2.toNatClampNeg).toInt = -1 ∧ (xi (E (64 * (a0.toNatClampNeg + 1) + 7)) a2.toNatClampNeg).toInt ≤ (xi (E 1) 0).toInt) ∧ ¬ a1.toInt = a2.toInt ∧ (0 ≤ a3.toInt ∧ a3.toInt ≤ 100000) ∧ cf 5 < 30)) (fun e9 => r.toInt = ((cf 5 : Nat) : Int) ∧ ((0 ≤ a0.toInt ∧ a0.toInt < ((cf 2 : Nat) : Int)) ∧ (0 ≤ a1.toInt ∧ a1.toInt < (xi (E 1) 1).toInt) ∧ (¬ (xi (E (64 * (a0.toNatClampNeg + 1) + 7)) a1.toNatClampNeg).toInt = -1 ∧ (xi (E (64 * (a0.toNatClampNeg + 1) + 7)) a1.toNatClampNeg).toInt ≤ (xi (E 1) 0).toInt) ∧ (0 ≤ a0.toInt ∧ a0.toInt < ((cf 2 : Nat) : Int)) ∧ (0 ≤ a2.toInt ∧ a2.toInt < (xi (E 1) 1).toInt) ∧ (¬ (xi (E (64 * (a0.toNatClampNeg + 1) + 7)) a2.toNatClampNeg).toInt = -1 ∧ (xi (E (64 * (a0.toNatClampNeg + 1) + 7)) a2.toNatClampNeg).toInt ≤ (xi (E 1) 0).toInt) ∧ ¬ a1.toInt = a2.toInt ∧ (0 ≤ a3.toInt ∧ a3.toInt ≤ 100000) ∧ cf 5 < 30) ∧ e9 = .inr (5, [.int a0, .int a1, .int a2, .int a3, .int (xi (E 1) 0), .int (-1 : Int32), .int (0 : Int32), .int (-1 : Int32), .int (-1 : Int32), .int (0 : Int32)]))) (fun u t => va_P (dC, dI) vwCl (WL (LC u.1) u.2.1 u.2.2) t.heap ∧ va_D A (WL (LC u.1) u.2.1 u.2.2)) (A)) args s 2 650 (A) := ⟨_, rfl⟩
  rw [← hQ, show entryFrame m args 5 = _ from (congrArg (fun z => entryFrame m z 5) hargs).trans (lg_entry_eq _ _ _)]
  generalize (lg_sl ([.ref (ad 0), .int a0, .int a1, .int a2, .int a3]) ++ List.replicate (5 - (lg_sl ([.ref (ad 0), .int a0, .int a1, .int a2, .int a3])).length) Slot.unset).toArray = ls at hl ⊢
  have hl : lv_has ls 5 [(0, .ref (ad 0)), (1, .int a0), (2, .int a1), (3, .int a2), (4, .int a3)] := hl
  refine lv_aload_n hx hb dX12_protest_0 rfl (lv_at hl 0 rfl) ?_
  refine th_getL (ci := 13) (C := RX12) (T := TX12) (N := 6) (v := .ref (ad 1)) hx hb hts hinX12 hown hK hP hI 0 (mF 0 rfl) rfl rfl 0 (Nat.le_of_ble_eq_true rfl) (hts _ (vA_in _ _ (in_10 _ (zs16 (zs1 (zs0)))))) (fun _ h9 => h9) (hI.fr 0 (mF 0 rfl) rfl (Nat.le_of_ble_eq_true rfl) 1 rfl) dX12_protest_1 ?_
  refine lv_iload_n hx hb dX12_protest_4 rfl (lv_at hl 1 rfl) ?_
  refine lv_iload_n hx hb dX12_protest_5 rfl (lv_at hl 2 rfl) ?_
  refine th_riL (va_runV (As := [.int a0, .int a1]) (rest := []) ⟨hx, hb, hml, hown, hts⟩ (q_isEnteredC l dC dI cT cf hC ad E s.heap.size a0 a1 hI) (cwV 2 hts (gi_V (in_18 _ (zs1 (zs0))) (in_18 _ (zs1 (zs1 (zs0)))) (in_18 _ (zs1 (zs1 (zs1 (zs0))))) (in_5 _ (zs4 (zs1 (zs1 (zs0))))) (in_6 _ (zs4 (zs4 (zs1 (zs1 (zs0))))))) rfl rfl rfl ⟨rfl, hz_yX0_isEntered_2⟩ ⟨Nat.le_of_ble_eq_true rfl, Nat.le_of_ble_eq_true rfl⟩) ⟨HWL_bl, va_recv hK hP (ci := 1) (q0 := posL 1 (LC cf)) rfl (hI.ob 1 (mF 1 rfl) rfl), (HWL_wi hP hK (WL_D hD) hS hA hEV)⟩ rfl rfl hl.1 rfl (lv_room (Nat.le_of_ble_eq_true rfl)) dX12_protest_6 ⟨Nat.le_of_ble_eq_true rfl, Nat.le_of_ble_eq_true rfl⟩) hS hP (fun r1 H locs hw hP hS => ?_)
  rcases hw with hw | hw
  · -- isEnteredC, case 0
    obtain ⟨rfl, f2, f3, f4⟩ := hw
    have i5 : 0 ≤ (xi (E 1) 1).toInt ∧ (xi (E 1) 1).toInt ≤ 16 := hI0.iv 1 (mF 1 rfl) rfl (Nat.le_of_ble_eq_true rfl) rfl
    have i6 : 0 ≤ (xi (E 1) 0).toInt ∧ (xi (E 1) 0).toInt ≤ 400 := hI0.iv 1 (mF 1 rfl) rfl (Nat.le_of_ble_eq_true rfl) rfl
    refine lv_if_eq (tgt := 29) hx hb dX12_protest_9 (by decide) (fun c7 => ?_) (fun c7 => ?_)
    · --9 taken
      exact absurd c7 (by decide)
    · --9 not
      refine lv_aload_n hx hb dX12_protest_12 rfl (lv_at hl 0 rfl) ?_
      refine th_getL (ci := 13) (C := RX12) (T := TX12) (N := 6) (v := .ref (ad 1)) hx hb hts hinX12 hown hK hP hI 0 (mF 0 rfl) rfl rfl 0 (Nat.le_of_ble_eq_true rfl) (hts _ (vA_in _ _ (in_10 _ (zs16 (zs1 (zs0)))))) (fun _ h9 => h9) (hI.fr 0 (mF 0 rfl) rfl (Nat.le_of_ble_eq_true rfl) 1 rfl) dX12_protest_13 ?_
      refine lv_iload_n hx hb dX12_protest_16 rfl (lv_at hl 1 rfl) ?_
      refine lv_iload_n hx hb dX12_protest_17 rfl (lv_at hl 3 rfl) ?_
      refine th_riL (va_runV (As := [.int a0, .int a2]) (rest := []) ⟨hx, hb, hml, hown, hts⟩ (q_isEnteredC l dC dI cT cf hC ad E H.size a0 a2 hI) (cwV 2 hts (gi_V (in_18 _ (zs1 (zs0))) (in_18 _ (zs1 (zs1 (zs0)))) (in_18 _ (zs1 (zs1 (zs1 (zs0))))) (in_5 _ (zs4 (zs1 (zs1 (zs0))))) (in_6 _ (zs4 (zs4 (zs1 (zs1 (zs0))))))) rfl rfl rfl ⟨rfl, hz_yX0_isEntered_2⟩ ⟨Nat.le_of_ble_eq_true rfl, Nat.le_of_ble_eq_true rfl⟩) ⟨HWL_bl, va_recv hK hP (ci := 1) (q0 := posL 1 (LC cf)) rfl (hI.ob 1 (mF 1 rfl) rfl), (HWL_wi hP hK (WL_D hD) hS hA hEV)⟩ rfl rfl hl.1 rfl (lv_room (Nat.le_of_ble_eq_true rfl)) dX12_protest_18 ⟨Nat.le_of_ble_eq_true rfl, Nat.le_of_ble_eq_true rfl⟩) hS hP (fun r8 H locs hw hP hS => ?_)
      rcases hw with hw | hw
      · -- isEnteredC, case 0
        obtain ⟨rfl, f9, f10, f11⟩ := hw
        refine lv_if_eq (tgt := 29) hx hb dX12_protest_21 (by decide) (fun c12 => ?_) (fun c12 => ?_)
        · --21 taken
          exact absurd c12 (by decide)
        · --21 not
          refine lv_iload_n hx hb dX12_protest_24 rfl (lv_at hl 2 rfl) ?_
          refine lv_iload_n hx hb dX12_protest_25 rfl (lv_at hl 3 rfl) ?_
          refine lv_icmp_ne (tgt := 31) hx hb dX12_protest_26 (by decide) (fun c13 => ?_) (fun c13 => ?_)
          · --26 taken
            have t14 : ¬ a1.toInt = a2.toInt := ti_ne c13
            refine lv_iload hx hb dX12_protest_31 (lv_at hl 4 rfl) ?_
            refine lv_iconst (v := 0) hx hb dX12_protest_33 (by decide) ?_
            refine lv_ldc hx hb hown (hts _ (vA_in _ _ (in_20 _ (zs16 (zs16 (zs1 (zs1 (zs1 (zs0))))))))) dX12_protest_34 ?_
            refine th_pi (va_runS (As := [.int a3, .int 0, .int 100000]) (rest := []) ⟨hx, hb, hml, hown, hts⟩ (q_cwithin l a3 (0 : Int32) (100000 : Int32)) (va_cwS 3 hts (gi_S (in_10 _ (zs16 (zs4 (zs4 (zs4 (zs1 (zs1 (zs1 (zs0))))))))) (in_4 _ (zs16 (zs4 (zs1 (zs1 (zs0)))))) (in_4 _ (zs16 (zs4 (zs1 (zs1 (zs1 (zs0))))))) (in_4 _ (zs16 (zs4 (zs4 (zs0)))))) rfl rfl rfl hz_yX12_within_3 ⟨Nat.le_of_ble_eq_true rfl, Nat.le_of_ble_eq_true rfl⟩) ⟨fun _ _ _ _ q => q, fun _ _ _ => ⟨rfl, trivial⟩⟩ rfl rfl hl.1 rfl (lv_room (Nat.le_of_ble_eq_true rfl)) dX12_protest_36 ⟨Nat.le_of_ble_eq_true rfl, Nat.le_of_ble_eq_true rfl⟩) hS (fun r15 H1 locs1 hw hk1 hS => ?_)
            have hP := ub_keep hP hk1
            generalize H1 = H at hP hS ⊢
            generalize locs1 = locs at hS ⊢
            rcases hw with hw | hw
            · -- cwithin, case 0
              obtain ⟨rfl, f16⟩ := hw
              have t17 : (0 : Int) ≤ a3.toInt := f16.1
              have t18 : a3.toInt ≤ 100000 := f16.2
              have i19 : 0 ≤ a3.toInt ∧ a3.toInt ≤ 2147483647 := iv_le_r t17 (il_ 0) (iv_all _) (by decide)
              have i20 : 0 ≤ a3.toInt ∧ a3.toInt ≤ 100000 := iv_le_l t18 i19 (il_ 100000) (by decide)
              refine lv_if_eq (tgt := 57) hx hb dX12_protest_39 (by decide) (fun c21 => ?_) (fun c21 => ?_)
              · --39 taken
                exact absurd c21 (by decide)
              · --39 not
                refine lv_aload_n hx hb dX12_protest_42 rfl (lv_at hl 0 rfl) ?_
                refine th_getL (ci := 13) (C := RX12) (T := TX12) (N := 6) (v := .ref (ad 1)) hx hb hts hinX12 hown hK hP hI 0 (mF 0 rfl) rfl rfl 0 (Nat.le_of_ble_eq_true rfl) (hts _ (vA_in _ _ (in_10 _ (zs16 (zs1 (zs0)))))) (fun _ h9 => h9) (hI.fr 0 (mF 0 rfl) rfl (Nat.le_of_ble_eq_true rfl) 1 rfl) dX12_protest_43 ?_
                refine th_getL (ci := 1) (C := RX0) (T := TX0) (N := 11) (v := .ref (ad 12)) hx hb hts hinX0 hown hK hP hI 1 (mF 1 rfl) rfl rfl 8 (Nat.le_of_ble_eq_true rfl) (hts _ (vA_in _ _ (in_14 _ (zs4 (zs4 (zs1 (zs1 (zs0)))))))) (fun _ h9 => h9) (hI.fr 1 (mF 1 rfl) rfl (Nat.le_of_ble_eq_true rfl) 12 rfl) dX12_protest_46 ?_
                refine th_riL (va_runV (As := []) (rest := []) ⟨hx, hb, hml, hown, hts⟩ (q_size5 l dC dI cT cf hC ad E H.size hI) (cwV 0 hts (gi_V (in_10 _ (zs16 (zs16 (zs0)))) (in_4 _ (zs16 (zs16 (zs1 (zs1 (zs1 (zs0))))))) (in_4 _ (zs16 (zs16 (zs4 (zs0))))) (in_3 _ (zs16 (zs1 (zs1 (zs0))))) (in_4 _ (zs16 (zs1 (zs1 (zs1 (zs0))))))) rfl rfl rfl ⟨rfl, hz_yJx4a65c_size_8abf5_0⟩ ⟨Nat.le_of_ble_eq_true rfl, Nat.le_of_ble_eq_true rfl⟩) ⟨HWL_bl, va_recv hK hP (ci := 0) (q0 := posL 12 (LC cf)) rfl (hI.ob 12 (mF 12 rfl) rfl), (HWL_wi hP hK (WL_D hD) hS hA hEV)⟩ rfl rfl hl.1 rfl (lv_room (Nat.le_of_ble_eq_true rfl)) dX12_protest_49 ⟨Nat.le_of_ble_eq_true rfl, Nat.le_of_ble_eq_true rfl⟩) hS hP (fun r22 H locs hw hP hS => ?_)
                obtain ⟨f23, f24⟩ := hw
                refine lv_bipush (v := 30) hx hb dX12_protest_52 (by decide) ?_
                refine lv_icmp_lt (tgt := 59) hx hb dX12_protest_54 (by decide) (fun c25 => ?_) (fun c25 => ?_)
                · --54 taken
                  have t26 : r22.toInt < 30 := ti_lt c25
                  have i27 : 0 ≤ r22.toInt ∧ r22.toInt ≤ 29 := iv_lt_l t26 f23 (il_ 30) (by decide)
                  refine lv_aload_n hx hb dX12_protest_59 rfl (lv_at hl 0 rfl) ?_
                  refine th_getL (ci := 13) (C := RX12) (T := TX12) (N := 6) (v := .ref (ad 1)) hx hb hts hinX12 hown hK hP hI 0 (mF 0 rfl) rfl rfl 0 (Nat.le_of_ble_eq_true rfl) (hts _ (vA_in _ _ (in_10 _ (zs16 (zs1 (zs0)))))) (fun _ h9 => h9) (hI.fr 0 (mF 0 rfl) rfl (Nat.le_of_ble_eq_true rfl) 1 rfl) dX12_protest_60 ?_
                  refine th_getL (ci := 1) (C := RX0) (T := TX0) (N := 11) (v := .ref (ad 12)) hx hb hts hinX0 hown hK hP hI 1 (mF 1 rfl) rfl rfl 8 (Nat.le_of_ble_eq_true rfl) (hts _ (vA_in _ _ (in_14 _ (zs4 (zs4 (zs1 (zs1 (zs0)))))))) (fun _ h9 => h9) (hI.fr 1 (mF 1 rfl) rfl (Nat.le_of_ble_eq_true rfl) 12 rfl) dX12_protest_63 ?_
                  refine va_new (ci := 5) (fs := [.int 0, .int 0, .int 0, .int 0, .int 0, .int 0, .int 0, .int 0, .int 0, .int 0]) (C := RX4) (T := TX4) (N := 10) hx hb hts hinX4 tyX4 tyX4_ok hown (hts _ (vA_in _ _ (in_20 _ (zs16 (zs16 (zs4 (zs0))))))) (hts _ (vA_in _ _ (in_20 _ (zs16 (zs16 (zs4 (zs1 (zs0)))))))) (hts _ (vA_in _ _ (in_5 _ (zs16 (zs0))))) hK hP (WL_D hD) hS hA rfl (fun j hj => by rcases (show j = 0 ∨ j = 1 ∨ j = 2 ∨ j = 3 ∨ j = 4 ∨ j = 5 ∨ j = 6 ∨ j = 7 ∨ j = 8 ∨ j = 9 by omega) with rfl | rfl | rfl | rfl | rfl | rfl | rfl | rfl | rfl | rfl <;> rfl) (Nat.le_of_ble_eq_true rfl) (Nat.le_of_ble_eq_true rfl) dX12_protest_66 (fun qn H hP2 hD2 hS => ?_)
                  have hP2 : va_P (dC, dI) vwCl ([(qn, .inr (5, [.int 0, .int 0, .int 0, .int 0, .int 0, .int 0, .int 0, .int 0, .int 0, .int 0]))] ++ WL (LC cf) ad E) H := va_P_perm hP2 List.perm_append_comm
                  have hD2 : va_D A ([(qn, .inr (5, [.int 0, .int 0, .int 0, .int 0, .int 0, .int 0, .int 0, .int 0, .int 0, .int 0]))] ++ WL (LC cf) ad E) := va_D_perm hD2 List.perm_append_comm
                  have hP : va_P (dC, dI) vwCl (WL (LC cf) ad E) H := va_P_sub hP2 (fun x hx => List.mem_append_right _ hx)
                  refine lv_dup hx hb dX12_protest_69 rfl ?_
                  refine lv_iload_n hx hb dX12_protest_70 rfl (lv_at hl 1 rfl) ?_
                  refine lv_iload_n hx hb dX12_protest_71 rfl (lv_at hl 2 rfl) ?_
                  refine lv_iload_n hx hb dX12_protest_72 rfl (lv_at hl 3 rfl) ?_
                  refine lv_iload hx hb dX12_protest_73 (lv_at hl 4 rfl) ?_
                  refine lv_aload_n hx hb dX12_protest_75 rfl (lv_at hl 0 rfl) ?_
                  refine th_getL (ci := 13) (C := RX12) (T := TX12) (N := 6) (v := .ref (ad 1)) hx hb hts hinX12 hown hK hP hI 0 (mF 0 rfl) rfl rfl 0 (Nat.le_of_ble_eq_true rfl) (hts _ (vA_in _ _ (in_10 _ (zs16 (zs1 (zs0)))))) (fun _ h9 => h9) (hI.fr 0 (mF 0 rfl) rfl (Nat.le_of_ble_eq_true rfl) 1 rfl) dX12_protest_76 ?_
                  refine th_getL (ci := 1) (C := RX0) (T := TX0) (N := 11) (v := .int (xi (E 1) 0)) hx hb hts hinX0 hown hK hP hI 1 (mF 1 rfl) rfl rfl 0 (Nat.le_of_ble_eq_true rfl) (hts _ (vA_in _ _ (in_10 _ (zs16 (zs4 (zs4 (zs1 (zs1 (zs0))))))))) (fun _ h9 => h9) (th_v0L hKp hI0 1 (mF 1 rfl) rfl (Nat.le_of_ble_eq_true rfl) rfl rfl) dX12_protest_79 ?_
                  have hPc := va_P_sub (ws' := [(qn, .inr (5, [.int 0, .int 0, .int 0, .int 0, .int 0, .int 0, .int 0, .int 0, .int 0, .int 0]))]) hP2 (fun x hx => List.mem_append_left _ hx)
                  have hDc := va_D_left hD2
                  have hFc : ∀ z, va_A [(qn, .inr (5, [.int 0, .int 0, .int 0, .int 0, .int 0, .int 0, .int 0, .int 0, .int 0, .int 0]))] H.size z → A z := new_free hD2 hS hA
                  refine va_callv (va_runI (As := [.int a0, .int a1, .int a2, .int a3, .int (xi (E 1) 0)]) (rest := [.ref qn, .ref (ad 12)]) ⟨hx, hb, hml, hown, hts⟩ (x_Protest l dC dI qn a0 a1 a2 a3 (xi (E 1) 0) H.size) (cwI 5 hts (gi_0 (in_21 _ zs0)) rfl rfl rfl (hts _ (vA_in _ _ (in_5 _ (zs16 (zs0))))) (hts _ (vA_in _ _ (in_20 _ (zs16 (zs16 (zs4 (zs1 (zs1 (zs0))))))))) (hts _ (vA_in _ _ (in_20 _ (zs16 (zs16 (zs4 (zs1 (zs1 (zs1 (zs0)))))))))) rfl hz_yX4_init_5 ⟨Nat.le_of_ble_eq_true rfl, Nat.le_of_ble_eq_true rfl⟩) ⟨fun a U g mk q => by obtain ⟨e0, e1, qP, qK, qD⟩ := q; exact ⟨e0, e1, qP, va_K.moved (u := U) (U := U.calling g mk a) (Vm.Alike.refl U.vm) qK, qD⟩, fun U hU hW => ⟨rfl, by rw [hU], by rw [hU]; exact hPc, va_K.moved hW.alike (hK.sub (tys' := []) [] rfl), hDc.weaken (fun _ _ _ _ => trivial)⟩⟩ rfl rfl hl.1 rfl (lv_room (Nat.le_of_ble_eq_true rfl)) dX12_protest_82 ⟨Nat.le_of_ble_eq_true rfl, Nat.le_of_ble_eq_true rfl⟩) hS (fun z _ h => hFc z h) hFc (fun u1 t H1 locs ht hvm hw hB hz1 hk1 hS => ?_)
                  obtain ⟨hP1, -, hD1⟩ := hB
                  rw [ht] at hP1
                  obtain ⟨hP2, hD2⟩ := va_joinQ (wr := []) hP2 hD2 [0] [] rfl rfl rfl (fun _ h => nomatch h) hk1 hFc hP1 hD1
                  have hP2 : va_P (dC, dI) vwCl ([(qn, .inr (5, [.int a0, .int a1, .int a2, .int a3, .int (xi (E 1) 0), .int (-1 : Int32), .int (0 : Int32), .int (-1 : Int32), .int (-1 : Int32), .int (0 : Int32)]))] ++ WL (LC cf) ad E) H1 := hP2
                  have hD2 : va_D A ([(qn, .inr (5, [.int a0, .int a1, .int a2, .int a3, .int (xi (E 1) 0), .int (-1 : Int32), .int (0 : Int32), .int (-1 : Int32), .int (-1 : Int32), .int (0 : Int32)]))] ++ WL (LC cf) ad E) := hD2
                  generalize H1 = H at hP2 hS ⊢
                  have hP : va_P (dC, dI) vwCl (WL (LC cf) ad E) H := va_P_sub hP2 (fun x hx => List.mem_append_right _ hx)
                  obtain ⟨ad1, had1⟩ : ∃ z, z = va_up ad (64 * (cf 5 + 1) + 14) qn := ⟨_, rfl⟩
                  obtain ⟨E1, hE1⟩ : ∃ z : Nat → va_E, z = va_up E (64 * (cf 5 + 1) + 14) (.inr (5, [.int a0, .int a1, .int a2, .int a3, .int (xi (E 1) 0), .int (-1 : Int32), .int (0 : Int32), .int (-1 : Int32), .int (-1 : Int32), .int (0 : Int32)])) := ⟨_, rfl⟩
                  have huq : ∀ t', t' < 15 → (kl t' = 5 ↔ t' = 14) := by decide
                  have hKM := km1 (n := cf 5) (J := 5) (t := 14) (by decide) huq
                  have hko : (64 * (cf 5 + 1) + 14) ∉ LC cf := K_out (J := 5) (by decide) hKM _ (List.mem_singleton.mpr rfl)
                  have haa : ∀ o, o ∈ LC cf → ad1 o = ad o := fun o h => by rw [had1]; exact va_up_ne _ _ (fun e => hko (e ▸ h))
                  have hee : ∀ o, o ∈ LC cf → E1 o = E o := fun o h => by rw [hE1]; exact va_up_ne _ _ (fun e => hko (e ▸ h))
                  have aq : ad1 (64 * (cf 5 + 1) + 14) = qn := by rw [had1]; exact va_up_self _ _ _
                  have eq : E1 (64 * (cf 5 + 1) + 14) = .inr (5, [.int a0, .int a1, .int a2, .int a3, .int (xi (E 1) 0), .int (-1 : Int32), .int (0 : Int32), .int (-1 : Int32), .int (-1 : Int32), .int (0 : Int32)]) := by rw [hE1]; exact va_up_self _ _ _
                  have hw9 : WL ([(64 * (cf 5 + 1) + 14)] ++ LC cf) ad1 E1 = [(qn, .inr (5, [.int a0, .int a1, .int a2, .int a3, .int (xi (E 1) 0), .int (-1 : Int32), .int (0 : Int32), .int (-1 : Int32), .int (-1 : Int32), .int (0 : Int32)]))] ++ WL (LC cf) ad E := by
                    show (ad1 (64 * (cf 5 + 1) + 14), E1 (64 * (cf 5 + 1) + 14)) :: WL (LC cf) ad1 E1 = _
                    rw [aq, eq, WL_congr (ad' := ad) (E' := E) fun o h => ⟨haa o h, hee o h⟩]
                    rfl
                  rw [← hw9] at hP2 hD2
                  have hI1 := IX_ad hI hC haa hee
                  have hlt : cf 5 < 30 := by omega
                  obtain ⟨hG, hCn⟩ := CF_up hC (J := 5) (by decide) (m := 30) rfl hlt (by decide)
                  have hnew : ∀ t', t' < 15 → kl t' = 5 → okS cT (shP (va_up cf 5 (cf 5 + 1)) t' (cf 5)) (E1 (64 * (cf 5 + 1) + t')) ∧ ∀ j, j < (shP (va_up cf 5 (cf 5 + 1)) t' (cf 5)).2.2 → okV ad1 (spP (va_up cf 5 (cf 5 + 1)) t' (cf 5) j) (xv (E1 (64 * (cf 5 + 1) + t')) j) := by
                    intro t' h1 h2
                    obtain rfl : t' = 14 := (huq t' h1).mp h2
                    rw [eq]
                    refine ⟨rfl, fun j hj => ?_⟩
                    have hj : j < 10 := hj
                    rcases (show j = 0 ∨ j = 1 ∨ j = 2 ∨ j = 3 ∨ j = 4 ∨ j = 5 ∨ j = 6 ∨ j = 7 ∨ j = 8 ∨ j = 9 by omega) with rfl | rfl | rfl | rfl | rfl | rfl | rfl | rfl | rfl | rfl
                    · exact okI (lo := 0) (hi := (((va_up cf 5 (cf 5 + 1)) 2 : Nat) : Int) - 1) rfl (by rw [show (va_up cf 5 (cf 5 + 1)) 2 = cf 2 from va_up_ne _ _ (by decide)]; omega)
                    · exact okI rfl f4
                    · exact okI rfl f11
                    · exact okI rfl i20
                    · exact okI rfl i6
                    · exact okI rfl (iv_w ln_m1 (by decide))
                    · exact okI rfl (iv_w ln_0 (by decide))
                    · exact okI rfl (iv_w ln_m1 (by decide))
                    · exact okI rfl (iv_w ln_m1 (by decide))
                    · exact okI rfl (iv_w ln_0 (by decide))
                  have hM := k_addW l dC dI cT cf hC ad1 E1 (va_up cf 5 (cf 5 + 1)) 5 (by decide) hG (by omega) [(64 * (cf 5 + 1) + 14)] (by simp) hKM 5 RX4 TX4 10 _ rfl (fun _ => rfl) (List.mem_of_getElem? (i := 5) rfl) eq H.size hI1 hnew
                  rw [show ad1 (7 + 5) = ad 12 from haa _ (mF _ rfl), show ad1 (64 * (cf 5 + 1) + lkd 5) = qn from aq] at hM
                  have hFA := all_free hD2 hS hA
                  refine va_calli (va_runV (As := [.ref qn]) (rest := []) ⟨hx, hb, hml, hown, hts⟩ hM (cwV 1 hts (gi_V (in_11 _ (zs1 (zs1 (zs1 (zs0))))) (in_11 _ (zs4 (zs0))) (in_11 _ (zs4 (zs1 (zs0)))) (in_3 _ (zs16 (zs1 (zs1 (zs0))))) (in_3 _ (zs16 (zs16 (zs0))))) rfl rfl rfl (by decide +kernel) ⟨Nat.le_of_ble_eq_true rfl, Nat.le_of_ble_eq_true rfl⟩) ⟨fun a U g mk q => by obtain ⟨e0, e1, qP, qK, qD, qE⟩ := q; exact ⟨e0, e1, qP, va_K.moved (u := U) (U := U.calling g mk a) (Vm.Alike.refl U.vm) qK, qD, EVC_c qE⟩, va_recv hK hP (ci := 0) (q0 := posL 12 (LC cf)) rfl (hI.ob 12 (mF 12 rfl) rfl), fun U hU hW => ⟨rfl, by rw [hU], by rw [hU]; exact hP2, va_K.moved hW.alike hK, hD2.weaken (fun _ _ _ _ => trivial), EVC_w hU hW hS hFA hEV⟩⟩ rfl rfl hl.1 rfl (lv_room (Nat.le_of_ble_eq_true rfl)) dX12_protest_85 ⟨Nat.le_of_ble_eq_true rfl, Nat.le_of_ble_eq_true rfl⟩) hS (fun z _ h => hFA z h) hFA (fun r9 u9 t H1 locs ht hvm hw hB hz1 hk1 hS => ?_)
                  obtain ⟨rfl, hI9, a9, e9⟩ := hw
                  obtain ⟨hP9, hD9⟩ := hB
                  rw [ht] at hP9
                  have hD9 := hD9.weaken (B := A) (fun _ _ _ h => hFA _ h)
                  generalize H1 = H at hP9 hS ⊢
                  obtain ⟨ad9, E9⟩ := u9
                  dsimp only at hI9 a9 e9 hP9 hD9
                  have had9 : ∀ o, o ≠ 13 + 5 → (∀ t, t < 15 → kl t = 5 → o ≠ 64 * (cf 5 + 1) + t) → ad9 o = ad o := fun o h1 h2 => (a9 o h1).trans (by rw [had1]; exact va_up_ne _ _ (h2 14 (by decide) rfl))
                  have hkg : KpG 5 cf w_u_protest E E9 := fun o j h1 h2 h3 h4 => by have h5 := hKp o j h4; rw [← h5]; rw [e9 o h1 h2, hE1, va_up_ne _ _ (h3 14 (by decide) rfl)]
                  have hob : E9 (64 * (cf 5 + 1) + lkd 5) = .inr (5, [.int a0, .int a1, .int a2, .int a3, .int (xi (E 1) 0), .int (-1 : Int32), .int (0 : Int32), .int (-1 : Int32), .int (-1 : Int32), .int (0 : Int32)]) := (e9 _ (by show 64 * (cf 5 + 1) + 14 ≠ _; omega) (by show 64 * (cf 5 + 1) + 14 ≠ _; omega)).trans eq
                  refine lv_pop hx hb dX12_protest_88 rfl ?_
                  refine lv_aload_n hx hb dX12_protest_89 rfl (lv_at hl 0 rfl) ?_
                  rw [show ad 0 = ad9 0 from (had9 0 (by decide) (fun t h1 h2 => by omega)).symm]
                  refine th_getL (ci := 13) (C := RX12) (T := TX12) (N := 6) (v := .ref (ad9 1)) hx hb hts hinX12 hown hK hP9 hI9 0 (mF 0 rfl) rfl rfl 0 (Nat.le_of_ble_eq_true rfl) (hts _ (vA_in _ _ (in_10 _ (zs16 (zs1 (zs0)))))) (fun _ h9 => h9) (hI9.fr 0 (mF 0 rfl) rfl (Nat.le_of_ble_eq_true rfl) 1 rfl) dX12_protest_90 ?_
                  refine th_getL (ci := 1) (C := RX0) (T := TX0) (N := 11) (v := .ref (ad9 12)) hx hb hts hinX0 hown hK hP9 hI9 1 (mF 1 rfl) rfl rfl 8 (Nat.le_of_ble_eq_true rfl) (hts _ (vA_in _ _ (in_14 _ (zs4 (zs4 (zs1 (zs1 (zs0)))))))) (fun _ h9 => h9) (hI9.fr 1 (mF 1 rfl) rfl (Nat.le_of_ble_eq_true rfl) 12 rfl) dX12_protest_93 ?_
                  refine th_riL (va_runV (As := []) (rest := []) ⟨hx, hb, hml, hown, hts⟩ (q_size5 l dC dI cT (va_up cf 5 (cf 5 + 1)) hCn ad9 E9 H.size hI9) (cwV 0 hts (gi_V (in_10 _ (zs16 (zs16 (zs0)))) (in_4 _ (zs16 (zs16 (zs1 (zs1 (zs1 (zs0))))))) (in_4 _ (zs16 (zs16 (zs4 (zs0))))) (in_3 _ (zs16 (zs1 (zs1 (zs0))))) (in_4 _ (zs16 (zs1 (zs1 (zs1 (zs0))))))) rfl rfl rfl ⟨rfl, hz_yJx4a65c_size_8abf5_0⟩ ⟨Nat.le_of_ble_eq_true rfl, Nat.le_of_ble_eq_true rfl⟩) ⟨HWL_bl, va_recv hK hP9 (ci := 0) (q0 := posL 12 (LC (va_up cf 5 (cf 5 + 1)))) rfl (hI9.ob 12 (mF 12 rfl) rfl), HWL_wi hP9 hK hD9 hS hA (by rw [show (va_up cf 5 (cf 5 + 1)) 6 = cf 6 from va_up_ne _ _ (by decide)]; exact hEV)⟩ rfl rfl hl.1 rfl (lv_room (Nat.le_of_ble_eq_true rfl)) dX12_protest_96 ⟨Nat.le_of_ble_eq_true rfl, Nat.le_of_ble_eq_true rfl⟩) hS hP9 (fun r8 H locs hw8 hP9 hS => ?_)
                  obtain ⟨i8, t8⟩ := hw8
                  rw [show (va_up cf 5 (cf 5 + 1)) 5 = cf 5 + 1 from va_up_self _ _ _] at t8
                  refine lv_iconst (v := 1) hx hb dX12_protest_99 (by decide) ?_
                  refine lv_isub hx hb dX12_protest_100 ?_
                  refine lv_topi (fun y8 e8 => ?_)
                  obtain ⟨ty8, iy8⟩ := ti_sub (e := -1) (f := 300) i8 ln_1 e8 (by decide)
                  have l1 : (1 : Int32).toInt = 1 := rfl
                  rw [hQ]
                  refine W.widen (k := 2) (n := 650) (by first | exact Nat.le_of_ble_eq_true rfl | omega) (by first | exact Nat.le_of_ble_eq_true rfl | omega) ?_
                  exact W.iret (v := y8) hx hb hr (fun t ht hW => ⟨⟨y8, ((va_up cf 5 (cf 5 + 1)), ad9, E9), rfl, ⟨hCn, hI9, Or.inr ⟨hG, had9, hkg, (by omega), (by  omega), hob⟩⟩, by rw [ht]; exact hP9, hD9⟩, hS.F ht⟩) hS.2.2 dX12_protest_101
                · --54 not
                  have t28 : (30 : Int) ≤ r22.toInt := ti_nlt c25
                  have i29 : 30 ≤ r22.toInt ∧ r22.toInt ≤ 30 := iv_le_r t28 (il_ 30) f23 (by decide)
                  refine lv_iconst (v := -1) hx hb dX12_protest_57 (by decide) ?_
                  have zm1 := ln_m1
                  rw [hQ]
                  refine W.widen (k := 2) (n := 650) (by first | exact Nat.le_of_ble_eq_true rfl | omega) (by first | exact Nat.le_of_ble_eq_true rfl | omega) ?_
                  exact W.iret (v := (-1)) hx hb hr (fun t ht hW => ⟨⟨(-1), (cf, ad, E), rfl, ⟨hC, hI, Or.inl ⟨rfl, rfl, hKp, rfl, by omega⟩⟩, by rw [ht]; exact hP, (WL_D hD)⟩, hS.F ht⟩) hS.2.2 dX12_protest_58
            · -- cwithin, case 1
              obtain ⟨rfl, f30⟩ := hw
              have t31 : ¬ ((0 : Int) ≤ a3.toInt ∧ a3.toInt ≤ 100000) := f30
              refine lv_if_eq (tgt := 57) hx hb dX12_protest_39 (by decide) (fun c32 => ?_) (fun c32 => ?_)
              · --39 taken
                refine lv_iconst (v := -1) hx hb dX12_protest_57 (by decide) ?_
                have zm1 := ln_m1
                rw [hQ]
                refine W.widen (k := 2) (n := 650) (by first | exact Nat.le_of_ble_eq_true rfl | omega) (by first | exact Nat.le_of_ble_eq_true rfl | omega) ?_
                exact W.iret (v := (-1)) hx hb hr (fun t ht hW => ⟨⟨(-1), (cf, ad, E), rfl, ⟨hC, hI, Or.inl ⟨rfl, rfl, hKp, rfl, by omega⟩⟩, by rw [ht]; exact hP, (WL_D hD)⟩, hS.F ht⟩) hS.2.2 dX12_protest_58
              · --39 not
                exact absurd c32 (by decide)
          · --26 not
            have t33 : a1.toInt = a2.toInt := ti_eq c13
            refine lv_iconst (v := -1) hx hb dX12_protest_29 (by decide) ?_
            have zm1 := ln_m1
            rw [hQ]
            refine W.widen (k := 2) (n := 650) (by first | exact Nat.le_of_ble_eq_true rfl | omega) (by first | exact Nat.le_of_ble_eq_true rfl | omega) ?_
            exact W.iret (v := (-1)) hx hb hr (fun t ht hW => ⟨⟨(-1), (cf, ad, E), rfl, ⟨hC, hI, Or.inl ⟨rfl, rfl, hKp, rfl, by omega⟩⟩, by rw [ht]; exact hP, (WL_D hD)⟩, hS.F ht⟩) hS.2.2 dX12_protest_30
      · -- isEnteredC, case 1
        obtain ⟨rfl, f34⟩ := hw
        refine lv_if_eq (tgt := 29) hx hb dX12_protest_21 (by decide) (fun c35 => ?_) (fun c35 => ?_)
        · --21 taken
          refine lv_iconst (v := -1) hx hb dX12_protest_29 (by decide) ?_
          have zm1 := ln_m1
          rw [hQ]
          refine W.widen (k := 2) (n := 650) (by first | exact Nat.le_of_ble_eq_true rfl | omega) (by first | exact Nat.le_of_ble_eq_true rfl | omega) ?_
          exact W.iret (v := (-1)) hx hb hr (fun t ht hW => ⟨⟨(-1), (cf, ad, E), rfl, ⟨hC, hI, Or.inl ⟨rfl, rfl, hKp, rfl, by omega⟩⟩, by rw [ht]; exact hP, (WL_D hD)⟩, hS.F ht⟩) hS.2.2 dX12_protest_30
        · --21 not
          exact absurd c35 (by decide)
  · -- isEnteredC, case 1
    obtain ⟨rfl, f36⟩ := hw
    have i37 : 0 ≤ (xi (E 1) 1).toInt ∧ (xi (E 1) 1).toInt ≤ 16 := hI0.iv 1 (mF 1 rfl) rfl (Nat.le_of_ble_eq_true rfl) rfl
    have i38 : 0 ≤ (xi (E 1) 0).toInt ∧ (xi (E 1) 0).toInt ≤ 400 := hI0.iv 1 (mF 1 rfl) rfl (Nat.le_of_ble_eq_true rfl) rfl
    refine lv_if_eq (tgt := 29) hx hb dX12_protest_9 (by decide) (fun c39 => ?_) (fun c39 => ?_)
    · --9 taken
      refine lv_iconst (v := -1) hx hb dX12_protest_29 (by decide) ?_
      have zm1 := ln_m1
      rw [hQ]
      refine W.widen (k := 2) (n := 650) (by first | exact Nat.le_of_ble_eq_true rfl | omega) (by first | exact Nat.le_of_ble_eq_true rfl | omega) ?_
      exact W.iret (v := (-1)) hx hb hr (fun t ht hW => ⟨⟨(-1), (cf, ad, E), rfl, ⟨hC, hI, Or.inl ⟨rfl, rfl, hKp, rfl, by omega⟩⟩, by rw [ht]; exact hP, (WL_D hD)⟩, hS.F ht⟩) hS.2.2 dX12_protest_30
    · --9 not
      exact absurd c39 (by decide)
