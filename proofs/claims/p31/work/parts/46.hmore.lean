set_option maxRecDepth 100000 in
theorem zh_dX12_swift_0_0 : zc cX12_swift 0 [42, 180, 0, 10, 27, 182, 0, 135, 153, 0, 13, 28, 4, 16, 9, 184] = true := by decide +kernel
set_option maxRecDepth 100000 in
theorem zh_dX12_swift_15_16 : zc cX12_swift 16 [0, 59, 154, 0, 5, 3, 172, 42, 180, 0, 10, 180, 0, 127, 27, 182] = true := by decide +kernel
set_option maxRecDepth 100000 in
theorem zh_dX12_swift_31_32 : zc cX12_swift 32 [0, 138, 192, 0, 130, 180, 0, 142, 42, 180, 0, 10, 180, 0, 55, 28] = true := by decide +kernel
set_option maxRecDepth 100000 in
theorem zh_dX12_swift_48_48 : zc cX12_swift 48 [79, 4, 172] = true := by decide +kernel
set_option maxRecDepth 100000 in
theorem zh_dX13_certificate_0_0 : zc cX13_certificate 0 [42, 3, 181, 0, 228, 42, 180, 0, 242, 16, 80, 159, 0, 54, 42, 27] = true := by decide +kernel
set_option maxRecDepth 100000 in
theorem zh_dX13_certificate_16_16 : zc cX13_certificate 16 [182, 0, 245, 153, 0, 46, 28, 184, 0, 249, 153, 0, 39, 29, 16, 10] = true := by decide +kernel
set_option maxRecDepth 100000 in
theorem zh_dX13_certificate_32_32 : zc cX13_certificate 32 [17, 1, 144, 184, 0, 235, 153, 0, 27, 21, 4, 4, 17, 15, 160, 184] = true := by decide +kernel
set_option maxRecDepth 100000 in
theorem zh_dX13_certificate_47_48 : zc cX13_certificate 48 [0, 235, 153, 0, 15, 21, 5, 4, 17, 3, 132, 184, 0, 235, 154, 0] = true := by decide +kernel
set_option maxRecDepth 100000 in
theorem zh_dX13_certificate_62_64 : zc cX13_certificate 64 [5, 2, 172, 42, 180, 0, 9, 42, 180, 0, 242, 27, 79, 42, 180, 0] = true := by decide +kernel
set_option maxRecDepth 100000 in
theorem zh_dX13_certificate_78_80 : zc cX13_certificate 80 [13, 42, 180, 0, 242, 28, 79, 42, 180, 0, 16, 42, 180, 0, 242, 29] = true := by decide +kernel
set_option maxRecDepth 100000 in
theorem zh_dX13_certificate_96_96 : zc cX13_certificate 96 [79, 42, 180, 0, 19, 42, 180, 0, 242, 21, 4, 79, 42, 180, 0, 22] = true := by decide +kernel
set_option maxRecDepth 100000 in
theorem zh_dX13_certificate_112_112 : zc cX13_certificate 112 [42, 180, 0, 242, 21, 5, 79, 42, 180, 0, 25, 42, 180, 0, 242, 42] = true := by decide +kernel
set_option maxRecDepth 100000 in
theorem zh_dX13_certificate_128_128 : zc cX13_certificate 128 [180, 0, 232, 79, 42, 89, 180, 0, 242, 4, 96, 181, 0, 242, 42, 180] = true := by decide +kernel
set_option maxRecDepth 100000 in
theorem zh_dX13_certificate_143_144 : zc cX13_certificate 144 [0, 242, 4, 100, 172] = true := by decide +kernel
set_option maxRecDepth 100000 in
theorem zh_dX13_result_0_0 : zc cX13_result 0 [42, 3, 181, 0, 228, 42, 180, 1, 143, 17, 1, 44, 159, 0, 49, 42] = true := by decide +kernel
set_option maxRecDepth 100000 in
theorem zh_dX13_result_16_16 : zc cX13_result 16 [27, 28, 182, 1, 146, 153, 0, 40, 29, 3, 7, 184, 0, 235, 153, 0] = true := by decide +kernel
set_option maxRecDepth 100000 in
theorem zh_dX13_result_30_32 : zc cX13_result 32 [31, 21, 4, 29, 154, 0, 7, 4, 167, 0, 4, 3, 29, 154, 0, 9] = true := by decide +kernel
set_option maxRecDepth 100000 in
theorem zh_dX13_result_48_48 : zc cX13_result 48 [19, 1, 150, 167, 0, 4, 3, 184, 0, 235, 154, 0, 5, 3, 172, 42] = true := by decide +kernel
set_option maxRecDepth 100000 in
theorem zh_dX13_result_64_64 : zc cX13_result 64 [180, 0, 83, 42, 180, 1, 143, 27, 79, 42, 180, 0, 86, 42, 180, 1] = true := by decide +kernel
set_option maxRecDepth 100000 in
theorem zh_dX13_result_78_80 : zc cX13_result 80 [143, 28, 79, 42, 180, 0, 89, 42, 180, 1, 143, 29, 79, 42, 180, 0] = true := by decide +kernel
set_option maxRecDepth 100000 in
theorem zh_dX13_result_94_96 : zc cX13_result 96 [92, 42, 180, 1, 143, 21, 4, 79, 42, 180, 0, 95, 42, 180, 1, 143] = true := by decide +kernel
set_option maxRecDepth 100000 in
theorem zh_dX13_result_112_112 : zc cX13_result 112 [42, 180, 0, 232, 79, 42, 89, 180, 1, 143, 4, 96, 181, 1, 143, 4] = true := by decide +kernel
set_option maxRecDepth 100000 in
theorem zh_dX13_result_128_128 : zc cX13_result 128 [172] = true := by decide +kernel
set_option maxRecDepth 100000 in
theorem zh_dX13_hasRedress_0_0 : zc cX13_hasRedress 0 [3, 54, 4, 21, 4, 42, 180, 1, 179, 162, 0, 44, 42, 180, 0, 98] = true := by decide +kernel
set_option maxRecDepth 100000 in
theorem zh_dX13_hasRedress_16_16 : zc cX13_hasRedress 16 [21, 4, 46, 27, 160, 0, 27, 42, 180, 0, 101, 21, 4, 46, 28, 160] = true := by decide +kernel
set_option maxRecDepth 100000 in
theorem zh_dX13_hasRedress_31_32 : zc cX13_hasRedress 32 [0, 16, 42, 180, 0, 104, 21, 4, 46, 29, 163, 0, 5, 4, 172, 132] = true := by decide +kernel
set_option maxRecDepth 100000 in
theorem zh_dX13_hasRedress_47_48 : zc cX13_hasRedress 48 [4, 1, 167, 255, 209, 3, 172] = true := by decide +kernel
set_option maxRecDepth 100000 in
theorem zh_dX13_word_0_0 : zc cX13_word 0 [42, 3, 181, 0, 228, 42, 180, 1, 204, 17, 0, 200, 159, 0, 73, 42] = true := by decide +kernel
set_option maxRecDepth 100000 in
theorem zh_dX13_word_16_16 : zc cX13_word 16 [27, 28, 182, 1, 146, 153, 0, 64, 29, 3, 19, 1, 207, 184, 0, 235] = true := by decide +kernel
set_option maxRecDepth 100000 in
theorem zh_dX13_word_32_32 : zc cX13_word 32 [153, 0, 53, 21, 6, 3, 6, 184, 0, 235, 153, 0, 43, 21, 4, 3] = true := by decide +kernel
set_option maxRecDepth 100000 in
theorem zh_dX13_word_48_48 : zc cX13_word 48 [16, 99, 21, 6, 100, 184, 0, 235, 153, 0, 29, 21, 5, 3, 16, 99] = true := by decide +kernel
set_option maxRecDepth 100000 in
theorem zh_dX13_word_64_64 : zc cX13_word 64 [21, 6, 100, 184, 0, 235, 153, 0, 15, 21, 7, 4, 17, 0, 255, 184] = true := by decide +kernel
set_option maxRecDepth 100000 in
theorem zh_dX13_word_79_80 : zc cX13_word 80 [0, 235, 154, 0, 5, 2, 172, 42, 180, 0, 126, 42, 180, 1, 204, 27] = true := by decide +kernel
set_option maxRecDepth 100000 in
theorem zh_dX13_word_96_96 : zc cX13_word 96 [79, 42, 180, 0, 129, 42, 180, 1, 204, 28, 79, 42, 180, 0, 132, 42] = true := by decide +kernel
set_option maxRecDepth 100000 in
theorem zh_dX13_word_112_112 : zc cX13_word 112 [180, 1, 204, 29, 79, 42, 180, 0, 135, 42, 180, 1, 204, 21, 4, 79] = true := by decide +kernel
set_option maxRecDepth 100000 in
theorem zh_dX13_word_128_128 : zc cX13_word 128 [42, 180, 0, 138, 42, 180, 1, 204, 21, 5, 79, 42, 180, 0, 141, 42] = true := by decide +kernel
set_option maxRecDepth 100000 in
theorem zh_dX13_word_144_144 : zc cX13_word 144 [180, 1, 204, 21, 6, 79, 42, 180, 0, 144, 42, 180, 1, 204, 21, 7] = true := by decide +kernel
set_option maxRecDepth 100000 in
theorem zh_dX13_word_160_160 : zc cX13_word 160 [79, 42, 180, 0, 147, 42, 180, 1, 204, 42, 180, 0, 232, 79, 42, 89] = true := by decide +kernel
set_option maxRecDepth 100000 in
theorem zh_dX13_word_176_176 : zc cX13_word 176 [180, 1, 204, 4, 96, 181, 1, 204, 42, 180, 1, 204, 4, 100, 172] = true := by decide +kernel
set_option maxRecDepth 100000 in
theorem zh_dX13_protest_0_0 : zc cX13_protest 0 [42, 3, 181, 0, 228, 42, 180, 1, 208, 16, 30, 159, 0, 38, 42, 27] = true := by decide +kernel
set_option maxRecDepth 100000 in
theorem zh_dX13_protest_16_16 : zc cX13_protest 16 [28, 182, 1, 146, 153, 0, 29, 42, 27, 29, 182, 1, 146, 153, 0, 20] = true := by decide +kernel
set_option maxRecDepth 100000 in
theorem zh_dX13_protest_32_32 : zc cX13_protest 32 [28, 29, 159, 0, 15, 21, 4, 3, 19, 1, 207, 184, 0, 235, 154, 0] = true := by decide +kernel
set_option maxRecDepth 100000 in
theorem zh_dX13_protest_46_48 : zc cX13_protest 48 [5, 2, 172, 42, 180, 0, 150, 42, 180, 1, 208, 27, 79, 42, 180, 0] = true := by decide +kernel
set_option maxRecDepth 100000 in
theorem zh_dX13_protest_62_64 : zc cX13_protest 64 [153, 42, 180, 1, 208, 28, 79, 42, 180, 0, 156, 42, 180, 1, 208, 29] = true := by decide +kernel
set_option maxRecDepth 100000 in
theorem zh_dX13_protest_80_80 : zc cX13_protest 80 [79, 42, 180, 0, 159, 42, 180, 1, 208, 21, 4, 79, 42, 180, 0, 162] = true := by decide +kernel
set_option maxRecDepth 100000 in
theorem zh_dX13_protest_96_96 : zc cX13_protest 96 [42, 180, 1, 208, 42, 180, 0, 232, 79, 42, 89, 180, 1, 208, 4, 96] = true := by decide +kernel
set_option maxRecDepth 100000 in
theorem zh_dX13_protest_112_112 : zc cX13_protest 112 [181, 1, 208, 42, 180, 1, 208, 4, 100, 172] = true := by decide +kernel
theorem dX12_swift_0 : decode cX12_swift 0 = .ok (.aload_n 0, 1) := zo_42 (zi_at zh_dX12_swift_0_0 0 rfl)
theorem dX12_swift_1 : decode cX12_swift 1 = .ok (.getfield 10, 3) := zo_180 (zi_at zh_dX12_swift_0_0 1 rfl) (zi_at zh_dX12_swift_0_0 2 rfl) (zi_at zh_dX12_swift_0_0 3 rfl) rfl
theorem dX12_swift_4 : decode cX12_swift 4 = .ok (.iload_n 1, 1) := zo_27 (zi_at zh_dX12_swift_0_0 4 rfl)
theorem dX12_swift_5 : decode cX12_swift 5 = .ok (.invokevirtual 135, 3) := zo_182 (zi_at zh_dX12_swift_0_0 5 rfl) (zi_at zh_dX12_swift_0_0 6 rfl) (zi_at zh_dX12_swift_0_0 7 rfl) rfl
theorem dX12_swift_8 : decode cX12_swift 8 = .ok (.ifCond .eq 13, 3) := zo_153 (zi_at zh_dX12_swift_0_0 8 rfl) (zi_at zh_dX12_swift_0_0 9 rfl) (zi_at zh_dX12_swift_0_0 10 rfl) rfl
theorem dX12_swift_11 : decode cX12_swift 11 = .ok (.iload_n 2, 1) := zo_28 (zi_at zh_dX12_swift_0_0 11 rfl)
theorem dX12_swift_12 : decode cX12_swift 12 = .ok (.iconst 1, 1) := zo_4 (zi_at zh_dX12_swift_0_0 12 rfl)
theorem dX12_swift_13 : decode cX12_swift 13 = .ok (.bipush 9, 2) := zo_16 (zi_at zh_dX12_swift_0_0 13 rfl) (zi_at zh_dX12_swift_0_0 14 rfl) rfl
theorem dX12_swift_15 : decode cX12_swift 15 = .ok (.invokestatic 59, 3) := zo_184 (zi_at zh_dX12_swift_0_0 15 rfl) (zi_at zh_dX12_swift_15_16 0 rfl) (zi_at zh_dX12_swift_15_16 1 rfl) rfl
theorem dX12_swift_18 : decode cX12_swift 18 = .ok (.ifCond .ne 5, 3) := zo_154 (zi_at zh_dX12_swift_15_16 2 rfl) (zi_at zh_dX12_swift_15_16 3 rfl) (zi_at zh_dX12_swift_15_16 4 rfl) rfl
theorem dX12_swift_21 : decode cX12_swift 21 = .ok (.iconst 0, 1) := zo_3 (zi_at zh_dX12_swift_15_16 5 rfl)
theorem dX12_swift_22 : decode cX12_swift 22 = .ok (.ireturn, 1) := zo_172 (zi_at zh_dX12_swift_15_16 6 rfl)
theorem dX12_swift_23 : decode cX12_swift 23 = .ok (.aload_n 0, 1) := zo_42 (zi_at zh_dX12_swift_15_16 7 rfl)
theorem dX12_swift_24 : decode cX12_swift 24 = .ok (.getfield 10, 3) := zo_180 (zi_at zh_dX12_swift_15_16 8 rfl) (zi_at zh_dX12_swift_15_16 9 rfl) (zi_at zh_dX12_swift_15_16 10 rfl) rfl
theorem dX12_swift_27 : decode cX12_swift 27 = .ok (.getfield 127, 3) := zo_180 (zi_at zh_dX12_swift_15_16 11 rfl) (zi_at zh_dX12_swift_15_16 12 rfl) (zi_at zh_dX12_swift_15_16 13 rfl) rfl
theorem dX12_swift_30 : decode cX12_swift 30 = .ok (.iload_n 1, 1) := zo_27 (zi_at zh_dX12_swift_15_16 14 rfl)
theorem dX12_swift_31 : decode cX12_swift 31 = .ok (.invokevirtual 138, 3) := zo_182 (zi_at zh_dX12_swift_15_16 15 rfl) (zi_at zh_dX12_swift_31_32 0 rfl) (zi_at zh_dX12_swift_31_32 1 rfl) rfl
theorem dX12_swift_34 : decode cX12_swift 34 = .ok (.checkcast 130, 3) := zo_192 (zi_at zh_dX12_swift_31_32 2 rfl) (zi_at zh_dX12_swift_31_32 3 rfl) (zi_at zh_dX12_swift_31_32 4 rfl) rfl
theorem dX12_swift_37 : decode cX12_swift 37 = .ok (.getfield 142, 3) := zo_180 (zi_at zh_dX12_swift_31_32 5 rfl) (zi_at zh_dX12_swift_31_32 6 rfl) (zi_at zh_dX12_swift_31_32 7 rfl) rfl
theorem dX12_swift_40 : decode cX12_swift 40 = .ok (.aload_n 0, 1) := zo_42 (zi_at zh_dX12_swift_31_32 8 rfl)
theorem dX12_swift_41 : decode cX12_swift 41 = .ok (.getfield 10, 3) := zo_180 (zi_at zh_dX12_swift_31_32 9 rfl) (zi_at zh_dX12_swift_31_32 10 rfl) (zi_at zh_dX12_swift_31_32 11 rfl) rfl
theorem dX12_swift_44 : decode cX12_swift 44 = .ok (.getfield 55, 3) := zo_180 (zi_at zh_dX12_swift_31_32 12 rfl) (zi_at zh_dX12_swift_31_32 13 rfl) (zi_at zh_dX12_swift_31_32 14 rfl) rfl
theorem dX12_swift_47 : decode cX12_swift 47 = .ok (.iload_n 2, 1) := zo_28 (zi_at zh_dX12_swift_31_32 15 rfl)
theorem dX12_swift_48 : decode cX12_swift 48 = .ok (.iastore, 1) := zo_79 (zi_at zh_dX12_swift_48_48 0 rfl)
theorem dX12_swift_49 : decode cX12_swift 49 = .ok (.iconst 1, 1) := zo_4 (zi_at zh_dX12_swift_48_48 1 rfl)
theorem dX12_swift_50 : decode cX12_swift 50 = .ok (.ireturn, 1) := zo_172 (zi_at zh_dX12_swift_48_48 2 rfl)
theorem dX13_certificate_0 : decode cX13_certificate 0 = .ok (.aload_n 0, 1) := zo_42 (zi_at zh_dX13_certificate_0_0 0 rfl)
theorem dX13_certificate_1 : decode cX13_certificate 1 = .ok (.iconst 0, 1) := zo_3 (zi_at zh_dX13_certificate_0_0 1 rfl)
theorem dX13_certificate_2 : decode cX13_certificate 2 = .ok (.putfield 228, 3) := zo_181 (zi_at zh_dX13_certificate_0_0 2 rfl) (zi_at zh_dX13_certificate_0_0 3 rfl) (zi_at zh_dX13_certificate_0_0 4 rfl) rfl
theorem dX13_certificate_5 : decode cX13_certificate 5 = .ok (.aload_n 0, 1) := zo_42 (zi_at zh_dX13_certificate_0_0 5 rfl)
theorem dX13_certificate_6 : decode cX13_certificate 6 = .ok (.getfield 242, 3) := zo_180 (zi_at zh_dX13_certificate_0_0 6 rfl) (zi_at zh_dX13_certificate_0_0 7 rfl) (zi_at zh_dX13_certificate_0_0 8 rfl) rfl
theorem dX13_certificate_9 : decode cX13_certificate 9 = .ok (.bipush 80, 2) := zo_16 (zi_at zh_dX13_certificate_0_0 9 rfl) (zi_at zh_dX13_certificate_0_0 10 rfl) rfl
theorem dX13_certificate_11 : decode cX13_certificate 11 = .ok (.if_icmp .eq 54, 3) := zo_159 (zi_at zh_dX13_certificate_0_0 11 rfl) (zi_at zh_dX13_certificate_0_0 12 rfl) (zi_at zh_dX13_certificate_0_0 13 rfl) rfl
theorem dX13_certificate_14 : decode cX13_certificate 14 = .ok (.aload_n 0, 1) := zo_42 (zi_at zh_dX13_certificate_0_0 14 rfl)
theorem dX13_certificate_15 : decode cX13_certificate 15 = .ok (.iload_n 1, 1) := zo_27 (zi_at zh_dX13_certificate_0_0 15 rfl)
theorem dX13_certificate_16 : decode cX13_certificate 16 = .ok (.invokevirtual 245, 3) := zo_182 (zi_at zh_dX13_certificate_16_16 0 rfl) (zi_at zh_dX13_certificate_16_16 1 rfl) (zi_at zh_dX13_certificate_16_16 2 rfl) rfl
theorem dX13_certificate_19 : decode cX13_certificate 19 = .ok (.ifCond .eq 46, 3) := zo_153 (zi_at zh_dX13_certificate_16_16 3 rfl) (zi_at zh_dX13_certificate_16_16 4 rfl) (zi_at zh_dX13_certificate_16_16 5 rfl) rfl
theorem dX13_certificate_22 : decode cX13_certificate 22 = .ok (.iload_n 2, 1) := zo_28 (zi_at zh_dX13_certificate_16_16 6 rfl)
theorem dX13_certificate_23 : decode cX13_certificate 23 = .ok (.invokestatic 249, 3) := zo_184 (zi_at zh_dX13_certificate_16_16 7 rfl) (zi_at zh_dX13_certificate_16_16 8 rfl) (zi_at zh_dX13_certificate_16_16 9 rfl) rfl
theorem dX13_certificate_26 : decode cX13_certificate 26 = .ok (.ifCond .eq 39, 3) := zo_153 (zi_at zh_dX13_certificate_16_16 10 rfl) (zi_at zh_dX13_certificate_16_16 11 rfl) (zi_at zh_dX13_certificate_16_16 12 rfl) rfl
theorem dX13_certificate_29 : decode cX13_certificate 29 = .ok (.iload_n 3, 1) := zo_29 (zi_at zh_dX13_certificate_16_16 13 rfl)
theorem dX13_certificate_30 : decode cX13_certificate 30 = .ok (.bipush 10, 2) := zo_16 (zi_at zh_dX13_certificate_16_16 14 rfl) (zi_at zh_dX13_certificate_16_16 15 rfl) rfl
theorem dX13_certificate_32 : decode cX13_certificate 32 = .ok (.sipush 400, 3) := zo_17 (zi_at zh_dX13_certificate_32_32 0 rfl) (zi_at zh_dX13_certificate_32_32 1 rfl) (zi_at zh_dX13_certificate_32_32 2 rfl) rfl
theorem dX13_certificate_35 : decode cX13_certificate 35 = .ok (.invokestatic 235, 3) := zo_184 (zi_at zh_dX13_certificate_32_32 3 rfl) (zi_at zh_dX13_certificate_32_32 4 rfl) (zi_at zh_dX13_certificate_32_32 5 rfl) rfl
theorem dX13_certificate_38 : decode cX13_certificate 38 = .ok (.ifCond .eq 27, 3) := zo_153 (zi_at zh_dX13_certificate_32_32 6 rfl) (zi_at zh_dX13_certificate_32_32 7 rfl) (zi_at zh_dX13_certificate_32_32 8 rfl) rfl
theorem dX13_certificate_41 : decode cX13_certificate 41 = .ok (.iload 4, 2) := zo_21 (zi_at zh_dX13_certificate_32_32 9 rfl) (zi_at zh_dX13_certificate_32_32 10 rfl)
theorem dX13_certificate_43 : decode cX13_certificate 43 = .ok (.iconst 1, 1) := zo_4 (zi_at zh_dX13_certificate_32_32 11 rfl)
theorem dX13_certificate_44 : decode cX13_certificate 44 = .ok (.sipush 4000, 3) := zo_17 (zi_at zh_dX13_certificate_32_32 12 rfl) (zi_at zh_dX13_certificate_32_32 13 rfl) (zi_at zh_dX13_certificate_32_32 14 rfl) rfl
theorem dX13_certificate_47 : decode cX13_certificate 47 = .ok (.invokestatic 235, 3) := zo_184 (zi_at zh_dX13_certificate_32_32 15 rfl) (zi_at zh_dX13_certificate_47_48 0 rfl) (zi_at zh_dX13_certificate_47_48 1 rfl) rfl
theorem dX13_certificate_50 : decode cX13_certificate 50 = .ok (.ifCond .eq 15, 3) := zo_153 (zi_at zh_dX13_certificate_47_48 2 rfl) (zi_at zh_dX13_certificate_47_48 3 rfl) (zi_at zh_dX13_certificate_47_48 4 rfl) rfl
theorem dX13_certificate_53 : decode cX13_certificate 53 = .ok (.iload 5, 2) := zo_21 (zi_at zh_dX13_certificate_47_48 5 rfl) (zi_at zh_dX13_certificate_47_48 6 rfl)
theorem dX13_certificate_55 : decode cX13_certificate 55 = .ok (.iconst 1, 1) := zo_4 (zi_at zh_dX13_certificate_47_48 7 rfl)
theorem dX13_certificate_56 : decode cX13_certificate 56 = .ok (.sipush 900, 3) := zo_17 (zi_at zh_dX13_certificate_47_48 8 rfl) (zi_at zh_dX13_certificate_47_48 9 rfl) (zi_at zh_dX13_certificate_47_48 10 rfl) rfl
theorem dX13_certificate_59 : decode cX13_certificate 59 = .ok (.invokestatic 235, 3) := zo_184 (zi_at zh_dX13_certificate_47_48 11 rfl) (zi_at zh_dX13_certificate_47_48 12 rfl) (zi_at zh_dX13_certificate_47_48 13 rfl) rfl
theorem dX13_certificate_62 : decode cX13_certificate 62 = .ok (.ifCond .ne 5, 3) := zo_154 (zi_at zh_dX13_certificate_47_48 14 rfl) (zi_at zh_dX13_certificate_47_48 15 rfl) (zi_at zh_dX13_certificate_62_64 0 rfl) rfl
theorem dX13_certificate_65 : decode cX13_certificate 65 = .ok (.iconst (-1), 1) := zo_2 (zi_at zh_dX13_certificate_62_64 1 rfl)
theorem dX13_certificate_66 : decode cX13_certificate 66 = .ok (.ireturn, 1) := zo_172 (zi_at zh_dX13_certificate_62_64 2 rfl)
theorem dX13_certificate_67 : decode cX13_certificate 67 = .ok (.aload_n 0, 1) := zo_42 (zi_at zh_dX13_certificate_62_64 3 rfl)
theorem dX13_certificate_68 : decode cX13_certificate 68 = .ok (.getfield 9, 3) := zo_180 (zi_at zh_dX13_certificate_62_64 4 rfl) (zi_at zh_dX13_certificate_62_64 5 rfl) (zi_at zh_dX13_certificate_62_64 6 rfl) rfl
theorem dX13_certificate_71 : decode cX13_certificate 71 = .ok (.aload_n 0, 1) := zo_42 (zi_at zh_dX13_certificate_62_64 7 rfl)
theorem dX13_certificate_72 : decode cX13_certificate 72 = .ok (.getfield 242, 3) := zo_180 (zi_at zh_dX13_certificate_62_64 8 rfl) (zi_at zh_dX13_certificate_62_64 9 rfl) (zi_at zh_dX13_certificate_62_64 10 rfl) rfl
theorem dX13_certificate_75 : decode cX13_certificate 75 = .ok (.iload_n 1, 1) := zo_27 (zi_at zh_dX13_certificate_62_64 11 rfl)
theorem dX13_certificate_76 : decode cX13_certificate 76 = .ok (.iastore, 1) := zo_79 (zi_at zh_dX13_certificate_62_64 12 rfl)
theorem dX13_certificate_77 : decode cX13_certificate 77 = .ok (.aload_n 0, 1) := zo_42 (zi_at zh_dX13_certificate_62_64 13 rfl)
theorem dX13_certificate_78 : decode cX13_certificate 78 = .ok (.getfield 13, 3) := zo_180 (zi_at zh_dX13_certificate_62_64 14 rfl) (zi_at zh_dX13_certificate_62_64 15 rfl) (zi_at zh_dX13_certificate_78_80 0 rfl) rfl
theorem dX13_certificate_81 : decode cX13_certificate 81 = .ok (.aload_n 0, 1) := zo_42 (zi_at zh_dX13_certificate_78_80 1 rfl)
theorem dX13_certificate_82 : decode cX13_certificate 82 = .ok (.getfield 242, 3) := zo_180 (zi_at zh_dX13_certificate_78_80 2 rfl) (zi_at zh_dX13_certificate_78_80 3 rfl) (zi_at zh_dX13_certificate_78_80 4 rfl) rfl
theorem dX13_certificate_85 : decode cX13_certificate 85 = .ok (.iload_n 2, 1) := zo_28 (zi_at zh_dX13_certificate_78_80 5 rfl)
theorem dX13_certificate_86 : decode cX13_certificate 86 = .ok (.iastore, 1) := zo_79 (zi_at zh_dX13_certificate_78_80 6 rfl)
theorem dX13_certificate_87 : decode cX13_certificate 87 = .ok (.aload_n 0, 1) := zo_42 (zi_at zh_dX13_certificate_78_80 7 rfl)
theorem dX13_certificate_88 : decode cX13_certificate 88 = .ok (.getfield 16, 3) := zo_180 (zi_at zh_dX13_certificate_78_80 8 rfl) (zi_at zh_dX13_certificate_78_80 9 rfl) (zi_at zh_dX13_certificate_78_80 10 rfl) rfl
theorem dX13_certificate_91 : decode cX13_certificate 91 = .ok (.aload_n 0, 1) := zo_42 (zi_at zh_dX13_certificate_78_80 11 rfl)
theorem dX13_certificate_92 : decode cX13_certificate 92 = .ok (.getfield 242, 3) := zo_180 (zi_at zh_dX13_certificate_78_80 12 rfl) (zi_at zh_dX13_certificate_78_80 13 rfl) (zi_at zh_dX13_certificate_78_80 14 rfl) rfl
theorem dX13_certificate_95 : decode cX13_certificate 95 = .ok (.iload_n 3, 1) := zo_29 (zi_at zh_dX13_certificate_78_80 15 rfl)
theorem dX13_certificate_96 : decode cX13_certificate 96 = .ok (.iastore, 1) := zo_79 (zi_at zh_dX13_certificate_96_96 0 rfl)
theorem dX13_certificate_97 : decode cX13_certificate 97 = .ok (.aload_n 0, 1) := zo_42 (zi_at zh_dX13_certificate_96_96 1 rfl)
theorem dX13_certificate_98 : decode cX13_certificate 98 = .ok (.getfield 19, 3) := zo_180 (zi_at zh_dX13_certificate_96_96 2 rfl) (zi_at zh_dX13_certificate_96_96 3 rfl) (zi_at zh_dX13_certificate_96_96 4 rfl) rfl
theorem dX13_certificate_101 : decode cX13_certificate 101 = .ok (.aload_n 0, 1) := zo_42 (zi_at zh_dX13_certificate_96_96 5 rfl)
theorem dX13_certificate_102 : decode cX13_certificate 102 = .ok (.getfield 242, 3) := zo_180 (zi_at zh_dX13_certificate_96_96 6 rfl) (zi_at zh_dX13_certificate_96_96 7 rfl) (zi_at zh_dX13_certificate_96_96 8 rfl) rfl
theorem dX13_certificate_105 : decode cX13_certificate 105 = .ok (.iload 4, 2) := zo_21 (zi_at zh_dX13_certificate_96_96 9 rfl) (zi_at zh_dX13_certificate_96_96 10 rfl)
theorem dX13_certificate_107 : decode cX13_certificate 107 = .ok (.iastore, 1) := zo_79 (zi_at zh_dX13_certificate_96_96 11 rfl)
theorem dX13_certificate_108 : decode cX13_certificate 108 = .ok (.aload_n 0, 1) := zo_42 (zi_at zh_dX13_certificate_96_96 12 rfl)
theorem dX13_certificate_109 : decode cX13_certificate 109 = .ok (.getfield 22, 3) := zo_180 (zi_at zh_dX13_certificate_96_96 13 rfl) (zi_at zh_dX13_certificate_96_96 14 rfl) (zi_at zh_dX13_certificate_96_96 15 rfl) rfl
theorem dX13_certificate_112 : decode cX13_certificate 112 = .ok (.aload_n 0, 1) := zo_42 (zi_at zh_dX13_certificate_112_112 0 rfl)
theorem dX13_certificate_113 : decode cX13_certificate 113 = .ok (.getfield 242, 3) := zo_180 (zi_at zh_dX13_certificate_112_112 1 rfl) (zi_at zh_dX13_certificate_112_112 2 rfl) (zi_at zh_dX13_certificate_112_112 3 rfl) rfl
theorem dX13_certificate_116 : decode cX13_certificate 116 = .ok (.iload 5, 2) := zo_21 (zi_at zh_dX13_certificate_112_112 4 rfl) (zi_at zh_dX13_certificate_112_112 5 rfl)
theorem dX13_certificate_118 : decode cX13_certificate 118 = .ok (.iastore, 1) := zo_79 (zi_at zh_dX13_certificate_112_112 6 rfl)
theorem dX13_certificate_119 : decode cX13_certificate 119 = .ok (.aload_n 0, 1) := zo_42 (zi_at zh_dX13_certificate_112_112 7 rfl)
theorem dX13_certificate_120 : decode cX13_certificate 120 = .ok (.getfield 25, 3) := zo_180 (zi_at zh_dX13_certificate_112_112 8 rfl) (zi_at zh_dX13_certificate_112_112 9 rfl) (zi_at zh_dX13_certificate_112_112 10 rfl) rfl
theorem dX13_certificate_123 : decode cX13_certificate 123 = .ok (.aload_n 0, 1) := zo_42 (zi_at zh_dX13_certificate_112_112 11 rfl)
theorem dX13_certificate_124 : decode cX13_certificate 124 = .ok (.getfield 242, 3) := zo_180 (zi_at zh_dX13_certificate_112_112 12 rfl) (zi_at zh_dX13_certificate_112_112 13 rfl) (zi_at zh_dX13_certificate_112_112 14 rfl) rfl
theorem dX13_certificate_127 : decode cX13_certificate 127 = .ok (.aload_n 0, 1) := zo_42 (zi_at zh_dX13_certificate_112_112 15 rfl)
theorem dX13_certificate_128 : decode cX13_certificate 128 = .ok (.getfield 232, 3) := zo_180 (zi_at zh_dX13_certificate_128_128 0 rfl) (zi_at zh_dX13_certificate_128_128 1 rfl) (zi_at zh_dX13_certificate_128_128 2 rfl) rfl
theorem dX13_certificate_131 : decode cX13_certificate 131 = .ok (.iastore, 1) := zo_79 (zi_at zh_dX13_certificate_128_128 3 rfl)
theorem dX13_certificate_132 : decode cX13_certificate 132 = .ok (.aload_n 0, 1) := zo_42 (zi_at zh_dX13_certificate_128_128 4 rfl)
theorem dX13_certificate_133 : decode cX13_certificate 133 = .ok (.dup, 1) := zo_89 (zi_at zh_dX13_certificate_128_128 5 rfl)
theorem dX13_certificate_134 : decode cX13_certificate 134 = .ok (.getfield 242, 3) := zo_180 (zi_at zh_dX13_certificate_128_128 6 rfl) (zi_at zh_dX13_certificate_128_128 7 rfl) (zi_at zh_dX13_certificate_128_128 8 rfl) rfl
theorem dX13_certificate_137 : decode cX13_certificate 137 = .ok (.iconst 1, 1) := zo_4 (zi_at zh_dX13_certificate_128_128 9 rfl)
theorem dX13_certificate_138 : decode cX13_certificate 138 = .ok (.iadd, 1) := zo_96 (zi_at zh_dX13_certificate_128_128 10 rfl)
theorem dX13_certificate_139 : decode cX13_certificate 139 = .ok (.putfield 242, 3) := zo_181 (zi_at zh_dX13_certificate_128_128 11 rfl) (zi_at zh_dX13_certificate_128_128 12 rfl) (zi_at zh_dX13_certificate_128_128 13 rfl) rfl
theorem dX13_certificate_142 : decode cX13_certificate 142 = .ok (.aload_n 0, 1) := zo_42 (zi_at zh_dX13_certificate_128_128 14 rfl)
theorem dX13_certificate_143 : decode cX13_certificate 143 = .ok (.getfield 242, 3) := zo_180 (zi_at zh_dX13_certificate_128_128 15 rfl) (zi_at zh_dX13_certificate_143_144 0 rfl) (zi_at zh_dX13_certificate_143_144 1 rfl) rfl
theorem dX13_certificate_146 : decode cX13_certificate 146 = .ok (.iconst 1, 1) := zo_4 (zi_at zh_dX13_certificate_143_144 2 rfl)
theorem dX13_certificate_147 : decode cX13_certificate 147 = .ok (.isub, 1) := zo_100 (zi_at zh_dX13_certificate_143_144 3 rfl)
theorem dX13_certificate_148 : decode cX13_certificate 148 = .ok (.ireturn, 1) := zo_172 (zi_at zh_dX13_certificate_143_144 4 rfl)
theorem dX13_result_0 : decode cX13_result 0 = .ok (.aload_n 0, 1) := zo_42 (zi_at zh_dX13_result_0_0 0 rfl)
theorem dX13_result_1 : decode cX13_result 1 = .ok (.iconst 0, 1) := zo_3 (zi_at zh_dX13_result_0_0 1 rfl)
theorem dX13_result_2 : decode cX13_result 2 = .ok (.putfield 228, 3) := zo_181 (zi_at zh_dX13_result_0_0 2 rfl) (zi_at zh_dX13_result_0_0 3 rfl) (zi_at zh_dX13_result_0_0 4 rfl) rfl
theorem dX13_result_5 : decode cX13_result 5 = .ok (.aload_n 0, 1) := zo_42 (zi_at zh_dX13_result_0_0 5 rfl)
theorem dX13_result_6 : decode cX13_result 6 = .ok (.getfield 399, 3) := zo_180 (zi_at zh_dX13_result_0_0 6 rfl) (zi_at zh_dX13_result_0_0 7 rfl) (zi_at zh_dX13_result_0_0 8 rfl) rfl
theorem dX13_result_9 : decode cX13_result 9 = .ok (.sipush 300, 3) := zo_17 (zi_at zh_dX13_result_0_0 9 rfl) (zi_at zh_dX13_result_0_0 10 rfl) (zi_at zh_dX13_result_0_0 11 rfl) rfl
theorem dX13_result_12 : decode cX13_result 12 = .ok (.if_icmp .eq 49, 3) := zo_159 (zi_at zh_dX13_result_0_0 12 rfl) (zi_at zh_dX13_result_0_0 13 rfl) (zi_at zh_dX13_result_0_0 14 rfl) rfl
theorem dX13_result_15 : decode cX13_result 15 = .ok (.aload_n 0, 1) := zo_42 (zi_at zh_dX13_result_0_0 15 rfl)
theorem dX13_result_16 : decode cX13_result 16 = .ok (.iload_n 1, 1) := zo_27 (zi_at zh_dX13_result_16_16 0 rfl)
theorem dX13_result_17 : decode cX13_result 17 = .ok (.iload_n 2, 1) := zo_28 (zi_at zh_dX13_result_16_16 1 rfl)
theorem dX13_result_18 : decode cX13_result 18 = .ok (.invokevirtual 402, 3) := zo_182 (zi_at zh_dX13_result_16_16 2 rfl) (zi_at zh_dX13_result_16_16 3 rfl) (zi_at zh_dX13_result_16_16 4 rfl) rfl
theorem dX13_result_21 : decode cX13_result 21 = .ok (.ifCond .eq 40, 3) := zo_153 (zi_at zh_dX13_result_16_16 5 rfl) (zi_at zh_dX13_result_16_16 6 rfl) (zi_at zh_dX13_result_16_16 7 rfl) rfl
theorem dX13_result_24 : decode cX13_result 24 = .ok (.iload_n 3, 1) := zo_29 (zi_at zh_dX13_result_16_16 8 rfl)
theorem dX13_result_25 : decode cX13_result 25 = .ok (.iconst 0, 1) := zo_3 (zi_at zh_dX13_result_16_16 9 rfl)
theorem dX13_result_26 : decode cX13_result 26 = .ok (.iconst 4, 1) := zo_7 (zi_at zh_dX13_result_16_16 10 rfl)
theorem dX13_result_27 : decode cX13_result 27 = .ok (.invokestatic 235, 3) := zo_184 (zi_at zh_dX13_result_16_16 11 rfl) (zi_at zh_dX13_result_16_16 12 rfl) (zi_at zh_dX13_result_16_16 13 rfl) rfl
theorem dX13_result_30 : decode cX13_result 30 = .ok (.ifCond .eq 31, 3) := zo_153 (zi_at zh_dX13_result_16_16 14 rfl) (zi_at zh_dX13_result_16_16 15 rfl) (zi_at zh_dX13_result_30_32 0 rfl) rfl
theorem dX13_result_33 : decode cX13_result 33 = .ok (.iload 4, 2) := zo_21 (zi_at zh_dX13_result_30_32 1 rfl) (zi_at zh_dX13_result_30_32 2 rfl)
theorem dX13_result_35 : decode cX13_result 35 = .ok (.iload_n 3, 1) := zo_29 (zi_at zh_dX13_result_30_32 3 rfl)
theorem dX13_result_36 : decode cX13_result 36 = .ok (.ifCond .ne 7, 3) := zo_154 (zi_at zh_dX13_result_30_32 4 rfl) (zi_at zh_dX13_result_30_32 5 rfl) (zi_at zh_dX13_result_30_32 6 rfl) rfl
theorem dX13_result_39 : decode cX13_result 39 = .ok (.iconst 1, 1) := zo_4 (zi_at zh_dX13_result_30_32 7 rfl)
theorem dX13_result_40 : decode cX13_result 40 = .ok (.goto 4, 3) := zo_167 (zi_at zh_dX13_result_30_32 8 rfl) (zi_at zh_dX13_result_30_32 9 rfl) (zi_at zh_dX13_result_30_32 10 rfl) rfl
theorem dX13_result_43 : decode cX13_result 43 = .ok (.iconst 0, 1) := zo_3 (zi_at zh_dX13_result_30_32 11 rfl)
theorem dX13_result_44 : decode cX13_result 44 = .ok (.iload_n 3, 1) := zo_29 (zi_at zh_dX13_result_30_32 12 rfl)
theorem dX13_result_45 : decode cX13_result 45 = .ok (.ifCond .ne 9, 3) := zo_154 (zi_at zh_dX13_result_30_32 13 rfl) (zi_at zh_dX13_result_30_32 14 rfl) (zi_at zh_dX13_result_30_32 15 rfl) rfl
theorem dX13_result_48 : decode cX13_result 48 = .ok (.ldc_w 406, 3) := zo_19 (zi_at zh_dX13_result_48_48 0 rfl) (zi_at zh_dX13_result_48_48 1 rfl) (zi_at zh_dX13_result_48_48 2 rfl) rfl
theorem dX13_result_51 : decode cX13_result 51 = .ok (.goto 4, 3) := zo_167 (zi_at zh_dX13_result_48_48 3 rfl) (zi_at zh_dX13_result_48_48 4 rfl) (zi_at zh_dX13_result_48_48 5 rfl) rfl
theorem dX13_result_54 : decode cX13_result 54 = .ok (.iconst 0, 1) := zo_3 (zi_at zh_dX13_result_48_48 6 rfl)
theorem dX13_result_55 : decode cX13_result 55 = .ok (.invokestatic 235, 3) := zo_184 (zi_at zh_dX13_result_48_48 7 rfl) (zi_at zh_dX13_result_48_48 8 rfl) (zi_at zh_dX13_result_48_48 9 rfl) rfl
theorem dX13_result_58 : decode cX13_result 58 = .ok (.ifCond .ne 5, 3) := zo_154 (zi_at zh_dX13_result_48_48 10 rfl) (zi_at zh_dX13_result_48_48 11 rfl) (zi_at zh_dX13_result_48_48 12 rfl) rfl
theorem dX13_result_61 : decode cX13_result 61 = .ok (.iconst 0, 1) := zo_3 (zi_at zh_dX13_result_48_48 13 rfl)
theorem dX13_result_62 : decode cX13_result 62 = .ok (.ireturn, 1) := zo_172 (zi_at zh_dX13_result_48_48 14 rfl)
theorem dX13_result_63 : decode cX13_result 63 = .ok (.aload_n 0, 1) := zo_42 (zi_at zh_dX13_result_48_48 15 rfl)
theorem dX13_result_64 : decode cX13_result 64 = .ok (.getfield 83, 3) := zo_180 (zi_at zh_dX13_result_64_64 0 rfl) (zi_at zh_dX13_result_64_64 1 rfl) (zi_at zh_dX13_result_64_64 2 rfl) rfl
theorem dX13_result_67 : decode cX13_result 67 = .ok (.aload_n 0, 1) := zo_42 (zi_at zh_dX13_result_64_64 3 rfl)
theorem dX13_result_68 : decode cX13_result 68 = .ok (.getfield 399, 3) := zo_180 (zi_at zh_dX13_result_64_64 4 rfl) (zi_at zh_dX13_result_64_64 5 rfl) (zi_at zh_dX13_result_64_64 6 rfl) rfl
theorem dX13_result_71 : decode cX13_result 71 = .ok (.iload_n 1, 1) := zo_27 (zi_at zh_dX13_result_64_64 7 rfl)
theorem dX13_result_72 : decode cX13_result 72 = .ok (.iastore, 1) := zo_79 (zi_at zh_dX13_result_64_64 8 rfl)
theorem dX13_result_73 : decode cX13_result 73 = .ok (.aload_n 0, 1) := zo_42 (zi_at zh_dX13_result_64_64 9 rfl)
theorem dX13_result_74 : decode cX13_result 74 = .ok (.getfield 86, 3) := zo_180 (zi_at zh_dX13_result_64_64 10 rfl) (zi_at zh_dX13_result_64_64 11 rfl) (zi_at zh_dX13_result_64_64 12 rfl) rfl
theorem dX13_result_77 : decode cX13_result 77 = .ok (.aload_n 0, 1) := zo_42 (zi_at zh_dX13_result_64_64 13 rfl)
theorem dX13_result_78 : decode cX13_result 78 = .ok (.getfield 399, 3) := zo_180 (zi_at zh_dX13_result_64_64 14 rfl) (zi_at zh_dX13_result_64_64 15 rfl) (zi_at zh_dX13_result_78_80 0 rfl) rfl
theorem dX13_result_81 : decode cX13_result 81 = .ok (.iload_n 2, 1) := zo_28 (zi_at zh_dX13_result_78_80 1 rfl)
theorem dX13_result_82 : decode cX13_result 82 = .ok (.iastore, 1) := zo_79 (zi_at zh_dX13_result_78_80 2 rfl)
theorem dX13_result_83 : decode cX13_result 83 = .ok (.aload_n 0, 1) := zo_42 (zi_at zh_dX13_result_78_80 3 rfl)
theorem dX13_result_84 : decode cX13_result 84 = .ok (.getfield 89, 3) := zo_180 (zi_at zh_dX13_result_78_80 4 rfl) (zi_at zh_dX13_result_78_80 5 rfl) (zi_at zh_dX13_result_78_80 6 rfl) rfl
theorem dX13_result_87 : decode cX13_result 87 = .ok (.aload_n 0, 1) := zo_42 (zi_at zh_dX13_result_78_80 7 rfl)
theorem dX13_result_88 : decode cX13_result 88 = .ok (.getfield 399, 3) := zo_180 (zi_at zh_dX13_result_78_80 8 rfl) (zi_at zh_dX13_result_78_80 9 rfl) (zi_at zh_dX13_result_78_80 10 rfl) rfl
theorem dX13_result_91 : decode cX13_result 91 = .ok (.iload_n 3, 1) := zo_29 (zi_at zh_dX13_result_78_80 11 rfl)
theorem dX13_result_92 : decode cX13_result 92 = .ok (.iastore, 1) := zo_79 (zi_at zh_dX13_result_78_80 12 rfl)
theorem dX13_result_93 : decode cX13_result 93 = .ok (.aload_n 0, 1) := zo_42 (zi_at zh_dX13_result_78_80 13 rfl)
theorem dX13_result_94 : decode cX13_result 94 = .ok (.getfield 92, 3) := zo_180 (zi_at zh_dX13_result_78_80 14 rfl) (zi_at zh_dX13_result_78_80 15 rfl) (zi_at zh_dX13_result_94_96 0 rfl) rfl
theorem dX13_result_97 : decode cX13_result 97 = .ok (.aload_n 0, 1) := zo_42 (zi_at zh_dX13_result_94_96 1 rfl)
theorem dX13_result_98 : decode cX13_result 98 = .ok (.getfield 399, 3) := zo_180 (zi_at zh_dX13_result_94_96 2 rfl) (zi_at zh_dX13_result_94_96 3 rfl) (zi_at zh_dX13_result_94_96 4 rfl) rfl
theorem dX13_result_101 : decode cX13_result 101 = .ok (.iload 4, 2) := zo_21 (zi_at zh_dX13_result_94_96 5 rfl) (zi_at zh_dX13_result_94_96 6 rfl)
theorem dX13_result_103 : decode cX13_result 103 = .ok (.iastore, 1) := zo_79 (zi_at zh_dX13_result_94_96 7 rfl)
theorem dX13_result_104 : decode cX13_result 104 = .ok (.aload_n 0, 1) := zo_42 (zi_at zh_dX13_result_94_96 8 rfl)
theorem dX13_result_105 : decode cX13_result 105 = .ok (.getfield 95, 3) := zo_180 (zi_at zh_dX13_result_94_96 9 rfl) (zi_at zh_dX13_result_94_96 10 rfl) (zi_at zh_dX13_result_94_96 11 rfl) rfl
theorem dX13_result_108 : decode cX13_result 108 = .ok (.aload_n 0, 1) := zo_42 (zi_at zh_dX13_result_94_96 12 rfl)
theorem dX13_result_109 : decode cX13_result 109 = .ok (.getfield 399, 3) := zo_180 (zi_at zh_dX13_result_94_96 13 rfl) (zi_at zh_dX13_result_94_96 14 rfl) (zi_at zh_dX13_result_94_96 15 rfl) rfl
theorem dX13_result_112 : decode cX13_result 112 = .ok (.aload_n 0, 1) := zo_42 (zi_at zh_dX13_result_112_112 0 rfl)
theorem dX13_result_113 : decode cX13_result 113 = .ok (.getfield 232, 3) := zo_180 (zi_at zh_dX13_result_112_112 1 rfl) (zi_at zh_dX13_result_112_112 2 rfl) (zi_at zh_dX13_result_112_112 3 rfl) rfl
theorem dX13_result_116 : decode cX13_result 116 = .ok (.iastore, 1) := zo_79 (zi_at zh_dX13_result_112_112 4 rfl)
theorem dX13_result_117 : decode cX13_result 117 = .ok (.aload_n 0, 1) := zo_42 (zi_at zh_dX13_result_112_112 5 rfl)
theorem dX13_result_118 : decode cX13_result 118 = .ok (.dup, 1) := zo_89 (zi_at zh_dX13_result_112_112 6 rfl)
theorem dX13_result_119 : decode cX13_result 119 = .ok (.getfield 399, 3) := zo_180 (zi_at zh_dX13_result_112_112 7 rfl) (zi_at zh_dX13_result_112_112 8 rfl) (zi_at zh_dX13_result_112_112 9 rfl) rfl
theorem dX13_result_122 : decode cX13_result 122 = .ok (.iconst 1, 1) := zo_4 (zi_at zh_dX13_result_112_112 10 rfl)
theorem dX13_result_123 : decode cX13_result 123 = .ok (.iadd, 1) := zo_96 (zi_at zh_dX13_result_112_112 11 rfl)
theorem dX13_result_124 : decode cX13_result 124 = .ok (.putfield 399, 3) := zo_181 (zi_at zh_dX13_result_112_112 12 rfl) (zi_at zh_dX13_result_112_112 13 rfl) (zi_at zh_dX13_result_112_112 14 rfl) rfl
theorem dX13_result_127 : decode cX13_result 127 = .ok (.iconst 1, 1) := zo_4 (zi_at zh_dX13_result_112_112 15 rfl)
theorem dX13_result_128 : decode cX13_result 128 = .ok (.ireturn, 1) := zo_172 (zi_at zh_dX13_result_128_128 0 rfl)
theorem dX13_hasRedress_0 : decode cX13_hasRedress 0 = .ok (.iconst 0, 1) := zo_3 (zi_at zh_dX13_hasRedress_0_0 0 rfl)
theorem dX13_hasRedress_1 : decode cX13_hasRedress 1 = .ok (.istore 4, 2) := zo_54 (zi_at zh_dX13_hasRedress_0_0 1 rfl) (zi_at zh_dX13_hasRedress_0_0 2 rfl)
theorem dX13_hasRedress_3 : decode cX13_hasRedress 3 = .ok (.iload 4, 2) := zo_21 (zi_at zh_dX13_hasRedress_0_0 3 rfl) (zi_at zh_dX13_hasRedress_0_0 4 rfl)
theorem dX13_hasRedress_5 : decode cX13_hasRedress 5 = .ok (.aload_n 0, 1) := zo_42 (zi_at zh_dX13_hasRedress_0_0 5 rfl)
theorem dX13_hasRedress_6 : decode cX13_hasRedress 6 = .ok (.getfield 435, 3) := zo_180 (zi_at zh_dX13_hasRedress_0_0 6 rfl) (zi_at zh_dX13_hasRedress_0_0 7 rfl) (zi_at zh_dX13_hasRedress_0_0 8 rfl) rfl
theorem dX13_hasRedress_9 : decode cX13_hasRedress 9 = .ok (.if_icmp .ge 44, 3) := zo_162 (zi_at zh_dX13_hasRedress_0_0 9 rfl) (zi_at zh_dX13_hasRedress_0_0 10 rfl) (zi_at zh_dX13_hasRedress_0_0 11 rfl) rfl
theorem dX13_hasRedress_12 : decode cX13_hasRedress 12 = .ok (.aload_n 0, 1) := zo_42 (zi_at zh_dX13_hasRedress_0_0 12 rfl)
theorem dX13_hasRedress_13 : decode cX13_hasRedress 13 = .ok (.getfield 98, 3) := zo_180 (zi_at zh_dX13_hasRedress_0_0 13 rfl) (zi_at zh_dX13_hasRedress_0_0 14 rfl) (zi_at zh_dX13_hasRedress_0_0 15 rfl) rfl
theorem dX13_hasRedress_16 : decode cX13_hasRedress 16 = .ok (.iload 4, 2) := zo_21 (zi_at zh_dX13_hasRedress_16_16 0 rfl) (zi_at zh_dX13_hasRedress_16_16 1 rfl)
theorem dX13_hasRedress_18 : decode cX13_hasRedress 18 = .ok (.iaload, 1) := zo_46 (zi_at zh_dX13_hasRedress_16_16 2 rfl)
theorem dX13_hasRedress_19 : decode cX13_hasRedress 19 = .ok (.iload_n 1, 1) := zo_27 (zi_at zh_dX13_hasRedress_16_16 3 rfl)
theorem dX13_hasRedress_20 : decode cX13_hasRedress 20 = .ok (.if_icmp .ne 27, 3) := zo_160 (zi_at zh_dX13_hasRedress_16_16 4 rfl) (zi_at zh_dX13_hasRedress_16_16 5 rfl) (zi_at zh_dX13_hasRedress_16_16 6 rfl) rfl
theorem dX13_hasRedress_23 : decode cX13_hasRedress 23 = .ok (.aload_n 0, 1) := zo_42 (zi_at zh_dX13_hasRedress_16_16 7 rfl)
theorem dX13_hasRedress_24 : decode cX13_hasRedress 24 = .ok (.getfield 101, 3) := zo_180 (zi_at zh_dX13_hasRedress_16_16 8 rfl) (zi_at zh_dX13_hasRedress_16_16 9 rfl) (zi_at zh_dX13_hasRedress_16_16 10 rfl) rfl
theorem dX13_hasRedress_27 : decode cX13_hasRedress 27 = .ok (.iload 4, 2) := zo_21 (zi_at zh_dX13_hasRedress_16_16 11 rfl) (zi_at zh_dX13_hasRedress_16_16 12 rfl)
theorem dX13_hasRedress_29 : decode cX13_hasRedress 29 = .ok (.iaload, 1) := zo_46 (zi_at zh_dX13_hasRedress_16_16 13 rfl)
theorem dX13_hasRedress_30 : decode cX13_hasRedress 30 = .ok (.iload_n 2, 1) := zo_28 (zi_at zh_dX13_hasRedress_16_16 14 rfl)
theorem dX13_hasRedress_31 : decode cX13_hasRedress 31 = .ok (.if_icmp .ne 16, 3) := zo_160 (zi_at zh_dX13_hasRedress_16_16 15 rfl) (zi_at zh_dX13_hasRedress_31_32 0 rfl) (zi_at zh_dX13_hasRedress_31_32 1 rfl) rfl
theorem dX13_hasRedress_34 : decode cX13_hasRedress 34 = .ok (.aload_n 0, 1) := zo_42 (zi_at zh_dX13_hasRedress_31_32 2 rfl)
theorem dX13_hasRedress_35 : decode cX13_hasRedress 35 = .ok (.getfield 104, 3) := zo_180 (zi_at zh_dX13_hasRedress_31_32 3 rfl) (zi_at zh_dX13_hasRedress_31_32 4 rfl) (zi_at zh_dX13_hasRedress_31_32 5 rfl) rfl
theorem dX13_hasRedress_38 : decode cX13_hasRedress 38 = .ok (.iload 4, 2) := zo_21 (zi_at zh_dX13_hasRedress_31_32 6 rfl) (zi_at zh_dX13_hasRedress_31_32 7 rfl)
theorem dX13_hasRedress_40 : decode cX13_hasRedress 40 = .ok (.iaload, 1) := zo_46 (zi_at zh_dX13_hasRedress_31_32 8 rfl)
theorem dX13_hasRedress_41 : decode cX13_hasRedress 41 = .ok (.iload_n 3, 1) := zo_29 (zi_at zh_dX13_hasRedress_31_32 9 rfl)
theorem dX13_hasRedress_42 : decode cX13_hasRedress 42 = .ok (.if_icmp .gt 5, 3) := zo_163 (zi_at zh_dX13_hasRedress_31_32 10 rfl) (zi_at zh_dX13_hasRedress_31_32 11 rfl) (zi_at zh_dX13_hasRedress_31_32 12 rfl) rfl
theorem dX13_hasRedress_45 : decode cX13_hasRedress 45 = .ok (.iconst 1, 1) := zo_4 (zi_at zh_dX13_hasRedress_31_32 13 rfl)
theorem dX13_hasRedress_46 : decode cX13_hasRedress 46 = .ok (.ireturn, 1) := zo_172 (zi_at zh_dX13_hasRedress_31_32 14 rfl)
theorem dX13_hasRedress_47 : decode cX13_hasRedress 47 = .ok (.iinc 4 1, 3) := zo_132 (zi_at zh_dX13_hasRedress_31_32 15 rfl) (zi_at zh_dX13_hasRedress_47_48 0 rfl) (zi_at zh_dX13_hasRedress_47_48 1 rfl) rfl
theorem dX13_hasRedress_50 : decode cX13_hasRedress 50 = .ok (.goto (-47), 3) := zo_167 (zi_at zh_dX13_hasRedress_47_48 2 rfl) (zi_at zh_dX13_hasRedress_47_48 3 rfl) (zi_at zh_dX13_hasRedress_47_48 4 rfl) rfl
theorem dX13_hasRedress_53 : decode cX13_hasRedress 53 = .ok (.iconst 0, 1) := zo_3 (zi_at zh_dX13_hasRedress_47_48 5 rfl)
theorem dX13_hasRedress_54 : decode cX13_hasRedress 54 = .ok (.ireturn, 1) := zo_172 (zi_at zh_dX13_hasRedress_47_48 6 rfl)
theorem dX13_word_0 : decode cX13_word 0 = .ok (.aload_n 0, 1) := zo_42 (zi_at zh_dX13_word_0_0 0 rfl)
theorem dX13_word_1 : decode cX13_word 1 = .ok (.iconst 0, 1) := zo_3 (zi_at zh_dX13_word_0_0 1 rfl)
theorem dX13_word_2 : decode cX13_word 2 = .ok (.putfield 228, 3) := zo_181 (zi_at zh_dX13_word_0_0 2 rfl) (zi_at zh_dX13_word_0_0 3 rfl) (zi_at zh_dX13_word_0_0 4 rfl) rfl
theorem dX13_word_5 : decode cX13_word 5 = .ok (.aload_n 0, 1) := zo_42 (zi_at zh_dX13_word_0_0 5 rfl)
theorem dX13_word_6 : decode cX13_word 6 = .ok (.getfield 460, 3) := zo_180 (zi_at zh_dX13_word_0_0 6 rfl) (zi_at zh_dX13_word_0_0 7 rfl) (zi_at zh_dX13_word_0_0 8 rfl) rfl
theorem dX13_word_9 : decode cX13_word 9 = .ok (.sipush 200, 3) := zo_17 (zi_at zh_dX13_word_0_0 9 rfl) (zi_at zh_dX13_word_0_0 10 rfl) (zi_at zh_dX13_word_0_0 11 rfl) rfl
theorem dX13_word_12 : decode cX13_word 12 = .ok (.if_icmp .eq 73, 3) := zo_159 (zi_at zh_dX13_word_0_0 12 rfl) (zi_at zh_dX13_word_0_0 13 rfl) (zi_at zh_dX13_word_0_0 14 rfl) rfl
theorem dX13_word_15 : decode cX13_word 15 = .ok (.aload_n 0, 1) := zo_42 (zi_at zh_dX13_word_0_0 15 rfl)
theorem dX13_word_16 : decode cX13_word 16 = .ok (.iload_n 1, 1) := zo_27 (zi_at zh_dX13_word_16_16 0 rfl)
theorem dX13_word_17 : decode cX13_word 17 = .ok (.iload_n 2, 1) := zo_28 (zi_at zh_dX13_word_16_16 1 rfl)
theorem dX13_word_18 : decode cX13_word 18 = .ok (.invokevirtual 402, 3) := zo_182 (zi_at zh_dX13_word_16_16 2 rfl) (zi_at zh_dX13_word_16_16 3 rfl) (zi_at zh_dX13_word_16_16 4 rfl) rfl
theorem dX13_word_21 : decode cX13_word 21 = .ok (.ifCond .eq 64, 3) := zo_153 (zi_at zh_dX13_word_16_16 5 rfl) (zi_at zh_dX13_word_16_16 6 rfl) (zi_at zh_dX13_word_16_16 7 rfl) rfl
theorem dX13_word_24 : decode cX13_word 24 = .ok (.iload_n 3, 1) := zo_29 (zi_at zh_dX13_word_16_16 8 rfl)
theorem dX13_word_25 : decode cX13_word 25 = .ok (.iconst 0, 1) := zo_3 (zi_at zh_dX13_word_16_16 9 rfl)
theorem dX13_word_26 : decode cX13_word 26 = .ok (.ldc_w 463, 3) := zo_19 (zi_at zh_dX13_word_16_16 10 rfl) (zi_at zh_dX13_word_16_16 11 rfl) (zi_at zh_dX13_word_16_16 12 rfl) rfl
theorem dX13_word_29 : decode cX13_word 29 = .ok (.invokestatic 235, 3) := zo_184 (zi_at zh_dX13_word_16_16 13 rfl) (zi_at zh_dX13_word_16_16 14 rfl) (zi_at zh_dX13_word_16_16 15 rfl) rfl
theorem dX13_word_32 : decode cX13_word 32 = .ok (.ifCond .eq 53, 3) := zo_153 (zi_at zh_dX13_word_32_32 0 rfl) (zi_at zh_dX13_word_32_32 1 rfl) (zi_at zh_dX13_word_32_32 2 rfl) rfl
theorem dX13_word_35 : decode cX13_word 35 = .ok (.iload 6, 2) := zo_21 (zi_at zh_dX13_word_32_32 3 rfl) (zi_at zh_dX13_word_32_32 4 rfl)
theorem dX13_word_37 : decode cX13_word 37 = .ok (.iconst 0, 1) := zo_3 (zi_at zh_dX13_word_32_32 5 rfl)
theorem dX13_word_38 : decode cX13_word 38 = .ok (.iconst 3, 1) := zo_6 (zi_at zh_dX13_word_32_32 6 rfl)
theorem dX13_word_39 : decode cX13_word 39 = .ok (.invokestatic 235, 3) := zo_184 (zi_at zh_dX13_word_32_32 7 rfl) (zi_at zh_dX13_word_32_32 8 rfl) (zi_at zh_dX13_word_32_32 9 rfl) rfl
theorem dX13_word_42 : decode cX13_word 42 = .ok (.ifCond .eq 43, 3) := zo_153 (zi_at zh_dX13_word_32_32 10 rfl) (zi_at zh_dX13_word_32_32 11 rfl) (zi_at zh_dX13_word_32_32 12 rfl) rfl
theorem dX13_word_45 : decode cX13_word 45 = .ok (.iload 4, 2) := zo_21 (zi_at zh_dX13_word_32_32 13 rfl) (zi_at zh_dX13_word_32_32 14 rfl)
theorem dX13_word_47 : decode cX13_word 47 = .ok (.iconst 0, 1) := zo_3 (zi_at zh_dX13_word_32_32 15 rfl)
theorem dX13_word_48 : decode cX13_word 48 = .ok (.bipush 99, 2) := zo_16 (zi_at zh_dX13_word_48_48 0 rfl) (zi_at zh_dX13_word_48_48 1 rfl) rfl
theorem dX13_word_50 : decode cX13_word 50 = .ok (.iload 6, 2) := zo_21 (zi_at zh_dX13_word_48_48 2 rfl) (zi_at zh_dX13_word_48_48 3 rfl)
theorem dX13_word_52 : decode cX13_word 52 = .ok (.isub, 1) := zo_100 (zi_at zh_dX13_word_48_48 4 rfl)
theorem dX13_word_53 : decode cX13_word 53 = .ok (.invokestatic 235, 3) := zo_184 (zi_at zh_dX13_word_48_48 5 rfl) (zi_at zh_dX13_word_48_48 6 rfl) (zi_at zh_dX13_word_48_48 7 rfl) rfl
theorem dX13_word_56 : decode cX13_word 56 = .ok (.ifCond .eq 29, 3) := zo_153 (zi_at zh_dX13_word_48_48 8 rfl) (zi_at zh_dX13_word_48_48 9 rfl) (zi_at zh_dX13_word_48_48 10 rfl) rfl
theorem dX13_word_59 : decode cX13_word 59 = .ok (.iload 5, 2) := zo_21 (zi_at zh_dX13_word_48_48 11 rfl) (zi_at zh_dX13_word_48_48 12 rfl)
theorem dX13_word_61 : decode cX13_word 61 = .ok (.iconst 0, 1) := zo_3 (zi_at zh_dX13_word_48_48 13 rfl)
theorem dX13_word_62 : decode cX13_word 62 = .ok (.bipush 99, 2) := zo_16 (zi_at zh_dX13_word_48_48 14 rfl) (zi_at zh_dX13_word_48_48 15 rfl) rfl
theorem dX13_word_64 : decode cX13_word 64 = .ok (.iload 6, 2) := zo_21 (zi_at zh_dX13_word_64_64 0 rfl) (zi_at zh_dX13_word_64_64 1 rfl)
theorem dX13_word_66 : decode cX13_word 66 = .ok (.isub, 1) := zo_100 (zi_at zh_dX13_word_64_64 2 rfl)
theorem dX13_word_67 : decode cX13_word 67 = .ok (.invokestatic 235, 3) := zo_184 (zi_at zh_dX13_word_64_64 3 rfl) (zi_at zh_dX13_word_64_64 4 rfl) (zi_at zh_dX13_word_64_64 5 rfl) rfl
theorem dX13_word_70 : decode cX13_word 70 = .ok (.ifCond .eq 15, 3) := zo_153 (zi_at zh_dX13_word_64_64 6 rfl) (zi_at zh_dX13_word_64_64 7 rfl) (zi_at zh_dX13_word_64_64 8 rfl) rfl
theorem dX13_word_73 : decode cX13_word 73 = .ok (.iload 7, 2) := zo_21 (zi_at zh_dX13_word_64_64 9 rfl) (zi_at zh_dX13_word_64_64 10 rfl)
theorem dX13_word_75 : decode cX13_word 75 = .ok (.iconst 1, 1) := zo_4 (zi_at zh_dX13_word_64_64 11 rfl)
theorem dX13_word_76 : decode cX13_word 76 = .ok (.sipush 255, 3) := zo_17 (zi_at zh_dX13_word_64_64 12 rfl) (zi_at zh_dX13_word_64_64 13 rfl) (zi_at zh_dX13_word_64_64 14 rfl) rfl
theorem dX13_word_79 : decode cX13_word 79 = .ok (.invokestatic 235, 3) := zo_184 (zi_at zh_dX13_word_64_64 15 rfl) (zi_at zh_dX13_word_79_80 0 rfl) (zi_at zh_dX13_word_79_80 1 rfl) rfl
theorem dX13_word_82 : decode cX13_word 82 = .ok (.ifCond .ne 5, 3) := zo_154 (zi_at zh_dX13_word_79_80 2 rfl) (zi_at zh_dX13_word_79_80 3 rfl) (zi_at zh_dX13_word_79_80 4 rfl) rfl
theorem dX13_word_85 : decode cX13_word 85 = .ok (.iconst (-1), 1) := zo_2 (zi_at zh_dX13_word_79_80 5 rfl)
theorem dX13_word_86 : decode cX13_word 86 = .ok (.ireturn, 1) := zo_172 (zi_at zh_dX13_word_79_80 6 rfl)
theorem dX13_word_87 : decode cX13_word 87 = .ok (.aload_n 0, 1) := zo_42 (zi_at zh_dX13_word_79_80 7 rfl)
theorem dX13_word_88 : decode cX13_word 88 = .ok (.getfield 126, 3) := zo_180 (zi_at zh_dX13_word_79_80 8 rfl) (zi_at zh_dX13_word_79_80 9 rfl) (zi_at zh_dX13_word_79_80 10 rfl) rfl
theorem dX13_word_91 : decode cX13_word 91 = .ok (.aload_n 0, 1) := zo_42 (zi_at zh_dX13_word_79_80 11 rfl)
theorem dX13_word_92 : decode cX13_word 92 = .ok (.getfield 460, 3) := zo_180 (zi_at zh_dX13_word_79_80 12 rfl) (zi_at zh_dX13_word_79_80 13 rfl) (zi_at zh_dX13_word_79_80 14 rfl) rfl
theorem dX13_word_95 : decode cX13_word 95 = .ok (.iload_n 1, 1) := zo_27 (zi_at zh_dX13_word_79_80 15 rfl)
theorem dX13_word_96 : decode cX13_word 96 = .ok (.iastore, 1) := zo_79 (zi_at zh_dX13_word_96_96 0 rfl)
theorem dX13_word_97 : decode cX13_word 97 = .ok (.aload_n 0, 1) := zo_42 (zi_at zh_dX13_word_96_96 1 rfl)
theorem dX13_word_98 : decode cX13_word 98 = .ok (.getfield 129, 3) := zo_180 (zi_at zh_dX13_word_96_96 2 rfl) (zi_at zh_dX13_word_96_96 3 rfl) (zi_at zh_dX13_word_96_96 4 rfl) rfl
theorem dX13_word_101 : decode cX13_word 101 = .ok (.aload_n 0, 1) := zo_42 (zi_at zh_dX13_word_96_96 5 rfl)
theorem dX13_word_102 : decode cX13_word 102 = .ok (.getfield 460, 3) := zo_180 (zi_at zh_dX13_word_96_96 6 rfl) (zi_at zh_dX13_word_96_96 7 rfl) (zi_at zh_dX13_word_96_96 8 rfl) rfl
theorem dX13_word_105 : decode cX13_word 105 = .ok (.iload_n 2, 1) := zo_28 (zi_at zh_dX13_word_96_96 9 rfl)
theorem dX13_word_106 : decode cX13_word 106 = .ok (.iastore, 1) := zo_79 (zi_at zh_dX13_word_96_96 10 rfl)
theorem dX13_word_107 : decode cX13_word 107 = .ok (.aload_n 0, 1) := zo_42 (zi_at zh_dX13_word_96_96 11 rfl)
theorem dX13_word_108 : decode cX13_word 108 = .ok (.getfield 132, 3) := zo_180 (zi_at zh_dX13_word_96_96 12 rfl) (zi_at zh_dX13_word_96_96 13 rfl) (zi_at zh_dX13_word_96_96 14 rfl) rfl
theorem dX13_word_111 : decode cX13_word 111 = .ok (.aload_n 0, 1) := zo_42 (zi_at zh_dX13_word_96_96 15 rfl)
theorem dX13_word_112 : decode cX13_word 112 = .ok (.getfield 460, 3) := zo_180 (zi_at zh_dX13_word_112_112 0 rfl) (zi_at zh_dX13_word_112_112 1 rfl) (zi_at zh_dX13_word_112_112 2 rfl) rfl
theorem dX13_word_115 : decode cX13_word 115 = .ok (.iload_n 3, 1) := zo_29 (zi_at zh_dX13_word_112_112 3 rfl)
theorem dX13_word_116 : decode cX13_word 116 = .ok (.iastore, 1) := zo_79 (zi_at zh_dX13_word_112_112 4 rfl)
theorem dX13_word_117 : decode cX13_word 117 = .ok (.aload_n 0, 1) := zo_42 (zi_at zh_dX13_word_112_112 5 rfl)
theorem dX13_word_118 : decode cX13_word 118 = .ok (.getfield 135, 3) := zo_180 (zi_at zh_dX13_word_112_112 6 rfl) (zi_at zh_dX13_word_112_112 7 rfl) (zi_at zh_dX13_word_112_112 8 rfl) rfl
theorem dX13_word_121 : decode cX13_word 121 = .ok (.aload_n 0, 1) := zo_42 (zi_at zh_dX13_word_112_112 9 rfl)
theorem dX13_word_122 : decode cX13_word 122 = .ok (.getfield 460, 3) := zo_180 (zi_at zh_dX13_word_112_112 10 rfl) (zi_at zh_dX13_word_112_112 11 rfl) (zi_at zh_dX13_word_112_112 12 rfl) rfl
theorem dX13_word_125 : decode cX13_word 125 = .ok (.iload 4, 2) := zo_21 (zi_at zh_dX13_word_112_112 13 rfl) (zi_at zh_dX13_word_112_112 14 rfl)
theorem dX13_word_127 : decode cX13_word 127 = .ok (.iastore, 1) := zo_79 (zi_at zh_dX13_word_112_112 15 rfl)
theorem dX13_word_128 : decode cX13_word 128 = .ok (.aload_n 0, 1) := zo_42 (zi_at zh_dX13_word_128_128 0 rfl)
theorem dX13_word_129 : decode cX13_word 129 = .ok (.getfield 138, 3) := zo_180 (zi_at zh_dX13_word_128_128 1 rfl) (zi_at zh_dX13_word_128_128 2 rfl) (zi_at zh_dX13_word_128_128 3 rfl) rfl
theorem dX13_word_132 : decode cX13_word 132 = .ok (.aload_n 0, 1) := zo_42 (zi_at zh_dX13_word_128_128 4 rfl)
theorem dX13_word_133 : decode cX13_word 133 = .ok (.getfield 460, 3) := zo_180 (zi_at zh_dX13_word_128_128 5 rfl) (zi_at zh_dX13_word_128_128 6 rfl) (zi_at zh_dX13_word_128_128 7 rfl) rfl
theorem dX13_word_136 : decode cX13_word 136 = .ok (.iload 5, 2) := zo_21 (zi_at zh_dX13_word_128_128 8 rfl) (zi_at zh_dX13_word_128_128 9 rfl)
theorem dX13_word_138 : decode cX13_word 138 = .ok (.iastore, 1) := zo_79 (zi_at zh_dX13_word_128_128 10 rfl)
theorem dX13_word_139 : decode cX13_word 139 = .ok (.aload_n 0, 1) := zo_42 (zi_at zh_dX13_word_128_128 11 rfl)
theorem dX13_word_140 : decode cX13_word 140 = .ok (.getfield 141, 3) := zo_180 (zi_at zh_dX13_word_128_128 12 rfl) (zi_at zh_dX13_word_128_128 13 rfl) (zi_at zh_dX13_word_128_128 14 rfl) rfl
theorem dX13_word_143 : decode cX13_word 143 = .ok (.aload_n 0, 1) := zo_42 (zi_at zh_dX13_word_128_128 15 rfl)
theorem dX13_word_144 : decode cX13_word 144 = .ok (.getfield 460, 3) := zo_180 (zi_at zh_dX13_word_144_144 0 rfl) (zi_at zh_dX13_word_144_144 1 rfl) (zi_at zh_dX13_word_144_144 2 rfl) rfl
theorem dX13_word_147 : decode cX13_word 147 = .ok (.iload 6, 2) := zo_21 (zi_at zh_dX13_word_144_144 3 rfl) (zi_at zh_dX13_word_144_144 4 rfl)
theorem dX13_word_149 : decode cX13_word 149 = .ok (.iastore, 1) := zo_79 (zi_at zh_dX13_word_144_144 5 rfl)
theorem dX13_word_150 : decode cX13_word 150 = .ok (.aload_n 0, 1) := zo_42 (zi_at zh_dX13_word_144_144 6 rfl)
theorem dX13_word_151 : decode cX13_word 151 = .ok (.getfield 144, 3) := zo_180 (zi_at zh_dX13_word_144_144 7 rfl) (zi_at zh_dX13_word_144_144 8 rfl) (zi_at zh_dX13_word_144_144 9 rfl) rfl
theorem dX13_word_154 : decode cX13_word 154 = .ok (.aload_n 0, 1) := zo_42 (zi_at zh_dX13_word_144_144 10 rfl)
theorem dX13_word_155 : decode cX13_word 155 = .ok (.getfield 460, 3) := zo_180 (zi_at zh_dX13_word_144_144 11 rfl) (zi_at zh_dX13_word_144_144 12 rfl) (zi_at zh_dX13_word_144_144 13 rfl) rfl
theorem dX13_word_158 : decode cX13_word 158 = .ok (.iload 7, 2) := zo_21 (zi_at zh_dX13_word_144_144 14 rfl) (zi_at zh_dX13_word_144_144 15 rfl)
theorem dX13_word_160 : decode cX13_word 160 = .ok (.iastore, 1) := zo_79 (zi_at zh_dX13_word_160_160 0 rfl)
theorem dX13_word_161 : decode cX13_word 161 = .ok (.aload_n 0, 1) := zo_42 (zi_at zh_dX13_word_160_160 1 rfl)
theorem dX13_word_162 : decode cX13_word 162 = .ok (.getfield 147, 3) := zo_180 (zi_at zh_dX13_word_160_160 2 rfl) (zi_at zh_dX13_word_160_160 3 rfl) (zi_at zh_dX13_word_160_160 4 rfl) rfl
theorem dX13_word_165 : decode cX13_word 165 = .ok (.aload_n 0, 1) := zo_42 (zi_at zh_dX13_word_160_160 5 rfl)
theorem dX13_word_166 : decode cX13_word 166 = .ok (.getfield 460, 3) := zo_180 (zi_at zh_dX13_word_160_160 6 rfl) (zi_at zh_dX13_word_160_160 7 rfl) (zi_at zh_dX13_word_160_160 8 rfl) rfl
theorem dX13_word_169 : decode cX13_word 169 = .ok (.aload_n 0, 1) := zo_42 (zi_at zh_dX13_word_160_160 9 rfl)
theorem dX13_word_170 : decode cX13_word 170 = .ok (.getfield 232, 3) := zo_180 (zi_at zh_dX13_word_160_160 10 rfl) (zi_at zh_dX13_word_160_160 11 rfl) (zi_at zh_dX13_word_160_160 12 rfl) rfl
theorem dX13_word_173 : decode cX13_word 173 = .ok (.iastore, 1) := zo_79 (zi_at zh_dX13_word_160_160 13 rfl)
theorem dX13_word_174 : decode cX13_word 174 = .ok (.aload_n 0, 1) := zo_42 (zi_at zh_dX13_word_160_160 14 rfl)
theorem dX13_word_175 : decode cX13_word 175 = .ok (.dup, 1) := zo_89 (zi_at zh_dX13_word_160_160 15 rfl)
theorem dX13_word_176 : decode cX13_word 176 = .ok (.getfield 460, 3) := zo_180 (zi_at zh_dX13_word_176_176 0 rfl) (zi_at zh_dX13_word_176_176 1 rfl) (zi_at zh_dX13_word_176_176 2 rfl) rfl
theorem dX13_word_179 : decode cX13_word 179 = .ok (.iconst 1, 1) := zo_4 (zi_at zh_dX13_word_176_176 3 rfl)
theorem dX13_word_180 : decode cX13_word 180 = .ok (.iadd, 1) := zo_96 (zi_at zh_dX13_word_176_176 4 rfl)
theorem dX13_word_181 : decode cX13_word 181 = .ok (.putfield 460, 3) := zo_181 (zi_at zh_dX13_word_176_176 5 rfl) (zi_at zh_dX13_word_176_176 6 rfl) (zi_at zh_dX13_word_176_176 7 rfl) rfl
theorem dX13_word_184 : decode cX13_word 184 = .ok (.aload_n 0, 1) := zo_42 (zi_at zh_dX13_word_176_176 8 rfl)
theorem dX13_word_185 : decode cX13_word 185 = .ok (.getfield 460, 3) := zo_180 (zi_at zh_dX13_word_176_176 9 rfl) (zi_at zh_dX13_word_176_176 10 rfl) (zi_at zh_dX13_word_176_176 11 rfl) rfl
theorem dX13_word_188 : decode cX13_word 188 = .ok (.iconst 1, 1) := zo_4 (zi_at zh_dX13_word_176_176 12 rfl)
theorem dX13_word_189 : decode cX13_word 189 = .ok (.isub, 1) := zo_100 (zi_at zh_dX13_word_176_176 13 rfl)
theorem dX13_word_190 : decode cX13_word 190 = .ok (.ireturn, 1) := zo_172 (zi_at zh_dX13_word_176_176 14 rfl)
theorem dX13_protest_0 : decode cX13_protest 0 = .ok (.aload_n 0, 1) := zo_42 (zi_at zh_dX13_protest_0_0 0 rfl)
theorem dX13_protest_1 : decode cX13_protest 1 = .ok (.iconst 0, 1) := zo_3 (zi_at zh_dX13_protest_0_0 1 rfl)
theorem dX13_protest_2 : decode cX13_protest 2 = .ok (.putfield 228, 3) := zo_181 (zi_at zh_dX13_protest_0_0 2 rfl) (zi_at zh_dX13_protest_0_0 3 rfl) (zi_at zh_dX13_protest_0_0 4 rfl) rfl
theorem dX13_protest_5 : decode cX13_protest 5 = .ok (.aload_n 0, 1) := zo_42 (zi_at zh_dX13_protest_0_0 5 rfl)
theorem dX13_protest_6 : decode cX13_protest 6 = .ok (.getfield 464, 3) := zo_180 (zi_at zh_dX13_protest_0_0 6 rfl) (zi_at zh_dX13_protest_0_0 7 rfl) (zi_at zh_dX13_protest_0_0 8 rfl) rfl
theorem dX13_protest_9 : decode cX13_protest 9 = .ok (.bipush 30, 2) := zo_16 (zi_at zh_dX13_protest_0_0 9 rfl) (zi_at zh_dX13_protest_0_0 10 rfl) rfl
theorem dX13_protest_11 : decode cX13_protest 11 = .ok (.if_icmp .eq 38, 3) := zo_159 (zi_at zh_dX13_protest_0_0 11 rfl) (zi_at zh_dX13_protest_0_0 12 rfl) (zi_at zh_dX13_protest_0_0 13 rfl) rfl
theorem dX13_protest_14 : decode cX13_protest 14 = .ok (.aload_n 0, 1) := zo_42 (zi_at zh_dX13_protest_0_0 14 rfl)
theorem dX13_protest_15 : decode cX13_protest 15 = .ok (.iload_n 1, 1) := zo_27 (zi_at zh_dX13_protest_0_0 15 rfl)
theorem dX13_protest_16 : decode cX13_protest 16 = .ok (.iload_n 2, 1) := zo_28 (zi_at zh_dX13_protest_16_16 0 rfl)
theorem dX13_protest_17 : decode cX13_protest 17 = .ok (.invokevirtual 402, 3) := zo_182 (zi_at zh_dX13_protest_16_16 1 rfl) (zi_at zh_dX13_protest_16_16 2 rfl) (zi_at zh_dX13_protest_16_16 3 rfl) rfl
theorem dX13_protest_20 : decode cX13_protest 20 = .ok (.ifCond .eq 29, 3) := zo_153 (zi_at zh_dX13_protest_16_16 4 rfl) (zi_at zh_dX13_protest_16_16 5 rfl) (zi_at zh_dX13_protest_16_16 6 rfl) rfl
theorem dX13_protest_23 : decode cX13_protest 23 = .ok (.aload_n 0, 1) := zo_42 (zi_at zh_dX13_protest_16_16 7 rfl)
theorem dX13_protest_24 : decode cX13_protest 24 = .ok (.iload_n 1, 1) := zo_27 (zi_at zh_dX13_protest_16_16 8 rfl)
theorem dX13_protest_25 : decode cX13_protest 25 = .ok (.iload_n 3, 1) := zo_29 (zi_at zh_dX13_protest_16_16 9 rfl)
theorem dX13_protest_26 : decode cX13_protest 26 = .ok (.invokevirtual 402, 3) := zo_182 (zi_at zh_dX13_protest_16_16 10 rfl) (zi_at zh_dX13_protest_16_16 11 rfl) (zi_at zh_dX13_protest_16_16 12 rfl) rfl
theorem dX13_protest_29 : decode cX13_protest 29 = .ok (.ifCond .eq 20, 3) := zo_153 (zi_at zh_dX13_protest_16_16 13 rfl) (zi_at zh_dX13_protest_16_16 14 rfl) (zi_at zh_dX13_protest_16_16 15 rfl) rfl
theorem dX13_protest_32 : decode cX13_protest 32 = .ok (.iload_n 2, 1) := zo_28 (zi_at zh_dX13_protest_32_32 0 rfl)
theorem dX13_protest_33 : decode cX13_protest 33 = .ok (.iload_n 3, 1) := zo_29 (zi_at zh_dX13_protest_32_32 1 rfl)
theorem dX13_protest_34 : decode cX13_protest 34 = .ok (.if_icmp .eq 15, 3) := zo_159 (zi_at zh_dX13_protest_32_32 2 rfl) (zi_at zh_dX13_protest_32_32 3 rfl) (zi_at zh_dX13_protest_32_32 4 rfl) rfl
theorem dX13_protest_37 : decode cX13_protest 37 = .ok (.iload 4, 2) := zo_21 (zi_at zh_dX13_protest_32_32 5 rfl) (zi_at zh_dX13_protest_32_32 6 rfl)
theorem dX13_protest_39 : decode cX13_protest 39 = .ok (.iconst 0, 1) := zo_3 (zi_at zh_dX13_protest_32_32 7 rfl)
theorem dX13_protest_40 : decode cX13_protest 40 = .ok (.ldc_w 463, 3) := zo_19 (zi_at zh_dX13_protest_32_32 8 rfl) (zi_at zh_dX13_protest_32_32 9 rfl) (zi_at zh_dX13_protest_32_32 10 rfl) rfl
theorem dX13_protest_43 : decode cX13_protest 43 = .ok (.invokestatic 235, 3) := zo_184 (zi_at zh_dX13_protest_32_32 11 rfl) (zi_at zh_dX13_protest_32_32 12 rfl) (zi_at zh_dX13_protest_32_32 13 rfl) rfl
theorem dX13_protest_46 : decode cX13_protest 46 = .ok (.ifCond .ne 5, 3) := zo_154 (zi_at zh_dX13_protest_32_32 14 rfl) (zi_at zh_dX13_protest_32_32 15 rfl) (zi_at zh_dX13_protest_46_48 0 rfl) rfl
theorem dX13_protest_49 : decode cX13_protest 49 = .ok (.iconst (-1), 1) := zo_2 (zi_at zh_dX13_protest_46_48 1 rfl)
theorem dX13_protest_50 : decode cX13_protest 50 = .ok (.ireturn, 1) := zo_172 (zi_at zh_dX13_protest_46_48 2 rfl)
theorem dX13_protest_51 : decode cX13_protest 51 = .ok (.aload_n 0, 1) := zo_42 (zi_at zh_dX13_protest_46_48 3 rfl)
theorem dX13_protest_52 : decode cX13_protest 52 = .ok (.getfield 150, 3) := zo_180 (zi_at zh_dX13_protest_46_48 4 rfl) (zi_at zh_dX13_protest_46_48 5 rfl) (zi_at zh_dX13_protest_46_48 6 rfl) rfl
theorem dX13_protest_55 : decode cX13_protest 55 = .ok (.aload_n 0, 1) := zo_42 (zi_at zh_dX13_protest_46_48 7 rfl)
theorem dX13_protest_56 : decode cX13_protest 56 = .ok (.getfield 464, 3) := zo_180 (zi_at zh_dX13_protest_46_48 8 rfl) (zi_at zh_dX13_protest_46_48 9 rfl) (zi_at zh_dX13_protest_46_48 10 rfl) rfl
theorem dX13_protest_59 : decode cX13_protest 59 = .ok (.iload_n 1, 1) := zo_27 (zi_at zh_dX13_protest_46_48 11 rfl)
theorem dX13_protest_60 : decode cX13_protest 60 = .ok (.iastore, 1) := zo_79 (zi_at zh_dX13_protest_46_48 12 rfl)
theorem dX13_protest_61 : decode cX13_protest 61 = .ok (.aload_n 0, 1) := zo_42 (zi_at zh_dX13_protest_46_48 13 rfl)
theorem dX13_protest_62 : decode cX13_protest 62 = .ok (.getfield 153, 3) := zo_180 (zi_at zh_dX13_protest_46_48 14 rfl) (zi_at zh_dX13_protest_46_48 15 rfl) (zi_at zh_dX13_protest_62_64 0 rfl) rfl
theorem dX13_protest_65 : decode cX13_protest 65 = .ok (.aload_n 0, 1) := zo_42 (zi_at zh_dX13_protest_62_64 1 rfl)
theorem dX13_protest_66 : decode cX13_protest 66 = .ok (.getfield 464, 3) := zo_180 (zi_at zh_dX13_protest_62_64 2 rfl) (zi_at zh_dX13_protest_62_64 3 rfl) (zi_at zh_dX13_protest_62_64 4 rfl) rfl
theorem dX13_protest_69 : decode cX13_protest 69 = .ok (.iload_n 2, 1) := zo_28 (zi_at zh_dX13_protest_62_64 5 rfl)
theorem dX13_protest_70 : decode cX13_protest 70 = .ok (.iastore, 1) := zo_79 (zi_at zh_dX13_protest_62_64 6 rfl)
theorem dX13_protest_71 : decode cX13_protest 71 = .ok (.aload_n 0, 1) := zo_42 (zi_at zh_dX13_protest_62_64 7 rfl)
theorem dX13_protest_72 : decode cX13_protest 72 = .ok (.getfield 156, 3) := zo_180 (zi_at zh_dX13_protest_62_64 8 rfl) (zi_at zh_dX13_protest_62_64 9 rfl) (zi_at zh_dX13_protest_62_64 10 rfl) rfl
theorem dX13_protest_75 : decode cX13_protest 75 = .ok (.aload_n 0, 1) := zo_42 (zi_at zh_dX13_protest_62_64 11 rfl)
theorem dX13_protest_76 : decode cX13_protest 76 = .ok (.getfield 464, 3) := zo_180 (zi_at zh_dX13_protest_62_64 12 rfl) (zi_at zh_dX13_protest_62_64 13 rfl) (zi_at zh_dX13_protest_62_64 14 rfl) rfl
theorem dX13_protest_79 : decode cX13_protest 79 = .ok (.iload_n 3, 1) := zo_29 (zi_at zh_dX13_protest_62_64 15 rfl)
theorem dX13_protest_80 : decode cX13_protest 80 = .ok (.iastore, 1) := zo_79 (zi_at zh_dX13_protest_80_80 0 rfl)
theorem dX13_protest_81 : decode cX13_protest 81 = .ok (.aload_n 0, 1) := zo_42 (zi_at zh_dX13_protest_80_80 1 rfl)
theorem dX13_protest_82 : decode cX13_protest 82 = .ok (.getfield 159, 3) := zo_180 (zi_at zh_dX13_protest_80_80 2 rfl) (zi_at zh_dX13_protest_80_80 3 rfl) (zi_at zh_dX13_protest_80_80 4 rfl) rfl
theorem dX13_protest_85 : decode cX13_protest 85 = .ok (.aload_n 0, 1) := zo_42 (zi_at zh_dX13_protest_80_80 5 rfl)
theorem dX13_protest_86 : decode cX13_protest 86 = .ok (.getfield 464, 3) := zo_180 (zi_at zh_dX13_protest_80_80 6 rfl) (zi_at zh_dX13_protest_80_80 7 rfl) (zi_at zh_dX13_protest_80_80 8 rfl) rfl
theorem dX13_protest_89 : decode cX13_protest 89 = .ok (.iload 4, 2) := zo_21 (zi_at zh_dX13_protest_80_80 9 rfl) (zi_at zh_dX13_protest_80_80 10 rfl)
theorem dX13_protest_91 : decode cX13_protest 91 = .ok (.iastore, 1) := zo_79 (zi_at zh_dX13_protest_80_80 11 rfl)
theorem dX13_protest_92 : decode cX13_protest 92 = .ok (.aload_n 0, 1) := zo_42 (zi_at zh_dX13_protest_80_80 12 rfl)
theorem dX13_protest_93 : decode cX13_protest 93 = .ok (.getfield 162, 3) := zo_180 (zi_at zh_dX13_protest_80_80 13 rfl) (zi_at zh_dX13_protest_80_80 14 rfl) (zi_at zh_dX13_protest_80_80 15 rfl) rfl
theorem dX13_protest_96 : decode cX13_protest 96 = .ok (.aload_n 0, 1) := zo_42 (zi_at zh_dX13_protest_96_96 0 rfl)
theorem dX13_protest_97 : decode cX13_protest 97 = .ok (.getfield 464, 3) := zo_180 (zi_at zh_dX13_protest_96_96 1 rfl) (zi_at zh_dX13_protest_96_96 2 rfl) (zi_at zh_dX13_protest_96_96 3 rfl) rfl
theorem dX13_protest_100 : decode cX13_protest 100 = .ok (.aload_n 0, 1) := zo_42 (zi_at zh_dX13_protest_96_96 4 rfl)
theorem dX13_protest_101 : decode cX13_protest 101 = .ok (.getfield 232, 3) := zo_180 (zi_at zh_dX13_protest_96_96 5 rfl) (zi_at zh_dX13_protest_96_96 6 rfl) (zi_at zh_dX13_protest_96_96 7 rfl) rfl
theorem dX13_protest_104 : decode cX13_protest 104 = .ok (.iastore, 1) := zo_79 (zi_at zh_dX13_protest_96_96 8 rfl)
theorem dX13_protest_105 : decode cX13_protest 105 = .ok (.aload_n 0, 1) := zo_42 (zi_at zh_dX13_protest_96_96 9 rfl)
theorem dX13_protest_106 : decode cX13_protest 106 = .ok (.dup, 1) := zo_89 (zi_at zh_dX13_protest_96_96 10 rfl)
theorem dX13_protest_107 : decode cX13_protest 107 = .ok (.getfield 464, 3) := zo_180 (zi_at zh_dX13_protest_96_96 11 rfl) (zi_at zh_dX13_protest_96_96 12 rfl) (zi_at zh_dX13_protest_96_96 13 rfl) rfl
theorem dX13_protest_110 : decode cX13_protest 110 = .ok (.iconst 1, 1) := zo_4 (zi_at zh_dX13_protest_96_96 14 rfl)
theorem dX13_protest_111 : decode cX13_protest 111 = .ok (.iadd, 1) := zo_96 (zi_at zh_dX13_protest_96_96 15 rfl)
theorem dX13_protest_112 : decode cX13_protest 112 = .ok (.putfield 464, 3) := zo_181 (zi_at zh_dX13_protest_112_112 0 rfl) (zi_at zh_dX13_protest_112_112 1 rfl) (zi_at zh_dX13_protest_112_112 2 rfl) rfl
theorem dX13_protest_115 : decode cX13_protest 115 = .ok (.aload_n 0, 1) := zo_42 (zi_at zh_dX13_protest_112_112 3 rfl)
theorem dX13_protest_116 : decode cX13_protest 116 = .ok (.getfield 464, 3) := zo_180 (zi_at zh_dX13_protest_112_112 4 rfl) (zi_at zh_dX13_protest_112_112 5 rfl) (zi_at zh_dX13_protest_112_112 6 rfl) rfl
theorem dX13_protest_119 : decode cX13_protest 119 = .ok (.iconst 1, 1) := zo_4 (zi_at zh_dX13_protest_112_112 7 rfl)
theorem dX13_protest_120 : decode cX13_protest 120 = .ok (.isub, 1) := zo_100 (zi_at zh_dX13_protest_112_112 8 rfl)
theorem dX13_protest_121 : decode cX13_protest 121 = .ok (.ireturn, 1) := zo_172 (zi_at zh_dX13_protest_112_112 9 rfl)
theorem hz_yX13_isDay_1 : yX13_isDay.cls ≠ "java/lang/invoke/MethodHandle" ∧ yX13_isDay.cls ≠ "java/lang/invoke/VarHandle" ∧ (parseMethodDescriptor yX13_isDay.desc).map (fun d => d.parameters.length) = some 1 := by decide +kernel
theorem hz_yX13_isEntry_2 : yX13_isEntry.cls ≠ "java/lang/invoke/MethodHandle" ∧ yX13_isEntry.cls ≠ "java/lang/invoke/VarHandle" ∧ (parseMethodDescriptor yX13_isEntry.desc).map (fun d => d.parameters.length) = some 2 := by decide +kernel

def v_certificateR : List Cond := .code yX13_certificate cX13_certificate 6 (some .int) :: vA
abbrev rm_certificateR : Room := { frames := 2, cells := 0, slots := 0, locals := 80 }
def w_certificateR : Nat → Nat → Bool := wl [1, 2, 3, 4, 5, 6] [(0, 0), (0, 9)]
set_option maxHeartbeats 4000000 in
set_option maxRecDepth 100000 in
theorem q_certificateR (l : Launch) (dC : Nat → ClassId) (dI : Nat → Nat → Nat) (cT : Nat → ClassId) (ad : Nat → Nat) (E : Nat → va_E) (sz : Nat) (a0 : Int32) (a1 : Int32) (a2 : Int32) (a3 : Int32) (a4 : Int32) (hI0 : IX cT shM spM 72 ad E)  : Met l yX13_certificate v_certificateR rm_certificateR (va_Pc [.ref (ad 0), .int a0, .int a1, .int a2, .int a3, .int a4] (HW dC dI (TYM cT) 72 ad E sz)) (va_Qi (S := Nat → va_E) (fun r u => IX cT shM spM 72 ad u ∧ Kp w_certificateR E u ∧ ((((((0 ≤ a0.toInt ∧ a0.toInt < (xi (E 0) 8).toInt) ∧ (0 ≤ a1.toInt ∧ a1.toInt ≤ 400) ∧ (10 ≤ a2.toInt ∧ a2.toInt ≤ 400) ∧ (1 ≤ a3.toInt ∧ a3.toInt ≤ 4000) ∧ (1 ≤ a4.toInt ∧ a4.toInt ≤ 900) ∧ (xi (E 0) 9).toInt < 80) → (r.toInt = (xi (E 0) 9).toInt ∧ (xi (u 0) 9).toInt = (xi (E 0) 9).toInt + 1)) ∧ (¬ ((0 ≤ a0.toInt ∧ a0.toInt < (xi (E 0) 8).toInt) ∧ (0 ≤ a1.toInt ∧ a1.toInt ≤ 400) ∧ (10 ≤ a2.toInt ∧ a2.toInt ≤ 400) ∧ (1 ≤ a3.toInt ∧ a3.toInt ≤ 4000) ∧ (1 ≤ a4.toInt ∧ a4.toInt ≤ 900) ∧ (xi (E 0) 9).toInt < 80) → (r.toInt = -1 ∧ (xi (u 0) 9).toInt = (xi (E 0) 9).toInt)))) ∧ (((((0 ≤ a0.toInt ∧ a0.toInt < (xi (E 0) 8).toInt) ∧ (0 ≤ a1.toInt ∧ a1.toInt ≤ 400) ∧ (10 ≤ a2.toInt ∧ a2.toInt ≤ 400) ∧ (1 ≤ a3.toInt ∧ a3.toInt ≤ 4000) ∧ (1 ≤ a4.toInt ∧ a4.toInt ≤ 900) ∧ (xi (E 0) 9).toInt < 80) → (xi (u 1) = upd (xi (E 1)) (xi (E 0) 9).toNatClampNeg a0 ∧ xi (u 2) = upd (xi (E 2)) (xi (E 0) 9).toNatClampNeg a1 ∧ xi (u 3) = upd (xi (E 3)) (xi (E 0) 9).toNatClampNeg a2 ∧ xi (u 4) = upd (xi (E 4)) (xi (E 0) 9).toNatClampNeg a3 ∧ xi (u 5) = upd (xi (E 5)) (xi (E 0) 9).toNatClampNeg a4 ∧ xi (u 6) = upd (xi (E 6)) (xi (E 0) 9).toNatClampNeg (xi (E 0) 1))) ∧ (¬ ((0 ≤ a0.toInt ∧ a0.toInt < (xi (E 0) 8).toInt) ∧ (0 ≤ a1.toInt ∧ a1.toInt ≤ 400) ∧ (10 ≤ a2.toInt ∧ a2.toInt ≤ 400) ∧ (1 ≤ a3.toInt ∧ a3.toInt ≤ 4000) ∧ (1 ≤ a4.toInt ∧ a4.toInt ≤ 900) ∧ (xi (E 0) 9).toInt < 80) → (xi (u 1) = xi (E 1) ∧ xi (u 2) = xi (E 2) ∧ xi (u 3) = xi (E 3) ∧ xi (u 4) = xi (E 4) ∧ xi (u 5) = xi (E 5) ∧ xi (u 6) = xi (E 6))))))) (HB dC dI 72 ad) (va_A (WX 72 ad E) sz)) 0 0 (va_A (WX 72 ad E) sz) := by
  refine Met.ofW (cc := cX13_certificate) (maxL := 6) (ret := (some .int)) (by decide) rfl ?_
  intro p e s m args below meth c s₁ B hml hv
  obtain ⟨hargs, hsz, hP, hK, hD0, hEV⟩ := hv
  subst hsz
  have hx := B.exec
  have hb := B.bytes
  have hr := B.returns
  have hts := atoms_spec (ws := v_certificateR) B.pre
  have hown : s.vm.findClass RX13 = some m.cls := findClass_of_methodNamed B.named
  have hlocks := B.notSynchronized
  have hinX13 : ∀ w ∈ u_ws RX13 TX13 97, w ∈ v_certificateR := fun w h => vA_in _ w (in_X13 w h)
  generalize hAe : va_A (WX 72 ad E) s.heap.size = A at hEV ⊢
  have hA : ∀ q : Nat, s.heap.size ≤ q → A q := fun q h => by rw [← hAe]; exact Or.inr h
  have hD : va_D A (WX 72 ad E) := by rw [← hAe]; exact hD0.self
  have hS : va_S A s.heap s.heap [] := va_S.rf
  have hI := hI0
  have hKp : Kp w_certificateR E E := Kp.rf
  have hl := lv_entry ([.ref (ad 0), .int a0, .int a1, .int a2, .int a3, .int a4]) (n := 6) (Nat.le_of_ble_eq_true rfl)
  obtain ⟨Q, hQ⟩ : ∃ Q, Q = MQ below (va_Qi (S := Nat → va_E) (fun r u => IX cT shM spM 72 ad u ∧ Kp w_certificateR E u ∧ ((((((0 ≤ a0.toInt ∧ a0.toInt < (xi (E 0) 8).toInt) ∧ (0 ≤ a1.toInt ∧ a1.toInt ≤ 400) ∧ (10 ≤ a2.toInt ∧ a2.toInt ≤ 400) ∧ (1 ≤ a3.toInt ∧ a3.toInt ≤ 4000) ∧ (1 ≤ a4.toInt ∧ a4.toInt ≤ 900) ∧ (xi (E 0) 9).toInt < 80) → (r.toInt = (xi (E 0) 9).toInt ∧ (xi (u 0) 9).toInt = (xi (E 0) 9).toInt + 1)) ∧ (¬ ((0 ≤ a0.toInt ∧ a0.toInt < (xi (E 0) 8).toInt) ∧ (0 ≤ a1.toInt ∧ a1.toInt ≤ 400) ∧ (10 ≤ a2.toInt ∧ a2.toInt ≤ 400) ∧ (1 ≤ a3.toInt ∧ a3.toInt ≤ 4000) ∧ (1 ≤ a4.toInt ∧ a4.toInt ≤ 900) ∧ (xi (E 0) 9).toInt < 80) → (r.toInt = -1 ∧ (xi (u 0) 9).toInt = (xi (E 0) 9).toInt)))) ∧ (((((0 ≤ a0.toInt ∧ a0.toInt < (xi (E 0) 8).toInt) ∧ (0 ≤ a1.toInt ∧ a1.toInt ≤ 400) ∧ (10 ≤ a2.toInt ∧ a2.toInt ≤ 400) ∧ (1 ≤ a3.toInt ∧ a3.toInt ≤ 4000) ∧ (1 ≤ a4.toInt ∧ a4.toInt ≤ 900) ∧ (xi (E 0) 9).toInt < 80) → (xi (u 1) = upd (xi (E 1)) (xi (E 0) 9).toNatClampNeg a0 ∧ xi (u 2) = upd (xi (E 2)) (xi (E 0) 9).toNatClampNeg a1 ∧ xi (u 3) = upd (xi (E 3)) (xi (E 0) 9).toNatClampNeg a2 ∧ xi (u 4) = upd (xi (E 4)) (xi (E 0) 9).toNatClampNeg a3 ∧ xi (u 5) = upd (xi (E 5)) (xi (E 0) 9).toNatClampNeg a4 ∧ xi (u 6) = upd (xi (E 6)) (xi (E 0) 9).toNatClampNeg (xi (E 0) 1))) ∧ (¬ ((0 ≤ a0.toInt ∧ a0.toInt < (xi (E 0) 8).toInt) ∧ (0 ≤ a1.toInt ∧ a1.toInt ≤ 400) ∧ (10 ≤ a2.toInt ∧ a2.toInt ≤ 400) ∧ (1 ≤ a3.toInt ∧ a3.toInt ≤ 4000) ∧ (1 ≤ a4.toInt ∧ a4.toInt ≤ 900) ∧ (xi (E 0) 9).toInt < 80) → (xi (u 1) = xi (E 1) ∧ xi (u 2) = xi (E 2) ∧ xi (u 3) = xi (E 3) ∧ xi (u 4) = xi (E 4) ∧ xi (u 5) = xi (E 5) ∧ xi (u 6) = xi (E 6))))))) (HB dC dI 72 ad) (A)) args s 0 0 (A) := ⟨_, rfl⟩
  rw [← hQ, show entryFrame m args 6 = _ from (congrArg (fun z => entryFrame m z 6) hargs).trans (lg_entry_eq _ _ _)]
  generalize (lg_sl ([.ref (ad 0), .int a0, .int a1, .int a2, .int a3, .int a4]) ++ List.replicate (6 - (lg_sl ([.ref (ad 0), .int a0, .int a1, .int a2, .int a3, .int a4])).length) Slot.unset).toArray = ls at hl ⊢
  have hl : lv_has ls 6 [(0, .ref (ad 0)), (1, .int a0), (2, .int a1), (3, .int a2), (4, .int a3), (5, .int a4)] := hl
  obtain ⟨y1, ey1⟩ : ∃ y, xi (E 0) 9 = y := ⟨_, rfl⟩
  have fy1 : xv (E 0) 9 = .int y1 := (hI.fi 0 (Nat.le_of_ble_eq_true rfl) rfl (Nat.le_of_ble_eq_true rfl) rfl).trans (congrArg Value.int ey1)
  have iy1 : 0 ≤ y1.toInt ∧ y1.toInt ≤ 80 := by rw [← ey1]; exact hI.iv 0 (Nat.le_of_ble_eq_true rfl) rfl (Nat.le_of_ble_eq_true rfl) rfl
  obtain ⟨g2, hg2⟩ : ∃ g, xi (E 1) = g := ⟨_, rfl⟩
  obtain ⟨g3, hg3⟩ : ∃ g, xi (E 2) = g := ⟨_, rfl⟩
  obtain ⟨g4, hg4⟩ : ∃ g, xi (E 3) = g := ⟨_, rfl⟩
  obtain ⟨g5, hg5⟩ : ∃ g, xi (E 4) = g := ⟨_, rfl⟩
  obtain ⟨g6, hg6⟩ : ∃ g, xi (E 5) = g := ⟨_, rfl⟩
  obtain ⟨g7, hg7⟩ : ∃ g, xi (E 6) = g := ⟨_, rfl⟩
  refine lv_aload_n hx hb dX13_certificate_0 rfl (lv_at hl 0 rfl) ?_
  refine lv_iconst (v := 0) hx hb dX13_certificate_1 (by decide) ?_
  refine th_put (ci := 14) (C := RX13) (T := TX13) (N := 97) (v := .int 0) (ty := .int) hx hb hts hinX13 tyX13 tyX13_ok nmX13 hown hK hP (WX_D hD) hS hI 0 (Nat.le_of_ble_eq_true rfl) rfl rfl 0 (Nat.le_of_ble_eq_true rfl) (hts _ (vA_in _ _ (in_24 _ (zs4 (zs4 (zs1 (zs1 (zs0)))))))) (fun _ h9 => h9) rfl (by decide +kernel) rfl rfl (okI rfl (iv_w ln_0 (by decide))) dX13_certificate_2 (fun H locs E8 pw9 hI hP hS => ?_)
  have hKp := hKp.pw pw9 rfl
  refine lv_aload_n hx hb dX13_certificate_5 rfl (lv_at hl 0 rfl) ?_
  refine th_get (ci := 14) (C := RX13) (T := TX13) (N := 97) (v := .int y1) hx hb hts hinX13 hown hK hP hI 0 (Nat.le_of_ble_eq_true rfl) rfl rfl 9 (Nat.le_of_ble_eq_true rfl) (hts _ (vA_in _ _ (in_27 _ (zs4 (zs4 (zs1 (zs0))))))) (fun _ h9 => h9) ((pw9.2 0 9 (fun q9 => absurd q9.2 (Nat.ne_of_beq_eq_false rfl))).trans fy1) dX13_certificate_6 ?_
  refine lv_bipush (v := 80) hx hb dX13_certificate_9 (by decide) ?_
  refine lv_icmp_eq (tgt := 65) hx hb dX13_certificate_11 (by decide) (fun c10 => ?_) (fun c10 => ?_)
  · --11 taken
    have t11 : y1.toInt = 80 := ti_eq c10
    have i12 : 80 ≤ y1.toInt ∧ y1.toInt ≤ 80 := iv_eqi t11 iy1 (il_ 80) (by decide)
    refine lv_iconst (v := -1) hx hb dX13_certificate_65 (by decide) ?_
    rw [hQ]
    exact W.iret (v := (-1)) hx hb hr (fun t ht hW => ⟨⟨(-1), E8, rfl, ⟨hI, hKp, ⟨by have h8 := ln_m1; (try rw [(show xi (E8 0) 9 = y1 from vi_e ((pw9.2 0 9 (fun q9 => absurd q9.2 (Nat.ne_of_beq_eq_false rfl))).trans fy1))]); (try rw [ey1]); all_goals omega, ⟨fun g9 => by exfalso; (try rw [ey1] at g9); omega, fun _ => ⟨(show xi (E8 1) = g2 from ((pw9.ef 1 (Nat.ne_of_beq_eq_false rfl)).trans hg2)).trans (show xi (E 1) = g2 from hg2).symm, (show xi (E8 2) = g3 from ((pw9.ef 2 (Nat.ne_of_beq_eq_false rfl)).trans hg3)).trans (show xi (E 2) = g3 from hg3).symm, (show xi (E8 3) = g4 from ((pw9.ef 3 (Nat.ne_of_beq_eq_false rfl)).trans hg4)).trans (show xi (E 3) = g4 from hg4).symm, (show xi (E8 4) = g5 from ((pw9.ef 4 (Nat.ne_of_beq_eq_false rfl)).trans hg5)).trans (show xi (E 4) = g5 from hg5).symm, (show xi (E8 5) = g6 from ((pw9.ef 5 (Nat.ne_of_beq_eq_false rfl)).trans hg6)).trans (show xi (E 5) = g6 from hg6).symm, (show xi (E8 6) = g7 from ((pw9.ef 6 (Nat.ne_of_beq_eq_false rfl)).trans hg7)).trans (show xi (E 6) = g7 from hg7).symm⟩⟩⟩⟩, by show va_P (dC, dI) vwCl (WX 72 ad E8) t.heap; rw [ht]; exact hP⟩, hS.F ht⟩) hS.2.2 dX13_certificate_66
  · --11 not
    have t13 : ¬ y1.toInt = 80 := ti_ne c10
    have i14 : 0 ≤ y1.toInt ∧ y1.toInt ≤ 79 := iv_ne_r t13 iy1 (il_ 80)
    refine lv_aload_n hx hb dX13_certificate_14 rfl (lv_at hl 0 rfl) ?_
    refine lv_iload_n hx hb dX13_certificate_15 rfl (lv_at hl 1 rfl) ?_
    refine th_ri (va_runV (As := [.int a0]) (rest := []) ⟨hx, hb, hml, hown, hts⟩ (q_isBoat l dC dI cT ad E8 H.size a0 hI) (cwV 1 hts (gi_V (in_24 _ (zs16 (zs1 (zs1 (zs0))))) (in_24 _ (zs16 (zs1 (zs1 (zs1 (zs0)))))) (in_24 _ (zs16 (zs4 (zs0)))) (in_24 _ (zs4 (zs4 (zs4 (zs1 (zs1 (zs1 (zs0)))))))) (in_24 _ (zs16 (zs4 (zs1 (zs0)))))) rfl rfl rfl ⟨rfl, hz_yX13_isBoat_1⟩ ⟨Nat.le_of_ble_eq_true rfl, Nat.le_of_ble_eq_true rfl⟩) ⟨HW_bl, va_recv hK hP (ci := 14) (q0 := 0) rfl (hI.ob 0 (Nat.le_of_ble_eq_true rfl) rfl), (HW_wi hP hK (WX_D hD) hS hA hEV)⟩ rfl rfl hl.1 rfl (lv_room (Nat.le_of_ble_eq_true rfl)) dX13_certificate_16 ⟨Nat.le_of_ble_eq_true rfl, Nat.le_of_ble_eq_true rfl⟩) hS hP (fun r15 H locs hw hP hS => ?_)
    rcases hw with hw | hw
    · -- isBoat, case 0
      obtain ⟨rfl, f16, f17⟩ := hw
      have i18 : 0 ≤ (xi (E 0) 8).toInt ∧ (xi (E 0) 8).toInt ≤ 16 := (show 0 ≤ (xi (E 0) 8).toInt ∧ (xi (E 0) 8).toInt ≤ 16 from hI0.iv 0 (Nat.le_of_ble_eq_true rfl) rfl (Nat.le_of_ble_eq_true rfl) rfl)
      try rw [hKp.ei 0 8 rfl] at f16
      refine lv_if_eq (tgt := 65) hx hb dX13_certificate_19 (by decide) (fun c19 => ?_) (fun c19 => ?_)
      · --19 taken
        exact absurd c19 (by decide)
      · --19 not
        refine lv_iload_n hx hb dX13_certificate_22 rfl (lv_at hl 2 rfl) ?_
        refine th_pi (va_runS (As := [.int a1]) (rest := []) ⟨hx, hb, hml, hown, hts⟩ (q_isDay l a1) (va_cwS 1 hts (gi_S (in_27 _ (zs16 (zs1 (zs0)))) (in_27 _ (zs16 (zs1 (zs1 (zs0))))) (in_24 _ (zs4 (zs4 (zs4 (zs1 (zs1 (zs1 (zs0)))))))) (in_27 _ (zs16 (zs1 (zs1 (zs1 (zs0))))))) rfl rfl rfl hz_yX13_isDay_1 ⟨Nat.le_of_ble_eq_true rfl, Nat.le_of_ble_eq_true rfl⟩) ⟨fun _ _ _ _ q => q, fun _ _ _ => ⟨rfl, trivial⟩⟩ rfl rfl hl.1 rfl (lv_room (Nat.le_of_ble_eq_true rfl)) dX13_certificate_23 ⟨Nat.le_of_ble_eq_true rfl, Nat.le_of_ble_eq_true rfl⟩) hS (fun r20 H1 locs1 hw hk1 hS => ?_)
        have hP := ub_keep hP hk1
        generalize H1 = H at hP hS ⊢
        generalize locs1 = locs at hS ⊢
        rcases hw with hw | hw
        · -- isDay, case 0
          obtain ⟨rfl, f21⟩ := hw
          have t22 : (0 : Int) ≤ a1.toInt := f21.1
          have t23 : a1.toInt ≤ 400 := f21.2
          have i24 : 0 ≤ a1.toInt ∧ a1.toInt ≤ 2147483647 := iv_le_r t22 (il_ 0) (iv_all _) (by decide)
          have i25 : 0 ≤ a1.toInt ∧ a1.toInt ≤ 400 := iv_le_l t23 i24 (il_ 400) (by decide)
          refine lv_if_eq (tgt := 65) hx hb dX13_certificate_26 (by decide) (fun c26 => ?_) (fun c26 => ?_)
          · --26 taken
            exact absurd c26 (by decide)
          · --26 not
            refine lv_iload_n hx hb dX13_certificate_29 rfl (lv_at hl 3 rfl) ?_
            refine lv_bipush (v := 10) hx hb dX13_certificate_30 (by decide) ?_
            refine lv_sipush (v := 400) hx hb dX13_certificate_32 (by decide) ?_
            refine th_pi (va_runS (As := [.int a2, .int 10, .int 400]) (rest := []) ⟨hx, hb, hml, hown, hts⟩ (q_isIn l a2 (10 : Int32) (400 : Int32)) (va_cwS 3 hts (gi_S (in_24 _ (zs16 (zs4 (zs4 (zs4 (zs0)))))) (in_24 _ (zs16 (zs4 (zs4 (zs4 (zs1 (zs0))))))) (in_24 _ (zs4 (zs4 (zs4 (zs1 (zs1 (zs1 (zs0)))))))) (in_24 _ (zs16 (zs4 (zs4 (zs4 (zs1 (zs1 (zs0))))))))) rfl rfl rfl hz_yX13_isIn_3 ⟨Nat.le_of_ble_eq_true rfl, Nat.le_of_ble_eq_true rfl⟩) ⟨fun _ _ _ _ q => q, fun _ _ _ => ⟨rfl, trivial⟩⟩ rfl rfl hl.1 rfl (lv_room (Nat.le_of_ble_eq_true rfl)) dX13_certificate_35 ⟨Nat.le_of_ble_eq_true rfl, Nat.le_of_ble_eq_true rfl⟩) hS (fun r27 H1 locs1 hw hk1 hS => ?_)
            have hP := ub_keep hP hk1
            generalize H1 = H at hP hS ⊢
            generalize locs1 = locs at hS ⊢
            rcases hw with hw | hw
            · -- isIn, case 0
              obtain ⟨rfl, f28⟩ := hw
              have t29 : (10 : Int) ≤ a2.toInt := f28.1
              have t30 : a2.toInt ≤ 400 := f28.2
              have i31 : 10 ≤ a2.toInt ∧ a2.toInt ≤ 2147483647 := iv_le_r t29 (il_ 10) (iv_all _) (by decide)
              have i32 : 10 ≤ a2.toInt ∧ a2.toInt ≤ 400 := iv_le_l t30 i31 (il_ 400) (by decide)
              refine lv_if_eq (tgt := 65) hx hb dX13_certificate_38 (by decide) (fun c33 => ?_) (fun c33 => ?_)
              · --38 taken
                exact absurd c33 (by decide)
              · --38 not
                refine lv_iload hx hb dX13_certificate_41 (lv_at hl 4 rfl) ?_
                refine lv_iconst (v := 1) hx hb dX13_certificate_43 (by decide) ?_
                refine lv_sipush (v := 4000) hx hb dX13_certificate_44 (by decide) ?_
                refine th_pi (va_runS (As := [.int a3, .int 1, .int 4000]) (rest := []) ⟨hx, hb, hml, hown, hts⟩ (q_isIn l a3 (1 : Int32) (4000 : Int32)) (va_cwS 3 hts (gi_S (in_24 _ (zs16 (zs4 (zs4 (zs4 (zs0)))))) (in_24 _ (zs16 (zs4 (zs4 (zs4 (zs1 (zs0))))))) (in_24 _ (zs4 (zs4 (zs4 (zs1 (zs1 (zs1 (zs0)))))))) (in_24 _ (zs16 (zs4 (zs4 (zs4 (zs1 (zs1 (zs0))))))))) rfl rfl rfl hz_yX13_isIn_3 ⟨Nat.le_of_ble_eq_true rfl, Nat.le_of_ble_eq_true rfl⟩) ⟨fun _ _ _ _ q => q, fun _ _ _ => ⟨rfl, trivial⟩⟩ rfl rfl hl.1 rfl (lv_room (Nat.le_of_ble_eq_true rfl)) dX13_certificate_47 ⟨Nat.le_of_ble_eq_true rfl, Nat.le_of_ble_eq_true rfl⟩) hS (fun r34 H1 locs1 hw hk1 hS => ?_)
                have hP := ub_keep hP hk1
                generalize H1 = H at hP hS ⊢
                generalize locs1 = locs at hS ⊢
                rcases hw with hw | hw
                · -- isIn, case 0
                  obtain ⟨rfl, f35⟩ := hw
                  have t36 : (1 : Int) ≤ a3.toInt := f35.1
                  have t37 : a3.toInt ≤ 4000 := f35.2
                  have i38 : 1 ≤ a3.toInt ∧ a3.toInt ≤ 2147483647 := iv_le_r t36 (il_ 1) (iv_all _) (by decide)
                  have i39 : 1 ≤ a3.toInt ∧ a3.toInt ≤ 4000 := iv_le_l t37 i38 (il_ 4000) (by decide)
                  refine lv_if_eq (tgt := 65) hx hb dX13_certificate_50 (by decide) (fun c40 => ?_) (fun c40 => ?_)
                  · --50 taken
                    exact absurd c40 (by decide)
                  · --50 not
                    refine lv_iload hx hb dX13_certificate_53 (lv_at hl 5 rfl) ?_
                    refine lv_iconst (v := 1) hx hb dX13_certificate_55 (by decide) ?_
                    refine lv_sipush (v := 900) hx hb dX13_certificate_56 (by decide) ?_
                    refine th_pi (va_runS (As := [.int a4, .int 1, .int 900]) (rest := []) ⟨hx, hb, hml, hown, hts⟩ (q_isIn l a4 (1 : Int32) (900 : Int32)) (va_cwS 3 hts (gi_S (in_24 _ (zs16 (zs4 (zs4 (zs4 (zs0)))))) (in_24 _ (zs16 (zs4 (zs4 (zs4 (zs1 (zs0))))))) (in_24 _ (zs4 (zs4 (zs4 (zs1 (zs1 (zs1 (zs0)))))))) (in_24 _ (zs16 (zs4 (zs4 (zs4 (zs1 (zs1 (zs0))))))))) rfl rfl rfl hz_yX13_isIn_3 ⟨Nat.le_of_ble_eq_true rfl, Nat.le_of_ble_eq_true rfl⟩) ⟨fun _ _ _ _ q => q, fun _ _ _ => ⟨rfl, trivial⟩⟩ rfl rfl hl.1 rfl (lv_room (Nat.le_of_ble_eq_true rfl)) dX13_certificate_59 ⟨Nat.le_of_ble_eq_true rfl, Nat.le_of_ble_eq_true rfl⟩) hS (fun r41 H1 locs1 hw hk1 hS => ?_)
                    have hP := ub_keep hP hk1
                    generalize H1 = H at hP hS ⊢
                    generalize locs1 = locs at hS ⊢
                    rcases hw with hw | hw
                    · -- isIn, case 0
                      obtain ⟨rfl, f42⟩ := hw
                      have t43 : (1 : Int) ≤ a4.toInt := f42.1
                      have t44 : a4.toInt ≤ 900 := f42.2
                      have i45 : 1 ≤ a4.toInt ∧ a4.toInt ≤ 2147483647 := iv_le_r t43 (il_ 1) (iv_all _) (by decide)
                      have i46 : 1 ≤ a4.toInt ∧ a4.toInt ≤ 900 := iv_le_l t44 i45 (il_ 900) (by decide)
                      refine lv_if_ne (tgt := 67) hx hb dX13_certificate_62 (by decide) (fun c47 => ?_) (fun c47 => ?_)
                      · --62 taken
                        refine lv_aload_n hx hb dX13_certificate_67 rfl (lv_at hl 0 rfl) ?_
                        refine th_get (ci := 14) (C := RX13) (T := TX13) (N := 97) (v := .ref (ad 1)) hx hb hts hinX13 hown hK hP hI 0 (Nat.le_of_ble_eq_true rfl) rfl rfl 2 (Nat.le_of_ble_eq_true rfl) (hts _ (vA_in _ _ (in_27 _ (zs4 (zs4 (zs1 (zs1 (zs0)))))))) (fun _ h9 => h9) (hI.fr 0 (Nat.le_of_ble_eq_true rfl) rfl (Nat.le_of_ble_eq_true rfl) 1 rfl) dX13_certificate_68 ?_
                        refine lv_aload_n hx hb dX13_certificate_71 rfl (lv_at hl 0 rfl) ?_
                        refine th_get (ci := 14) (C := RX13) (T := TX13) (N := 97) (v := .int y1) hx hb hts hinX13 hown hK hP hI 0 (Nat.le_of_ble_eq_true rfl) rfl rfl 9 (Nat.le_of_ble_eq_true rfl) (hts _ (vA_in _ _ (in_27 _ (zs4 (zs4 (zs1 (zs0))))))) (fun _ h9 => h9) ((pw9.2 0 9 (fun q9 => absurd q9.2 (Nat.ne_of_beq_eq_false rfl))).trans fy1) dX13_certificate_72 ?_
                        refine lv_iload_n hx hb dX13_certificate_75 rfl (lv_at hl 1 rfl) ?_
                        have n48 : vp_in y1 80 := (iv_in (n := 80) i14 (by decide))
                        refine th_iast hx hb hK hP (WX_D hD) hS hI 1 (Nat.le_of_ble_eq_true rfl) rfl rfl n48 (okI rfl f17) dX13_certificate_76 (fun H locs E49 pw50 hI hP hS => ?_)
                        have hKp := hKp.pw pw50 rfl
                        obtain ⟨g51, eg51⟩ : ∃ z : Nat → Int32, z = upd g2 y1.toNatClampNeg a0 := ⟨_, rfl⟩
                        have hg51 : xi (E49 1) = g51 := by rw [pw50.eu, ((pw9.ef 1 (Nat.ne_of_beq_eq_false rfl)).trans hg2), eg51]
                        refine lv_aload_n hx hb dX13_certificate_77 rfl (lv_at hl 0 rfl) ?_
                        refine th_get (ci := 14) (C := RX13) (T := TX13) (N := 97) (v := .ref (ad 2)) hx hb hts hinX13 hown hK hP hI 0 (Nat.le_of_ble_eq_true rfl) rfl rfl 3 (Nat.le_of_ble_eq_true rfl) (hts _ (vA_in _ _ (in_27 _ (zs4 (zs4 (zs4 (zs0))))))) (fun _ h9 => h9) (hI.fr 0 (Nat.le_of_ble_eq_true rfl) rfl (Nat.le_of_ble_eq_true rfl) 2 rfl) dX13_certificate_78 ?_
                        refine lv_aload_n hx hb dX13_certificate_81 rfl (lv_at hl 0 rfl) ?_
                        refine th_get (ci := 14) (C := RX13) (T := TX13) (N := 97) (v := .int y1) hx hb hts hinX13 hown hK hP hI 0 (Nat.le_of_ble_eq_true rfl) rfl rfl 9 (Nat.le_of_ble_eq_true rfl) (hts _ (vA_in _ _ (in_27 _ (zs4 (zs4 (zs1 (zs0))))))) (fun _ h9 => h9) ((pw50.2 0 9 (fun q9 => absurd q9.1 (Nat.ne_of_beq_eq_false rfl))).trans ((pw9.2 0 9 (fun q9 => absurd q9.2 (Nat.ne_of_beq_eq_false rfl))).trans fy1)) dX13_certificate_82 ?_
                        refine lv_iload_n hx hb dX13_certificate_85 rfl (lv_at hl 2 rfl) ?_
                        have n52 : vp_in y1 80 := (iv_in (n := 80) i14 (by decide))
                        refine th_iast hx hb hK hP (WX_D hD) hS hI 2 (Nat.le_of_ble_eq_true rfl) rfl rfl n52 (okI rfl i25) dX13_certificate_86 (fun H locs E53 pw54 hI hP hS => ?_)
                        have hKp := hKp.pw pw54 rfl
                        obtain ⟨g55, eg55⟩ : ∃ z : Nat → Int32, z = upd g3 y1.toNatClampNeg a1 := ⟨_, rfl⟩
                        have hg55 : xi (E53 2) = g55 := by rw [pw54.eu, ((pw50.ef 2 (Nat.ne_of_beq_eq_false rfl)).trans ((pw9.ef 2 (Nat.ne_of_beq_eq_false rfl)).trans hg3)), eg55]
                        refine lv_aload_n hx hb dX13_certificate_87 rfl (lv_at hl 0 rfl) ?_
                        refine th_get (ci := 14) (C := RX13) (T := TX13) (N := 97) (v := .ref (ad 3)) hx hb hts hinX13 hown hK hP hI 0 (Nat.le_of_ble_eq_true rfl) rfl rfl 4 (Nat.le_of_ble_eq_true rfl) (hts _ (vA_in _ _ (in_27 _ (zs4 (zs4 (zs4 (zs1 (zs1 (zs0))))))))) (fun _ h9 => h9) (hI.fr 0 (Nat.le_of_ble_eq_true rfl) rfl (Nat.le_of_ble_eq_true rfl) 3 rfl) dX13_certificate_88 ?_
                        refine lv_aload_n hx hb dX13_certificate_91 rfl (lv_at hl 0 rfl) ?_
                        refine th_get (ci := 14) (C := RX13) (T := TX13) (N := 97) (v := .int y1) hx hb hts hinX13 hown hK hP hI 0 (Nat.le_of_ble_eq_true rfl) rfl rfl 9 (Nat.le_of_ble_eq_true rfl) (hts _ (vA_in _ _ (in_27 _ (zs4 (zs4 (zs1 (zs0))))))) (fun _ h9 => h9) ((pw54.2 0 9 (fun q9 => absurd q9.1 (Nat.ne_of_beq_eq_false rfl))).trans ((pw50.2 0 9 (fun q9 => absurd q9.1 (Nat.ne_of_beq_eq_false rfl))).trans ((pw9.2 0 9 (fun q9 => absurd q9.2 (Nat.ne_of_beq_eq_false rfl))).trans fy1))) dX13_certificate_92 ?_
                        refine lv_iload_n hx hb dX13_certificate_95 rfl (lv_at hl 3 rfl) ?_
                        have n56 : vp_in y1 80 := (iv_in (n := 80) i14 (by decide))
                        refine th_iast hx hb hK hP (WX_D hD) hS hI 3 (Nat.le_of_ble_eq_true rfl) rfl rfl n56 (okI rfl (iv_w i32 (by decide))) dX13_certificate_96 (fun H locs E57 pw58 hI hP hS => ?_)
                        have hKp := hKp.pw pw58 rfl
                        obtain ⟨g59, eg59⟩ : ∃ z : Nat → Int32, z = upd g4 y1.toNatClampNeg a2 := ⟨_, rfl⟩
                        have hg59 : xi (E57 3) = g59 := by rw [pw58.eu, ((pw54.ef 3 (Nat.ne_of_beq_eq_false rfl)).trans ((pw50.ef 3 (Nat.ne_of_beq_eq_false rfl)).trans ((pw9.ef 3 (Nat.ne_of_beq_eq_false rfl)).trans hg4))), eg59]
                        refine lv_aload_n hx hb dX13_certificate_97 rfl (lv_at hl 0 rfl) ?_
                        refine th_get (ci := 14) (C := RX13) (T := TX13) (N := 97) (v := .ref (ad 4)) hx hb hts hinX13 hown hK hP hI 0 (Nat.le_of_ble_eq_true rfl) rfl rfl 5 (Nat.le_of_ble_eq_true rfl) (hts _ (vA_in _ _ (in_27 _ (zs4 (zs4 (zs4 (zs1 (zs1 (zs1 (zs0)))))))))) (fun _ h9 => h9) (hI.fr 0 (Nat.le_of_ble_eq_true rfl) rfl (Nat.le_of_ble_eq_true rfl) 4 rfl) dX13_certificate_98 ?_
                        refine lv_aload_n hx hb dX13_certificate_101 rfl (lv_at hl 0 rfl) ?_
                        refine th_get (ci := 14) (C := RX13) (T := TX13) (N := 97) (v := .int y1) hx hb hts hinX13 hown hK hP hI 0 (Nat.le_of_ble_eq_true rfl) rfl rfl 9 (Nat.le_of_ble_eq_true rfl) (hts _ (vA_in _ _ (in_27 _ (zs4 (zs4 (zs1 (zs0))))))) (fun _ h9 => h9) ((pw58.2 0 9 (fun q9 => absurd q9.1 (Nat.ne_of_beq_eq_false rfl))).trans ((pw54.2 0 9 (fun q9 => absurd q9.1 (Nat.ne_of_beq_eq_false rfl))).trans ((pw50.2 0 9 (fun q9 => absurd q9.1 (Nat.ne_of_beq_eq_false rfl))).trans ((pw9.2 0 9 (fun q9 => absurd q9.2 (Nat.ne_of_beq_eq_false rfl))).trans fy1)))) dX13_certificate_102 ?_
                        refine lv_iload hx hb dX13_certificate_105 (lv_at hl 4 rfl) ?_
                        have n60 : vp_in y1 80 := (iv_in (n := 80) i14 (by decide))
                        refine th_iast hx hb hK hP (WX_D hD) hS hI 4 (Nat.le_of_ble_eq_true rfl) rfl rfl n60 (okI rfl (iv_w i39 (by decide))) dX13_certificate_107 (fun H locs E61 pw62 hI hP hS => ?_)
                        have hKp := hKp.pw pw62 rfl
                        obtain ⟨g63, eg63⟩ : ∃ z : Nat → Int32, z = upd g5 y1.toNatClampNeg a3 := ⟨_, rfl⟩
                        have hg63 : xi (E61 4) = g63 := by rw [pw62.eu, ((pw58.ef 4 (Nat.ne_of_beq_eq_false rfl)).trans ((pw54.ef 4 (Nat.ne_of_beq_eq_false rfl)).trans ((pw50.ef 4 (Nat.ne_of_beq_eq_false rfl)).trans ((pw9.ef 4 (Nat.ne_of_beq_eq_false rfl)).trans hg5)))), eg63]
                        refine lv_aload_n hx hb dX13_certificate_108 rfl (lv_at hl 0 rfl) ?_
                        refine th_get (ci := 14) (C := RX13) (T := TX13) (N := 97) (v := .ref (ad 5)) hx hb hts hinX13 hown hK hP hI 0 (Nat.le_of_ble_eq_true rfl) rfl rfl 6 (Nat.le_of_ble_eq_true rfl) (hts _ (vA_in _ _ (in_27 _ (zs16 (zs0))))) (fun _ h9 => h9) (hI.fr 0 (Nat.le_of_ble_eq_true rfl) rfl (Nat.le_of_ble_eq_true rfl) 5 rfl) dX13_certificate_109 ?_
                        refine lv_aload_n hx hb dX13_certificate_112 rfl (lv_at hl 0 rfl) ?_
                        refine th_get (ci := 14) (C := RX13) (T := TX13) (N := 97) (v := .int y1) hx hb hts hinX13 hown hK hP hI 0 (Nat.le_of_ble_eq_true rfl) rfl rfl 9 (Nat.le_of_ble_eq_true rfl) (hts _ (vA_in _ _ (in_27 _ (zs4 (zs4 (zs1 (zs0))))))) (fun _ h9 => h9) ((pw62.2 0 9 (fun q9 => absurd q9.1 (Nat.ne_of_beq_eq_false rfl))).trans ((pw58.2 0 9 (fun q9 => absurd q9.1 (Nat.ne_of_beq_eq_false rfl))).trans ((pw54.2 0 9 (fun q9 => absurd q9.1 (Nat.ne_of_beq_eq_false rfl))).trans ((pw50.2 0 9 (fun q9 => absurd q9.1 (Nat.ne_of_beq_eq_false rfl))).trans ((pw9.2 0 9 (fun q9 => absurd q9.2 (Nat.ne_of_beq_eq_false rfl))).trans fy1))))) dX13_certificate_113 ?_
                        refine lv_iload hx hb dX13_certificate_116 (lv_at hl 5 rfl) ?_
                        have n64 : vp_in y1 80 := (iv_in (n := 80) i14 (by decide))
                        refine th_iast hx hb hK hP (WX_D hD) hS hI 5 (Nat.le_of_ble_eq_true rfl) rfl rfl n64 (okI rfl (iv_w i46 (by decide))) dX13_certificate_118 (fun H locs E65 pw66 hI hP hS => ?_)
                        have hKp := hKp.pw pw66 rfl
                        obtain ⟨g67, eg67⟩ : ∃ z : Nat → Int32, z = upd g6 y1.toNatClampNeg a4 := ⟨_, rfl⟩
                        have hg67 : xi (E65 5) = g67 := by rw [pw66.eu, ((pw62.ef 5 (Nat.ne_of_beq_eq_false rfl)).trans ((pw58.ef 5 (Nat.ne_of_beq_eq_false rfl)).trans ((pw54.ef 5 (Nat.ne_of_beq_eq_false rfl)).trans ((pw50.ef 5 (Nat.ne_of_beq_eq_false rfl)).trans ((pw9.ef 5 (Nat.ne_of_beq_eq_false rfl)).trans hg6))))), eg67]
                        refine lv_aload_n hx hb dX13_certificate_119 rfl (lv_at hl 0 rfl) ?_
                        refine th_get (ci := 14) (C := RX13) (T := TX13) (N := 97) (v := .ref (ad 6)) hx hb hts hinX13 hown hK hP hI 0 (Nat.le_of_ble_eq_true rfl) rfl rfl 7 (Nat.le_of_ble_eq_true rfl) (hts _ (vA_in _ _ (in_27 _ (zs4 (zs4 (zs1 (zs1 (zs1 (zs0))))))))) (fun _ h9 => h9) (hI.fr 0 (Nat.le_of_ble_eq_true rfl) rfl (Nat.le_of_ble_eq_true rfl) 6 rfl) dX13_certificate_120 ?_
                        refine lv_aload_n hx hb dX13_certificate_123 rfl (lv_at hl 0 rfl) ?_
                        refine th_get (ci := 14) (C := RX13) (T := TX13) (N := 97) (v := .int y1) hx hb hts hinX13 hown hK hP hI 0 (Nat.le_of_ble_eq_true rfl) rfl rfl 9 (Nat.le_of_ble_eq_true rfl) (hts _ (vA_in _ _ (in_27 _ (zs4 (zs4 (zs1 (zs0))))))) (fun _ h9 => h9) ((pw66.2 0 9 (fun q9 => absurd q9.1 (Nat.ne_of_beq_eq_false rfl))).trans ((pw62.2 0 9 (fun q9 => absurd q9.1 (Nat.ne_of_beq_eq_false rfl))).trans ((pw58.2 0 9 (fun q9 => absurd q9.1 (Nat.ne_of_beq_eq_false rfl))).trans ((pw54.2 0 9 (fun q9 => absurd q9.1 (Nat.ne_of_beq_eq_false rfl))).trans ((pw50.2 0 9 (fun q9 => absurd q9.1 (Nat.ne_of_beq_eq_false rfl))).trans ((pw9.2 0 9 (fun q9 => absurd q9.2 (Nat.ne_of_beq_eq_false rfl))).trans fy1)))))) dX13_certificate_124 ?_
                        refine lv_aload_n hx hb dX13_certificate_127 rfl (lv_at hl 0 rfl) ?_
                        have i68 : 0 ≤ (xi (E 0) 1).toInt ∧ (xi (E 0) 1).toInt ≤ 400 := hI0.iv 0 (Nat.le_of_ble_eq_true rfl) rfl (Nat.le_of_ble_eq_true rfl) rfl
                        refine th_get (ci := 14) (C := RX13) (T := TX13) (N := 97) (v := .int (xi (E 0) 1)) hx hb hts hinX13 hown hK hP hI 0 (Nat.le_of_ble_eq_true rfl) rfl rfl 1 (Nat.le_of_ble_eq_true rfl) (hts _ (vA_in _ _ (in_24 _ (zs16 (zs4 (zs4 (zs1 (zs1 (zs1 (zs0)))))))))) (fun _ h9 => h9) (th_v0 hKp hI0 0 (Nat.le_of_ble_eq_true rfl) rfl (Nat.le_of_ble_eq_true rfl) rfl rfl) dX13_certificate_128 ?_
                        have n69 : vp_in y1 80 := (iv_in (n := 80) i14 (by decide))
                        refine th_iast hx hb hK hP (WX_D hD) hS hI 6 (Nat.le_of_ble_eq_true rfl) rfl rfl n69 (okI rfl i68) dX13_certificate_131 (fun H locs E70 pw71 hI hP hS => ?_)
                        have hKp := hKp.pw pw71 rfl
                        obtain ⟨g72, eg72⟩ : ∃ z : Nat → Int32, z = upd g7 y1.toNatClampNeg (xi (E 0) 1) := ⟨_, rfl⟩
                        have hg72 : xi (E70 6) = g72 := by rw [pw71.eu, ((pw66.ef 6 (Nat.ne_of_beq_eq_false rfl)).trans ((pw62.ef 6 (Nat.ne_of_beq_eq_false rfl)).trans ((pw58.ef 6 (Nat.ne_of_beq_eq_false rfl)).trans ((pw54.ef 6 (Nat.ne_of_beq_eq_false rfl)).trans ((pw50.ef 6 (Nat.ne_of_beq_eq_false rfl)).trans ((pw9.ef 6 (Nat.ne_of_beq_eq_false rfl)).trans hg7)))))), eg72]
                        refine lv_aload_n hx hb dX13_certificate_132 rfl (lv_at hl 0 rfl) ?_
                        refine lv_dup hx hb dX13_certificate_133 rfl ?_
                        refine th_get (ci := 14) (C := RX13) (T := TX13) (N := 97) (v := .int y1) hx hb hts hinX13 hown hK hP hI 0 (Nat.le_of_ble_eq_true rfl) rfl rfl 9 (Nat.le_of_ble_eq_true rfl) (hts _ (vA_in _ _ (in_27 _ (zs4 (zs4 (zs1 (zs0))))))) (fun _ h9 => h9) ((pw71.2 0 9 (fun q9 => absurd q9.1 (Nat.ne_of_beq_eq_false rfl))).trans ((pw66.2 0 9 (fun q9 => absurd q9.1 (Nat.ne_of_beq_eq_false rfl))).trans ((pw62.2 0 9 (fun q9 => absurd q9.1 (Nat.ne_of_beq_eq_false rfl))).trans ((pw58.2 0 9 (fun q9 => absurd q9.1 (Nat.ne_of_beq_eq_false rfl))).trans ((pw54.2 0 9 (fun q9 => absurd q9.1 (Nat.ne_of_beq_eq_false rfl))).trans ((pw50.2 0 9 (fun q9 => absurd q9.1 (Nat.ne_of_beq_eq_false rfl))).trans ((pw9.2 0 9 (fun q9 => absurd q9.2 (Nat.ne_of_beq_eq_false rfl))).trans fy1))))))) dX13_certificate_134 ?_
                        refine lv_iconst (v := 1) hx hb dX13_certificate_137 (by decide) ?_
                        refine lv_iadd hx hb dX13_certificate_138 ?_
                        refine lv_topi (fun y73 ey73 => ?_)
                        obtain ⟨ty73, iy73⟩ := ti_add (e := 1) (f := 80) i14 ln_1 ey73 (by decide)
                        have ty73 : y73.toInt = y1.toInt + 1 := ty73
                        have iy73 : 1 ≤ y73.toInt ∧ y73.toInt ≤ 80 := iy73
                        refine th_put (ci := 14) (C := RX13) (T := TX13) (N := 97) (v := .int y73) (ty := .int) hx hb hts hinX13 tyX13 tyX13_ok nmX13 hown hK hP (WX_D hD) hS hI 0 (Nat.le_of_ble_eq_true rfl) rfl rfl 9 (Nat.le_of_ble_eq_true rfl) (hts _ (vA_in _ _ (in_27 _ (zs4 (zs4 (zs1 (zs0))))))) (fun _ h9 => h9) rfl (by decide +kernel) rfl rfl (okI rfl (iv_w iy73 (by decide))) dX13_certificate_139 (fun H locs E74 pw75 hI hP hS => ?_)
                        have hKp := hKp.pw pw75 rfl
                        refine lv_aload_n hx hb dX13_certificate_142 rfl (lv_at hl 0 rfl) ?_
                        refine th_get (ci := 14) (C := RX13) (T := TX13) (N := 97) (v := .int y73) hx hb hts hinX13 hown hK hP hI 0 (Nat.le_of_ble_eq_true rfl) rfl rfl 9 (Nat.le_of_ble_eq_true rfl) (hts _ (vA_in _ _ (in_27 _ (zs4 (zs4 (zs1 (zs0))))))) (fun _ h9 => h9) pw75.1 dX13_certificate_143 ?_
                        refine lv_iconst (v := 1) hx hb dX13_certificate_146 (by decide) ?_
                        refine lv_isub hx hb dX13_certificate_147 ?_
                        refine lv_topi (fun y76 ey76 => ?_)
                        obtain ⟨ty76, iy76⟩ := ti_sub (e := 0) (f := 79) iy73 ln_1 ey76 (by decide)
                        have ty76 : y76.toInt = y73.toInt - 1 := ty76
                        have iy76 : 0 ≤ y76.toInt ∧ y76.toInt ≤ 79 := iy76
                        rw [hQ]
                        exact W.iret (v := y76) hx hb hr (fun t ht hW => ⟨⟨y76, E74, rfl, ⟨hI, hKp, ⟨by (try rw [(show xi (E74 0) 9 = y73 from vi_e pw75.1)]); (try rw [ey1]); all_goals omega, ⟨fun _ => ⟨(show xi (E74 1) = g51 from ((pw75.ef 1 (Nat.ne_of_beq_eq_false rfl)).trans ((pw71.ef 1 (Nat.ne_of_beq_eq_false rfl)).trans ((pw66.ef 1 (Nat.ne_of_beq_eq_false rfl)).trans ((pw62.ef 1 (Nat.ne_of_beq_eq_false rfl)).trans ((pw58.ef 1 (Nat.ne_of_beq_eq_false rfl)).trans ((pw54.ef 1 (Nat.ne_of_beq_eq_false rfl)).trans hg51))))))).trans (by rw [eg51, show xi (E 1) = g2 from hg2, ey1]), (show xi (E74 2) = g55 from ((pw75.ef 2 (Nat.ne_of_beq_eq_false rfl)).trans ((pw71.ef 2 (Nat.ne_of_beq_eq_false rfl)).trans ((pw66.ef 2 (Nat.ne_of_beq_eq_false rfl)).trans ((pw62.ef 2 (Nat.ne_of_beq_eq_false rfl)).trans ((pw58.ef 2 (Nat.ne_of_beq_eq_false rfl)).trans hg55)))))).trans (by rw [eg55, show xi (E 2) = g3 from hg3, ey1]), (show xi (E74 3) = g59 from ((pw75.ef 3 (Nat.ne_of_beq_eq_false rfl)).trans ((pw71.ef 3 (Nat.ne_of_beq_eq_false rfl)).trans ((pw66.ef 3 (Nat.ne_of_beq_eq_false rfl)).trans ((pw62.ef 3 (Nat.ne_of_beq_eq_false rfl)).trans hg59))))).trans (by rw [eg59, show xi (E 3) = g4 from hg4, ey1]), (show xi (E74 4) = g63 from ((pw75.ef 4 (Nat.ne_of_beq_eq_false rfl)).trans ((pw71.ef 4 (Nat.ne_of_beq_eq_false rfl)).trans ((pw66.ef 4 (Nat.ne_of_beq_eq_false rfl)).trans hg63)))).trans (by rw [eg63, show xi (E 4) = g5 from hg5, ey1]), (show xi (E74 5) = g67 from ((pw75.ef 5 (Nat.ne_of_beq_eq_false rfl)).trans ((pw71.ef 5 (Nat.ne_of_beq_eq_false rfl)).trans hg67))).trans (by rw [eg67, show xi (E 5) = g6 from hg6, ey1]), (show xi (E74 6) = g72 from ((pw75.ef 6 (Nat.ne_of_beq_eq_false rfl)).trans hg72)).trans (by rw [eg72, show xi (E 6) = g7 from hg7, ey1])⟩, fun g9 => by exfalso; exact g9 (by (try rw [ey1]); omega)⟩⟩⟩, by show va_P (dC, dI) vwCl (WX 72 ad E74) t.heap; rw [ht]; exact hP⟩, hS.F ht⟩) hS.2.2 dX13_certificate_148
                      · --62 not
                        exact absurd c47 (by decide)
                    · -- isIn, case 1
                      obtain ⟨rfl, f77⟩ := hw
                      have t78 : ¬ ((1 : Int) ≤ a4.toInt ∧ a4.toInt ≤ 900) := f77
                      refine lv_if_ne (tgt := 67) hx hb dX13_certificate_62 (by decide) (fun c79 => ?_) (fun c79 => ?_)
                      · --62 taken
                        exact absurd c79 (by decide)
                      · --62 not
                        refine lv_iconst (v := -1) hx hb dX13_certificate_65 (by decide) ?_
                        rw [hQ]
                        exact W.iret (v := (-1)) hx hb hr (fun t ht hW => ⟨⟨(-1), E8, rfl, ⟨hI, hKp, ⟨by have h8 := ln_m1; (try rw [(show xi (E8 0) 9 = y1 from vi_e ((pw9.2 0 9 (fun q9 => absurd q9.2 (Nat.ne_of_beq_eq_false rfl))).trans fy1))]); (try rw [ey1]); all_goals omega, ⟨fun g9 => by exfalso; (try rw [ey1] at g9); omega, fun _ => ⟨(show xi (E8 1) = g2 from ((pw9.ef 1 (Nat.ne_of_beq_eq_false rfl)).trans hg2)).trans (show xi (E 1) = g2 from hg2).symm, (show xi (E8 2) = g3 from ((pw9.ef 2 (Nat.ne_of_beq_eq_false rfl)).trans hg3)).trans (show xi (E 2) = g3 from hg3).symm, (show xi (E8 3) = g4 from ((pw9.ef 3 (Nat.ne_of_beq_eq_false rfl)).trans hg4)).trans (show xi (E 3) = g4 from hg4).symm, (show xi (E8 4) = g5 from ((pw9.ef 4 (Nat.ne_of_beq_eq_false rfl)).trans hg5)).trans (show xi (E 4) = g5 from hg5).symm, (show xi (E8 5) = g6 from ((pw9.ef 5 (Nat.ne_of_beq_eq_false rfl)).trans hg6)).trans (show xi (E 5) = g6 from hg6).symm, (show xi (E8 6) = g7 from ((pw9.ef 6 (Nat.ne_of_beq_eq_false rfl)).trans hg7)).trans (show xi (E 6) = g7 from hg7).symm⟩⟩⟩⟩, by show va_P (dC, dI) vwCl (WX 72 ad E8) t.heap; rw [ht]; exact hP⟩, hS.F ht⟩) hS.2.2 dX13_certificate_66
                · -- isIn, case 1
                  obtain ⟨rfl, f80⟩ := hw
                  have t81 : ¬ ((1 : Int) ≤ a3.toInt ∧ a3.toInt ≤ 4000) := f80
                  refine lv_if_eq (tgt := 65) hx hb dX13_certificate_50 (by decide) (fun c82 => ?_) (fun c82 => ?_)
                  · --50 taken
                    refine lv_iconst (v := -1) hx hb dX13_certificate_65 (by decide) ?_
                    rw [hQ]
                    exact W.iret (v := (-1)) hx hb hr (fun t ht hW => ⟨⟨(-1), E8, rfl, ⟨hI, hKp, ⟨by have h8 := ln_m1; (try rw [(show xi (E8 0) 9 = y1 from vi_e ((pw9.2 0 9 (fun q9 => absurd q9.2 (Nat.ne_of_beq_eq_false rfl))).trans fy1))]); (try rw [ey1]); all_goals omega, ⟨fun g9 => by exfalso; (try rw [ey1] at g9); omega, fun _ => ⟨(show xi (E8 1) = g2 from ((pw9.ef 1 (Nat.ne_of_beq_eq_false rfl)).trans hg2)).trans (show xi (E 1) = g2 from hg2).symm, (show xi (E8 2) = g3 from ((pw9.ef 2 (Nat.ne_of_beq_eq_false rfl)).trans hg3)).trans (show xi (E 2) = g3 from hg3).symm, (show xi (E8 3) = g4 from ((pw9.ef 3 (Nat.ne_of_beq_eq_false rfl)).trans hg4)).trans (show xi (E 3) = g4 from hg4).symm, (show xi (E8 4) = g5 from ((pw9.ef 4 (Nat.ne_of_beq_eq_false rfl)).trans hg5)).trans (show xi (E 4) = g5 from hg5).symm, (show xi (E8 5) = g6 from ((pw9.ef 5 (Nat.ne_of_beq_eq_false rfl)).trans hg6)).trans (show xi (E 5) = g6 from hg6).symm, (show xi (E8 6) = g7 from ((pw9.ef 6 (Nat.ne_of_beq_eq_false rfl)).trans hg7)).trans (show xi (E 6) = g7 from hg7).symm⟩⟩⟩⟩, by show va_P (dC, dI) vwCl (WX 72 ad E8) t.heap; rw [ht]; exact hP⟩, hS.F ht⟩) hS.2.2 dX13_certificate_66
                  · --50 not
                    exact absurd c82 (by decide)
            · -- isIn, case 1
              obtain ⟨rfl, f83⟩ := hw
              have t84 : ¬ ((10 : Int) ≤ a2.toInt ∧ a2.toInt ≤ 400) := f83
              refine lv_if_eq (tgt := 65) hx hb dX13_certificate_38 (by decide) (fun c85 => ?_) (fun c85 => ?_)
              · --38 taken
                refine lv_iconst (v := -1) hx hb dX13_certificate_65 (by decide) ?_
                rw [hQ]
                exact W.iret (v := (-1)) hx hb hr (fun t ht hW => ⟨⟨(-1), E8, rfl, ⟨hI, hKp, ⟨by have h8 := ln_m1; (try rw [(show xi (E8 0) 9 = y1 from vi_e ((pw9.2 0 9 (fun q9 => absurd q9.2 (Nat.ne_of_beq_eq_false rfl))).trans fy1))]); (try rw [ey1]); all_goals omega, ⟨fun g9 => by exfalso; (try rw [ey1] at g9); omega, fun _ => ⟨(show xi (E8 1) = g2 from ((pw9.ef 1 (Nat.ne_of_beq_eq_false rfl)).trans hg2)).trans (show xi (E 1) = g2 from hg2).symm, (show xi (E8 2) = g3 from ((pw9.ef 2 (Nat.ne_of_beq_eq_false rfl)).trans hg3)).trans (show xi (E 2) = g3 from hg3).symm, (show xi (E8 3) = g4 from ((pw9.ef 3 (Nat.ne_of_beq_eq_false rfl)).trans hg4)).trans (show xi (E 3) = g4 from hg4).symm, (show xi (E8 4) = g5 from ((pw9.ef 4 (Nat.ne_of_beq_eq_false rfl)).trans hg5)).trans (show xi (E 4) = g5 from hg5).symm, (show xi (E8 5) = g6 from ((pw9.ef 5 (Nat.ne_of_beq_eq_false rfl)).trans hg6)).trans (show xi (E 5) = g6 from hg6).symm, (show xi (E8 6) = g7 from ((pw9.ef 6 (Nat.ne_of_beq_eq_false rfl)).trans hg7)).trans (show xi (E 6) = g7 from hg7).symm⟩⟩⟩⟩, by show va_P (dC, dI) vwCl (WX 72 ad E8) t.heap; rw [ht]; exact hP⟩, hS.F ht⟩) hS.2.2 dX13_certificate_66
              · --38 not
                exact absurd c85 (by decide)
        · -- isDay, case 1
          obtain ⟨rfl, f86⟩ := hw
          have t87 : ¬ ((0 : Int) ≤ a1.toInt ∧ a1.toInt ≤ 400) := f86
          refine lv_if_eq (tgt := 65) hx hb dX13_certificate_26 (by decide) (fun c88 => ?_) (fun c88 => ?_)
          · --26 taken
            refine lv_iconst (v := -1) hx hb dX13_certificate_65 (by decide) ?_
            rw [hQ]
            exact W.iret (v := (-1)) hx hb hr (fun t ht hW => ⟨⟨(-1), E8, rfl, ⟨hI, hKp, ⟨by have h8 := ln_m1; (try rw [(show xi (E8 0) 9 = y1 from vi_e ((pw9.2 0 9 (fun q9 => absurd q9.2 (Nat.ne_of_beq_eq_false rfl))).trans fy1))]); (try rw [ey1]); all_goals omega, ⟨fun g9 => by exfalso; (try rw [ey1] at g9); omega, fun _ => ⟨(show xi (E8 1) = g2 from ((pw9.ef 1 (Nat.ne_of_beq_eq_false rfl)).trans hg2)).trans (show xi (E 1) = g2 from hg2).symm, (show xi (E8 2) = g3 from ((pw9.ef 2 (Nat.ne_of_beq_eq_false rfl)).trans hg3)).trans (show xi (E 2) = g3 from hg3).symm, (show xi (E8 3) = g4 from ((pw9.ef 3 (Nat.ne_of_beq_eq_false rfl)).trans hg4)).trans (show xi (E 3) = g4 from hg4).symm, (show xi (E8 4) = g5 from ((pw9.ef 4 (Nat.ne_of_beq_eq_false rfl)).trans hg5)).trans (show xi (E 4) = g5 from hg5).symm, (show xi (E8 5) = g6 from ((pw9.ef 5 (Nat.ne_of_beq_eq_false rfl)).trans hg6)).trans (show xi (E 5) = g6 from hg6).symm, (show xi (E8 6) = g7 from ((pw9.ef 6 (Nat.ne_of_beq_eq_false rfl)).trans hg7)).trans (show xi (E 6) = g7 from hg7).symm⟩⟩⟩⟩, by show va_P (dC, dI) vwCl (WX 72 ad E8) t.heap; rw [ht]; exact hP⟩, hS.F ht⟩) hS.2.2 dX13_certificate_66
          · --26 not
            exact absurd c88 (by decide)
    · -- isBoat, case 1
      obtain ⟨rfl, f89⟩ := hw
      have i90 : 0 ≤ (xi (E 0) 8).toInt ∧ (xi (E 0) 8).toInt ≤ 16 := (show 0 ≤ (xi (E 0) 8).toInt ∧ (xi (E 0) 8).toInt ≤ 16 from hI0.iv 0 (Nat.le_of_ble_eq_true rfl) rfl (Nat.le_of_ble_eq_true rfl) rfl)
      try rw [hKp.ei 0 8 rfl] at f89
      refine lv_if_eq (tgt := 65) hx hb dX13_certificate_19 (by decide) (fun c91 => ?_) (fun c91 => ?_)
      · --19 taken
        refine lv_iconst (v := -1) hx hb dX13_certificate_65 (by decide) ?_
        rw [hQ]
        exact W.iret (v := (-1)) hx hb hr (fun t ht hW => ⟨⟨(-1), E8, rfl, ⟨hI, hKp, ⟨by have h8 := ln_m1; (try rw [(show xi (E8 0) 9 = y1 from vi_e ((pw9.2 0 9 (fun q9 => absurd q9.2 (Nat.ne_of_beq_eq_false rfl))).trans fy1))]); (try rw [ey1]); all_goals omega, ⟨fun g9 => by exfalso; (try rw [ey1] at g9); omega, fun _ => ⟨(show xi (E8 1) = g2 from ((pw9.ef 1 (Nat.ne_of_beq_eq_false rfl)).trans hg2)).trans (show xi (E 1) = g2 from hg2).symm, (show xi (E8 2) = g3 from ((pw9.ef 2 (Nat.ne_of_beq_eq_false rfl)).trans hg3)).trans (show xi (E 2) = g3 from hg3).symm, (show xi (E8 3) = g4 from ((pw9.ef 3 (Nat.ne_of_beq_eq_false rfl)).trans hg4)).trans (show xi (E 3) = g4 from hg4).symm, (show xi (E8 4) = g5 from ((pw9.ef 4 (Nat.ne_of_beq_eq_false rfl)).trans hg5)).trans (show xi (E 4) = g5 from hg5).symm, (show xi (E8 5) = g6 from ((pw9.ef 5 (Nat.ne_of_beq_eq_false rfl)).trans hg6)).trans (show xi (E 5) = g6 from hg6).symm, (show xi (E8 6) = g7 from ((pw9.ef 6 (Nat.ne_of_beq_eq_false rfl)).trans hg7)).trans (show xi (E 6) = g7 from hg7).symm⟩⟩⟩⟩, by show va_P (dC, dI) vwCl (WX 72 ad E8) t.heap; rw [ht]; exact hP⟩, hS.F ht⟩) hS.2.2 dX13_certificate_66
      · --19 not
        exact absurd c91 (by decide)
def v_resultR : List Cond := .code yX13_result cX13_result 5 (some .boolean) :: vA
abbrev rm_resultR : Room := { frames := 2, cells := 0, slots := 0, locals := 80 }
def w_resultR : Nat → Nat → Bool := wl [24, 25, 26, 27, 28] [(0, 0), (0, 47)]
set_option maxHeartbeats 4000000 in
set_option maxRecDepth 100000 in
theorem q_resultR (l : Launch) (dC : Nat → ClassId) (dI : Nat → Nat → Nat) (cT : Nat → ClassId) (ad : Nat → Nat) (E : Nat → va_E) (sz : Nat) (a0 : Int32) (a1 : Int32) (a2 : Int32) (a3 : Int32) (hI0 : IX cT shM spM 72 ad E)  : Met l yX13_result v_resultR rm_resultR (va_Pc [.ref (ad 0), .int a0, .int a1, .int a2, .int a3] (HW dC dI (TYM cT) 72 ad E sz)) (va_Qi (S := Nat → va_E) (fun r u => IX cT shM spM 72 ad u ∧ Kp w_resultR E u ∧ ((((((0 ≤ a0.toInt ∧ a0.toInt < (xi (E 0) 46).toInt) ∧ (0 ≤ a1.toInt ∧ a1.toInt < (xi (E 0) 8).toInt) ∧ (xi (E 21) (16 * a0.toInt + a1.toInt).toNat).toInt ≤ (xi (E 0) 1).toInt ∧ (0 ≤ a2.toInt ∧ a2.toInt ≤ 4) ∧ ((a2.toInt = 0 ∧ 1 ≤ a3.toInt ∧ a3.toInt ≤ 200000) ∨ (¬ a2.toInt = 0 ∧ a3.toInt = 0)) ∧ (xi (E 0) 47).toInt < 300) → (r.toInt = 1 ∧ (xi (u 0) 47).toInt = (xi (E 0) 47).toInt + 1)) ∧ (¬ ((0 ≤ a0.toInt ∧ a0.toInt < (xi (E 0) 46).toInt) ∧ (0 ≤ a1.toInt ∧ a1.toInt < (xi (E 0) 8).toInt) ∧ (xi (E 21) (16 * a0.toInt + a1.toInt).toNat).toInt ≤ (xi (E 0) 1).toInt ∧ (0 ≤ a2.toInt ∧ a2.toInt ≤ 4) ∧ ((a2.toInt = 0 ∧ 1 ≤ a3.toInt ∧ a3.toInt ≤ 200000) ∨ (¬ a2.toInt = 0 ∧ a3.toInt = 0)) ∧ (xi (E 0) 47).toInt < 300) → (r.toInt = 0 ∧ (xi (u 0) 47).toInt = (xi (E 0) 47).toInt)))) ∧ (((((0 ≤ a0.toInt ∧ a0.toInt < (xi (E 0) 46).toInt) ∧ (0 ≤ a1.toInt ∧ a1.toInt < (xi (E 0) 8).toInt) ∧ (xi (E 21) (16 * a0.toInt + a1.toInt).toNat).toInt ≤ (xi (E 0) 1).toInt ∧ (0 ≤ a2.toInt ∧ a2.toInt ≤ 4) ∧ ((a2.toInt = 0 ∧ 1 ≤ a3.toInt ∧ a3.toInt ≤ 200000) ∨ (¬ a2.toInt = 0 ∧ a3.toInt = 0)) ∧ (xi (E 0) 47).toInt < 300) → (xi (u 24) = upd (xi (E 24)) (xi (E 0) 47).toNatClampNeg a0 ∧ xi (u 25) = upd (xi (E 25)) (xi (E 0) 47).toNatClampNeg a1 ∧ xi (u 26) = upd (xi (E 26)) (xi (E 0) 47).toNatClampNeg a2 ∧ xi (u 27) = upd (xi (E 27)) (xi (E 0) 47).toNatClampNeg a3 ∧ xi (u 28) = upd (xi (E 28)) (xi (E 0) 47).toNatClampNeg (xi (E 0) 1))) ∧ (¬ ((0 ≤ a0.toInt ∧ a0.toInt < (xi (E 0) 46).toInt) ∧ (0 ≤ a1.toInt ∧ a1.toInt < (xi (E 0) 8).toInt) ∧ (xi (E 21) (16 * a0.toInt + a1.toInt).toNat).toInt ≤ (xi (E 0) 1).toInt ∧ (0 ≤ a2.toInt ∧ a2.toInt ≤ 4) ∧ ((a2.toInt = 0 ∧ 1 ≤ a3.toInt ∧ a3.toInt ≤ 200000) ∨ (¬ a2.toInt = 0 ∧ a3.toInt = 0)) ∧ (xi (E 0) 47).toInt < 300) → (xi (u 24) = xi (E 24) ∧ xi (u 25) = xi (E 25) ∧ xi (u 26) = xi (E 26) ∧ xi (u 27) = xi (E 27) ∧ xi (u 28) = xi (E 28))))))) (HB dC dI 72 ad) (va_A (WX 72 ad E) sz)) 0 0 (va_A (WX 72 ad E) sz) := by
  refine Met.ofW (cc := cX13_result) (maxL := 5) (ret := (some .boolean)) (by decide) rfl ?_
  intro p e s m args below meth c s₁ B hml hv
  obtain ⟨hargs, hsz, hP, hK, hD0, hEV⟩ := hv
  subst hsz
  have hx := B.exec
  have hb := B.bytes
  have hr := B.returns
  have hts := atoms_spec (ws := v_resultR) B.pre
  have hown : s.vm.findClass RX13 = some m.cls := findClass_of_methodNamed B.named
  have hlocks := B.notSynchronized
  have hinX13 : ∀ w ∈ u_ws RX13 TX13 97, w ∈ v_resultR := fun w h => vA_in _ w (in_X13 w h)
  generalize hAe : va_A (WX 72 ad E) s.heap.size = A at hEV ⊢
  have hA : ∀ q : Nat, s.heap.size ≤ q → A q := fun q h => by rw [← hAe]; exact Or.inr h
  have hD : va_D A (WX 72 ad E) := by rw [← hAe]; exact hD0.self
  have hS : va_S A s.heap s.heap [] := va_S.rf
  have hI := hI0
  have hKp : Kp w_resultR E E := Kp.rf
  have hl := lv_entry ([.ref (ad 0), .int a0, .int a1, .int a2, .int a3]) (n := 5) (Nat.le_of_ble_eq_true rfl)
  obtain ⟨Q, hQ⟩ : ∃ Q, Q = MQ below (va_Qi (S := Nat → va_E) (fun r u => IX cT shM spM 72 ad u ∧ Kp w_resultR E u ∧ ((((((0 ≤ a0.toInt ∧ a0.toInt < (xi (E 0) 46).toInt) ∧ (0 ≤ a1.toInt ∧ a1.toInt < (xi (E 0) 8).toInt) ∧ (xi (E 21) (16 * a0.toInt + a1.toInt).toNat).toInt ≤ (xi (E 0) 1).toInt ∧ (0 ≤ a2.toInt ∧ a2.toInt ≤ 4) ∧ ((a2.toInt = 0 ∧ 1 ≤ a3.toInt ∧ a3.toInt ≤ 200000) ∨ (¬ a2.toInt = 0 ∧ a3.toInt = 0)) ∧ (xi (E 0) 47).toInt < 300) → (r.toInt = 1 ∧ (xi (u 0) 47).toInt = (xi (E 0) 47).toInt + 1)) ∧ (¬ ((0 ≤ a0.toInt ∧ a0.toInt < (xi (E 0) 46).toInt) ∧ (0 ≤ a1.toInt ∧ a1.toInt < (xi (E 0) 8).toInt) ∧ (xi (E 21) (16 * a0.toInt + a1.toInt).toNat).toInt ≤ (xi (E 0) 1).toInt ∧ (0 ≤ a2.toInt ∧ a2.toInt ≤ 4) ∧ ((a2.toInt = 0 ∧ 1 ≤ a3.toInt ∧ a3.toInt ≤ 200000) ∨ (¬ a2.toInt = 0 ∧ a3.toInt = 0)) ∧ (xi (E 0) 47).toInt < 300) → (r.toInt = 0 ∧ (xi (u 0) 47).toInt = (xi (E 0) 47).toInt)))) ∧ (((((0 ≤ a0.toInt ∧ a0.toInt < (xi (E 0) 46).toInt) ∧ (0 ≤ a1.toInt ∧ a1.toInt < (xi (E 0) 8).toInt) ∧ (xi (E 21) (16 * a0.toInt + a1.toInt).toNat).toInt ≤ (xi (E 0) 1).toInt ∧ (0 ≤ a2.toInt ∧ a2.toInt ≤ 4) ∧ ((a2.toInt = 0 ∧ 1 ≤ a3.toInt ∧ a3.toInt ≤ 200000) ∨ (¬ a2.toInt = 0 ∧ a3.toInt = 0)) ∧ (xi (E 0) 47).toInt < 300) → (xi (u 24) = upd (xi (E 24)) (xi (E 0) 47).toNatClampNeg a0 ∧ xi (u 25) = upd (xi (E 25)) (xi (E 0) 47).toNatClampNeg a1 ∧ xi (u 26) = upd (xi (E 26)) (xi (E 0) 47).toNatClampNeg a2 ∧ xi (u 27) = upd (xi (E 27)) (xi (E 0) 47).toNatClampNeg a3 ∧ xi (u 28) = upd (xi (E 28)) (xi (E 0) 47).toNatClampNeg (xi (E 0) 1))) ∧ (¬ ((0 ≤ a0.toInt ∧ a0.toInt < (xi (E 0) 46).toInt) ∧ (0 ≤ a1.toInt ∧ a1.toInt < (xi (E 0) 8).toInt) ∧ (xi (E 21) (16 * a0.toInt + a1.toInt).toNat).toInt ≤ (xi (E 0) 1).toInt ∧ (0 ≤ a2.toInt ∧ a2.toInt ≤ 4) ∧ ((a2.toInt = 0 ∧ 1 ≤ a3.toInt ∧ a3.toInt ≤ 200000) ∨ (¬ a2.toInt = 0 ∧ a3.toInt = 0)) ∧ (xi (E 0) 47).toInt < 300) → (xi (u 24) = xi (E 24) ∧ xi (u 25) = xi (E 25) ∧ xi (u 26) = xi (E 26) ∧ xi (u 27) = xi (E 27) ∧ xi (u 28) = xi (E 28))))))) (HB dC dI 72 ad) (A)) args s 0 0 (A) := ⟨_, rfl⟩
  rw [← hQ, show entryFrame m args 5 = _ from (congrArg (fun z => entryFrame m z 5) hargs).trans (lg_entry_eq _ _ _)]
  generalize (lg_sl ([.ref (ad 0), .int a0, .int a1, .int a2, .int a3]) ++ List.replicate (5 - (lg_sl ([.ref (ad 0), .int a0, .int a1, .int a2, .int a3])).length) Slot.unset).toArray = ls at hl ⊢
  have hl : lv_has ls 5 [(0, .ref (ad 0)), (1, .int a0), (2, .int a1), (3, .int a2), (4, .int a3)] := hl
  obtain ⟨y1, ey1⟩ : ∃ y, xi (E 0) 47 = y := ⟨_, rfl⟩
  have fy1 : xv (E 0) 47 = .int y1 := (hI.fi 0 (Nat.le_of_ble_eq_true rfl) rfl (Nat.le_of_ble_eq_true rfl) rfl).trans (congrArg Value.int ey1)
  have iy1 : 0 ≤ y1.toInt ∧ y1.toInt ≤ 300 := by rw [← ey1]; exact hI.iv 0 (Nat.le_of_ble_eq_true rfl) rfl (Nat.le_of_ble_eq_true rfl) rfl
  obtain ⟨g2, hg2⟩ : ∃ g, xi (E 24) = g := ⟨_, rfl⟩
  obtain ⟨g3, hg3⟩ : ∃ g, xi (E 25) = g := ⟨_, rfl⟩
  obtain ⟨g4, hg4⟩ : ∃ g, xi (E 26) = g := ⟨_, rfl⟩
  obtain ⟨g5, hg5⟩ : ∃ g, xi (E 27) = g := ⟨_, rfl⟩
  obtain ⟨g6, hg6⟩ : ∃ g, xi (E 28) = g := ⟨_, rfl⟩
  refine lv_aload_n hx hb dX13_result_0 rfl (lv_at hl 0 rfl) ?_
  refine lv_iconst (v := 0) hx hb dX13_result_1 (by decide) ?_
  refine th_put (ci := 14) (C := RX13) (T := TX13) (N := 97) (v := .int 0) (ty := .int) hx hb hts hinX13 tyX13 tyX13_ok nmX13 hown hK hP (WX_D hD) hS hI 0 (Nat.le_of_ble_eq_true rfl) rfl rfl 0 (Nat.le_of_ble_eq_true rfl) (hts _ (vA_in _ _ (in_24 _ (zs4 (zs4 (zs1 (zs1 (zs0)))))))) (fun _ h9 => h9) rfl (by decide +kernel) rfl rfl (okI rfl (iv_w ln_0 (by decide))) dX13_result_2 (fun H locs E7 pw8 hI hP hS => ?_)
  have hKp := hKp.pw pw8 rfl
  refine lv_aload_n hx hb dX13_result_5 rfl (lv_at hl 0 rfl) ?_
  refine th_get (ci := 14) (C := RX13) (T := TX13) (N := 97) (v := .int y1) hx hb hts hinX13 hown hK hP hI 0 (Nat.le_of_ble_eq_true rfl) rfl rfl 47 (Nat.le_of_ble_eq_true rfl) (hts _ (vA_in _ _ (in_28 _ (zs4 (zs4 (zs4 (zs1 (zs0)))))))) (fun _ h9 => h9) ((pw8.2 0 47 (fun q9 => absurd q9.2 (Nat.ne_of_beq_eq_false rfl))).trans fy1) dX13_result_6 ?_
  refine lv_sipush (v := 300) hx hb dX13_result_9 (by decide) ?_
  refine lv_icmp_eq (tgt := 61) hx hb dX13_result_12 (by decide) (fun c9 => ?_) (fun c9 => ?_)
  · --12 taken
    have t10 : y1.toInt = 300 := ti_eq c9
    have i11 : 300 ≤ y1.toInt ∧ y1.toInt ≤ 300 := iv_eqi t10 iy1 (il_ 300) (by decide)
    refine lv_iconst (v := 0) hx hb dX13_result_61 (by decide) ?_
    rw [hQ]
    exact W.zret (v := 0) hx hb hr rfl (fun t ht hW => ⟨⟨0, E7, rfl, ⟨hI, hKp, ⟨by have h8 := ln_0; (try rw [(show xi (E7 0) 47 = y1 from vi_e ((pw8.2 0 47 (fun q9 => absurd q9.2 (Nat.ne_of_beq_eq_false rfl))).trans fy1))]); (try rw [ey1]); all_goals omega, ⟨fun g9 => by exfalso; (try rw [ey1] at g9); omega, fun _ => ⟨(show xi (E7 24) = g2 from ((pw8.ef 24 (Nat.ne_of_beq_eq_false rfl)).trans hg2)).trans (show xi (E 24) = g2 from hg2).symm, (show xi (E7 25) = g3 from ((pw8.ef 25 (Nat.ne_of_beq_eq_false rfl)).trans hg3)).trans (show xi (E 25) = g3 from hg3).symm, (show xi (E7 26) = g4 from ((pw8.ef 26 (Nat.ne_of_beq_eq_false rfl)).trans hg4)).trans (show xi (E 26) = g4 from hg4).symm, (show xi (E7 27) = g5 from ((pw8.ef 27 (Nat.ne_of_beq_eq_false rfl)).trans hg5)).trans (show xi (E 27) = g5 from hg5).symm, (show xi (E7 28) = g6 from ((pw8.ef 28 (Nat.ne_of_beq_eq_false rfl)).trans hg6)).trans (show xi (E 28) = g6 from hg6).symm⟩⟩⟩⟩, by show va_P (dC, dI) vwCl (WX 72 ad E7) t.heap; rw [ht]; exact hP⟩, hS.F ht⟩) hS.2.2 dX13_result_62
  · --12 not
    have t12 : ¬ y1.toInt = 300 := ti_ne c9
    have i13 : 0 ≤ y1.toInt ∧ y1.toInt ≤ 299 := iv_ne_r t12 iy1 (il_ 300)
    refine lv_aload_n hx hb dX13_result_15 rfl (lv_at hl 0 rfl) ?_
    refine lv_iload_n hx hb dX13_result_16 rfl (lv_at hl 1 rfl) ?_
    refine lv_iload_n hx hb dX13_result_17 rfl (lv_at hl 2 rfl) ?_
    refine th_ri (va_runV (As := [.int a0, .int a1]) (rest := []) ⟨hx, hb, hml, hown, hts⟩ (q_isEntry l dC dI cT ad E7 H.size a0 a1 hI) (cwV 2 hts (gi_V (in_33 _ (zs4 (zs4 (zs0)))) (in_33 _ (zs4 (zs4 (zs1 (zs0))))) (in_33 _ (zs4 (zs4 (zs1 (zs1 (zs0)))))) (in_24 _ (zs4 (zs4 (zs4 (zs1 (zs1 (zs1 (zs0)))))))) (in_32 _ (zs16 (zs4 (zs4 (zs0)))))) rfl rfl rfl ⟨rfl, hz_yX13_isEntry_2⟩ ⟨Nat.le_of_ble_eq_true rfl, Nat.le_of_ble_eq_true rfl⟩) ⟨HW_bl, va_recv hK hP (ci := 14) (q0 := 0) rfl (hI.ob 0 (Nat.le_of_ble_eq_true rfl) rfl), (HW_wi hP hK (WX_D hD) hS hA hEV)⟩ rfl rfl hl.1 rfl (lv_room (Nat.le_of_ble_eq_true rfl)) dX13_result_18 ⟨Nat.le_of_ble_eq_true rfl, Nat.le_of_ble_eq_true rfl⟩) hS hP (fun r14 H locs hw hP hS => ?_)
    rcases hw with hw | hw
    · -- isEntry, case 0
      obtain ⟨rfl, f15, f16, f17⟩ := hw
      have i18 : 0 ≤ (xi (E 0) 46).toInt ∧ (xi (E 0) 46).toInt ≤ 20 := (show 0 ≤ (xi (E 0) 46).toInt ∧ (xi (E 0) 46).toInt ≤ 20 from hI0.iv 0 (Nat.le_of_ble_eq_true rfl) rfl (Nat.le_of_ble_eq_true rfl) rfl)
      have i19 : 0 ≤ (xi (E 0) 8).toInt ∧ (xi (E 0) 8).toInt ≤ 16 := (show 0 ≤ (xi (E 0) 8).toInt ∧ (xi (E 0) 8).toInt ≤ 16 from hI0.iv 0 (Nat.le_of_ble_eq_true rfl) rfl (Nat.le_of_ble_eq_true rfl) rfl)
      have i20 : 0 ≤ (xi (E 0) 1).toInt ∧ (xi (E 0) 1).toInt ≤ 400 := (show 0 ≤ (xi (E 0) 1).toInt ∧ (xi (E 0) 1).toInt ≤ 400 from hI0.iv 0 (Nat.le_of_ble_eq_true rfl) rfl (Nat.le_of_ble_eq_true rfl) rfl)
      try rw [hKp.ei 0 46 rfl] at f15
      try rw [hKp.ei 0 8 rfl] at f15
      try rw [hKp.ei 0 1 rfl] at f15
      try rw [hKp.ef 21 (fun _ => rfl)] at f15
      refine lv_if_eq (tgt := 61) hx hb dX13_result_21 (by decide) (fun c21 => ?_) (fun c21 => ?_)
      · --21 taken
        exact absurd c21 (by decide)
      · --21 not
        refine lv_iload_n hx hb dX13_result_24 rfl (lv_at hl 3 rfl) ?_
        refine lv_iconst (v := 0) hx hb dX13_result_25 (by decide) ?_
        refine lv_iconst (v := 4) hx hb dX13_result_26 (by decide) ?_
        refine th_pi (va_runS (As := [.int a2, .int 0, .int 4]) (rest := []) ⟨hx, hb, hml, hown, hts⟩ (q_isIn l a2 (0 : Int32) (4 : Int32)) (va_cwS 3 hts (gi_S (in_24 _ (zs16 (zs4 (zs4 (zs4 (zs0)))))) (in_24 _ (zs16 (zs4 (zs4 (zs4 (zs1 (zs0))))))) (in_24 _ (zs4 (zs4 (zs4 (zs1 (zs1 (zs1 (zs0)))))))) (in_24 _ (zs16 (zs4 (zs4 (zs4 (zs1 (zs1 (zs0))))))))) rfl rfl rfl hz_yX13_isIn_3 ⟨Nat.le_of_ble_eq_true rfl, Nat.le_of_ble_eq_true rfl⟩) ⟨fun _ _ _ _ q => q, fun _ _ _ => ⟨rfl, trivial⟩⟩ rfl rfl hl.1 rfl (lv_room (Nat.le_of_ble_eq_true rfl)) dX13_result_27 ⟨Nat.le_of_ble_eq_true rfl, Nat.le_of_ble_eq_true rfl⟩) hS (fun r22 H1 locs1 hw hk1 hS => ?_)
        have hP := ub_keep hP hk1
        generalize H1 = H at hP hS ⊢
        generalize locs1 = locs at hS ⊢
        rcases hw with hw | hw
        · -- isIn, case 0
          obtain ⟨rfl, f23⟩ := hw
          have t24 : (0 : Int) ≤ a2.toInt := f23.1
          have t25 : a2.toInt ≤ 4 := f23.2
          have i26 : 0 ≤ a2.toInt ∧ a2.toInt ≤ 2147483647 := iv_le_r t24 (il_ 0) (iv_all _) (by decide)
          have i27 : 0 ≤ a2.toInt ∧ a2.toInt ≤ 4 := iv_le_l t25 i26 (il_ 4) (by decide)
          refine lv_if_eq (tgt := 61) hx hb dX13_result_30 (by decide) (fun c28 => ?_) (fun c28 => ?_)
          · --30 taken
            exact absurd c28 (by decide)
          · --30 not
            refine lv_iload hx hb dX13_result_33 (lv_at hl 4 rfl) ?_
            refine lv_iload_n hx hb dX13_result_35 rfl (lv_at hl 3 rfl) ?_
            refine lv_if_ne (tgt := 43) hx hb dX13_result_36 (by decide) (fun c29 => ?_) (fun c29 => ?_)
            · --36 taken
              have t30 : ¬ a2.toInt = 0 := ti_ne c29
              have i31 : 1 ≤ a2.toInt ∧ a2.toInt ≤ 4 := iv_ne_l t30 i27 (il_ 0)
              refine lv_iconst (v := 0) hx hb dX13_result_43 (by decide) ?_
              refine lv_iload_n hx hb dX13_result_44 rfl (lv_at hl 3 rfl) ?_
              refine lv_if_ne (tgt := 54) hx hb dX13_result_45 (by decide) (fun c32 => ?_) (fun c32 => ?_)
              · --45 taken
                have t33 : ¬ a2.toInt = 0 := ti_ne c32
                refine lv_iconst (v := 0) hx hb dX13_result_54 (by decide) ?_
                refine th_pi (va_runS (As := [.int a3, .int 0, .int 0]) (rest := []) ⟨hx, hb, hml, hown, hts⟩ (q_isIn l a3 (0 : Int32) (0 : Int32)) (va_cwS 3 hts (gi_S (in_24 _ (zs16 (zs4 (zs4 (zs4 (zs0)))))) (in_24 _ (zs16 (zs4 (zs4 (zs4 (zs1 (zs0))))))) (in_24 _ (zs4 (zs4 (zs4 (zs1 (zs1 (zs1 (zs0)))))))) (in_24 _ (zs16 (zs4 (zs4 (zs4 (zs1 (zs1 (zs0))))))))) rfl rfl rfl hz_yX13_isIn_3 ⟨Nat.le_of_ble_eq_true rfl, Nat.le_of_ble_eq_true rfl⟩) ⟨fun _ _ _ _ q => q, fun _ _ _ => ⟨rfl, trivial⟩⟩ rfl rfl hl.1 rfl (lv_room (Nat.le_of_ble_eq_true rfl)) dX13_result_55 ⟨Nat.le_of_ble_eq_true rfl, Nat.le_of_ble_eq_true rfl⟩) hS (fun r34 H1 locs1 hw hk1 hS => ?_)
                have hP := ub_keep hP hk1
                generalize H1 = H at hP hS ⊢
                generalize locs1 = locs at hS ⊢
                rcases hw with hw | hw
                · -- isIn, case 0
                  obtain ⟨rfl, f35⟩ := hw
                  have t36 : (0 : Int) ≤ a3.toInt := f35.1
                  have t37 : a3.toInt ≤ 0 := f35.2
                  have i38 : 0 ≤ a3.toInt ∧ a3.toInt ≤ 2147483647 := iv_le_r t36 (il_ 0) (iv_all _) (by decide)
                  have i39 : 0 ≤ a3.toInt ∧ a3.toInt ≤ 0 := iv_le_l t37 i38 (il_ 0) (by decide)
                  refine lv_if_ne (tgt := 63) hx hb dX13_result_58 (by decide) (fun c40 => ?_) (fun c40 => ?_)
                  · --58 taken
                    refine lv_aload_n hx hb dX13_result_63 rfl (lv_at hl 0 rfl) ?_
                    refine th_get (ci := 14) (C := RX13) (T := TX13) (N := 97) (v := .ref (ad 24)) hx hb hts hinX13 hown hK hP hI 0 (Nat.le_of_ble_eq_true rfl) rfl rfl 38 (Nat.le_of_ble_eq_true rfl) (hts _ (vA_in _ _ (in_28 _ (zs4 (zs4 (zs4 (zs1 (zs1 (zs0))))))))) (fun _ h9 => h9) (hI.fr 0 (Nat.le_of_ble_eq_true rfl) rfl (Nat.le_of_ble_eq_true rfl) 24 rfl) dX13_result_64 ?_
                    refine lv_aload_n hx hb dX13_result_67 rfl (lv_at hl 0 rfl) ?_
                    refine th_get (ci := 14) (C := RX13) (T := TX13) (N := 97) (v := .int y1) hx hb hts hinX13 hown hK hP hI 0 (Nat.le_of_ble_eq_true rfl) rfl rfl 47 (Nat.le_of_ble_eq_true rfl) (hts _ (vA_in _ _ (in_28 _ (zs4 (zs4 (zs4 (zs1 (zs0)))))))) (fun _ h9 => h9) ((pw8.2 0 47 (fun q9 => absurd q9.2 (Nat.ne_of_beq_eq_false rfl))).trans fy1) dX13_result_68 ?_
                    refine lv_iload_n hx hb dX13_result_71 rfl (lv_at hl 1 rfl) ?_
                    have n41 : vp_in y1 300 := (iv_in (n := 300) i13 (by decide))
                    refine th_iast hx hb hK hP (WX_D hD) hS hI 24 (Nat.le_of_ble_eq_true rfl) rfl rfl n41 (okI rfl f16) dX13_result_72 (fun H locs E42 pw43 hI hP hS => ?_)
                    have hKp := hKp.pw pw43 rfl
                    obtain ⟨g44, eg44⟩ : ∃ z : Nat → Int32, z = upd g2 y1.toNatClampNeg a0 := ⟨_, rfl⟩
                    have hg44 : xi (E42 24) = g44 := by rw [pw43.eu, ((pw8.ef 24 (Nat.ne_of_beq_eq_false rfl)).trans hg2), eg44]
                    refine lv_aload_n hx hb dX13_result_73 rfl (lv_at hl 0 rfl) ?_
                    refine th_get (ci := 14) (C := RX13) (T := TX13) (N := 97) (v := .ref (ad 25)) hx hb hts hinX13 hown hK hP hI 0 (Nat.le_of_ble_eq_true rfl) rfl rfl 39 (Nat.le_of_ble_eq_true rfl) (hts _ (vA_in _ _ (in_28 _ (zs4 (zs4 (zs4 (zs1 (zs1 (zs1 (zs0)))))))))) (fun _ h9 => h9) (hI.fr 0 (Nat.le_of_ble_eq_true rfl) rfl (Nat.le_of_ble_eq_true rfl) 25 rfl) dX13_result_74 ?_
                    refine lv_aload_n hx hb dX13_result_77 rfl (lv_at hl 0 rfl) ?_
                    refine th_get (ci := 14) (C := RX13) (T := TX13) (N := 97) (v := .int y1) hx hb hts hinX13 hown hK hP hI 0 (Nat.le_of_ble_eq_true rfl) rfl rfl 47 (Nat.le_of_ble_eq_true rfl) (hts _ (vA_in _ _ (in_28 _ (zs4 (zs4 (zs4 (zs1 (zs0)))))))) (fun _ h9 => h9) ((pw43.2 0 47 (fun q9 => absurd q9.1 (Nat.ne_of_beq_eq_false rfl))).trans ((pw8.2 0 47 (fun q9 => absurd q9.2 (Nat.ne_of_beq_eq_false rfl))).trans fy1)) dX13_result_78 ?_
                    refine lv_iload_n hx hb dX13_result_81 rfl (lv_at hl 2 rfl) ?_
                    have n45 : vp_in y1 300 := (iv_in (n := 300) i13 (by decide))
                    refine th_iast hx hb hK hP (WX_D hD) hS hI 25 (Nat.le_of_ble_eq_true rfl) rfl rfl n45 (okI rfl f17) dX13_result_82 (fun H locs E46 pw47 hI hP hS => ?_)
                    have hKp := hKp.pw pw47 rfl
                    obtain ⟨g48, eg48⟩ : ∃ z : Nat → Int32, z = upd g3 y1.toNatClampNeg a1 := ⟨_, rfl⟩
                    have hg48 : xi (E46 25) = g48 := by rw [pw47.eu, ((pw43.ef 25 (Nat.ne_of_beq_eq_false rfl)).trans ((pw8.ef 25 (Nat.ne_of_beq_eq_false rfl)).trans hg3)), eg48]
                    refine lv_aload_n hx hb dX13_result_83 rfl (lv_at hl 0 rfl) ?_
                    refine th_get (ci := 14) (C := RX13) (T := TX13) (N := 97) (v := .ref (ad 26)) hx hb hts hinX13 hown hK hP hI 0 (Nat.le_of_ble_eq_true rfl) rfl rfl 40 (Nat.le_of_ble_eq_true rfl) (hts _ (vA_in _ _ (in_28 _ zs0))) (fun _ h9 => h9) (hI.fr 0 (Nat.le_of_ble_eq_true rfl) rfl (Nat.le_of_ble_eq_true rfl) 26 rfl) dX13_result_84 ?_
                    refine lv_aload_n hx hb dX13_result_87 rfl (lv_at hl 0 rfl) ?_
                    refine th_get (ci := 14) (C := RX13) (T := TX13) (N := 97) (v := .int y1) hx hb hts hinX13 hown hK hP hI 0 (Nat.le_of_ble_eq_true rfl) rfl rfl 47 (Nat.le_of_ble_eq_true rfl) (hts _ (vA_in _ _ (in_28 _ (zs4 (zs4 (zs4 (zs1 (zs0)))))))) (fun _ h9 => h9) ((pw47.2 0 47 (fun q9 => absurd q9.1 (Nat.ne_of_beq_eq_false rfl))).trans ((pw43.2 0 47 (fun q9 => absurd q9.1 (Nat.ne_of_beq_eq_false rfl))).trans ((pw8.2 0 47 (fun q9 => absurd q9.2 (Nat.ne_of_beq_eq_false rfl))).trans fy1))) dX13_result_88 ?_
                    refine lv_iload_n hx hb dX13_result_91 rfl (lv_at hl 3 rfl) ?_
                    have n49 : vp_in y1 300 := (iv_in (n := 300) i13 (by decide))
                    refine th_iast hx hb hK hP (WX_D hD) hS hI 26 (Nat.le_of_ble_eq_true rfl) rfl rfl n49 (okI rfl (iv_w i31 (by decide))) dX13_result_92 (fun H locs E50 pw51 hI hP hS => ?_)
                    have hKp := hKp.pw pw51 rfl
                    obtain ⟨g52, eg52⟩ : ∃ z : Nat → Int32, z = upd g4 y1.toNatClampNeg a2 := ⟨_, rfl⟩
                    have hg52 : xi (E50 26) = g52 := by rw [pw51.eu, ((pw47.ef 26 (Nat.ne_of_beq_eq_false rfl)).trans ((pw43.ef 26 (Nat.ne_of_beq_eq_false rfl)).trans ((pw8.ef 26 (Nat.ne_of_beq_eq_false rfl)).trans hg4))), eg52]
                    refine lv_aload_n hx hb dX13_result_93 rfl (lv_at hl 0 rfl) ?_
                    refine th_get (ci := 14) (C := RX13) (T := TX13) (N := 97) (v := .ref (ad 27)) hx hb hts hinX13 hown hK hP hI 0 (Nat.le_of_ble_eq_true rfl) rfl rfl 41 (Nat.le_of_ble_eq_true rfl) (hts _ (vA_in _ _ (in_28 _ (zs16 (zs4 (zs1 (zs0))))))) (fun _ h9 => h9) (hI.fr 0 (Nat.le_of_ble_eq_true rfl) rfl (Nat.le_of_ble_eq_true rfl) 27 rfl) dX13_result_94 ?_
                    refine lv_aload_n hx hb dX13_result_97 rfl (lv_at hl 0 rfl) ?_
                    refine th_get (ci := 14) (C := RX13) (T := TX13) (N := 97) (v := .int y1) hx hb hts hinX13 hown hK hP hI 0 (Nat.le_of_ble_eq_true rfl) rfl rfl 47 (Nat.le_of_ble_eq_true rfl) (hts _ (vA_in _ _ (in_28 _ (zs4 (zs4 (zs4 (zs1 (zs0)))))))) (fun _ h9 => h9) ((pw51.2 0 47 (fun q9 => absurd q9.1 (Nat.ne_of_beq_eq_false rfl))).trans ((pw47.2 0 47 (fun q9 => absurd q9.1 (Nat.ne_of_beq_eq_false rfl))).trans ((pw43.2 0 47 (fun q9 => absurd q9.1 (Nat.ne_of_beq_eq_false rfl))).trans ((pw8.2 0 47 (fun q9 => absurd q9.2 (Nat.ne_of_beq_eq_false rfl))).trans fy1)))) dX13_result_98 ?_
                    refine lv_iload hx hb dX13_result_101 (lv_at hl 4 rfl) ?_
                    have n53 : vp_in y1 300 := (iv_in (n := 300) i13 (by decide))
                    refine th_iast hx hb hK hP (WX_D hD) hS hI 27 (Nat.le_of_ble_eq_true rfl) rfl rfl n53 (okI rfl (iv_w i39 (by decide))) dX13_result_103 (fun H locs E54 pw55 hI hP hS => ?_)
                    have hKp := hKp.pw pw55 rfl
                    obtain ⟨g56, eg56⟩ : ∃ z : Nat → Int32, z = upd g5 y1.toNatClampNeg a3 := ⟨_, rfl⟩
                    have hg56 : xi (E54 27) = g56 := by rw [pw55.eu, ((pw51.ef 27 (Nat.ne_of_beq_eq_false rfl)).trans ((pw47.ef 27 (Nat.ne_of_beq_eq_false rfl)).trans ((pw43.ef 27 (Nat.ne_of_beq_eq_false rfl)).trans ((pw8.ef 27 (Nat.ne_of_beq_eq_false rfl)).trans hg5)))), eg56]
                    refine lv_aload_n hx hb dX13_result_104 rfl (lv_at hl 0 rfl) ?_
                    refine th_get (ci := 14) (C := RX13) (T := TX13) (N := 97) (v := .ref (ad 28)) hx hb hts hinX13 hown hK hP hI 0 (Nat.le_of_ble_eq_true rfl) rfl rfl 42 (Nat.le_of_ble_eq_true rfl) (hts _ (vA_in _ _ (in_28 _ (zs16 (zs0))))) (fun _ h9 => h9) (hI.fr 0 (Nat.le_of_ble_eq_true rfl) rfl (Nat.le_of_ble_eq_true rfl) 28 rfl) dX13_result_105 ?_
                    refine lv_aload_n hx hb dX13_result_108 rfl (lv_at hl 0 rfl) ?_
                    refine th_get (ci := 14) (C := RX13) (T := TX13) (N := 97) (v := .int y1) hx hb hts hinX13 hown hK hP hI 0 (Nat.le_of_ble_eq_true rfl) rfl rfl 47 (Nat.le_of_ble_eq_true rfl) (hts _ (vA_in _ _ (in_28 _ (zs4 (zs4 (zs4 (zs1 (zs0)))))))) (fun _ h9 => h9) ((pw55.2 0 47 (fun q9 => absurd q9.1 (Nat.ne_of_beq_eq_false rfl))).trans ((pw51.2 0 47 (fun q9 => absurd q9.1 (Nat.ne_of_beq_eq_false rfl))).trans ((pw47.2 0 47 (fun q9 => absurd q9.1 (Nat.ne_of_beq_eq_false rfl))).trans ((pw43.2 0 47 (fun q9 => absurd q9.1 (Nat.ne_of_beq_eq_false rfl))).trans ((pw8.2 0 47 (fun q9 => absurd q9.2 (Nat.ne_of_beq_eq_false rfl))).trans fy1))))) dX13_result_109 ?_
                    refine lv_aload_n hx hb dX13_result_112 rfl (lv_at hl 0 rfl) ?_
                    refine th_get (ci := 14) (C := RX13) (T := TX13) (N := 97) (v := .int (xi (E 0) 1)) hx hb hts hinX13 hown hK hP hI 0 (Nat.le_of_ble_eq_true rfl) rfl rfl 1 (Nat.le_of_ble_eq_true rfl) (hts _ (vA_in _ _ (in_24 _ (zs16 (zs4 (zs4 (zs1 (zs1 (zs1 (zs0)))))))))) (fun _ h9 => h9) (th_v0 hKp hI0 0 (Nat.le_of_ble_eq_true rfl) rfl (Nat.le_of_ble_eq_true rfl) rfl rfl) dX13_result_113 ?_
                    have n57 : vp_in y1 300 := (iv_in (n := 300) i13 (by decide))
                    refine th_iast hx hb hK hP (WX_D hD) hS hI 28 (Nat.le_of_ble_eq_true rfl) rfl rfl n57 (okI rfl i20) dX13_result_116 (fun H locs E58 pw59 hI hP hS => ?_)
                    have hKp := hKp.pw pw59 rfl
                    obtain ⟨g60, eg60⟩ : ∃ z : Nat → Int32, z = upd g6 y1.toNatClampNeg (xi (E 0) 1) := ⟨_, rfl⟩
                    have hg60 : xi (E58 28) = g60 := by rw [pw59.eu, ((pw55.ef 28 (Nat.ne_of_beq_eq_false rfl)).trans ((pw51.ef 28 (Nat.ne_of_beq_eq_false rfl)).trans ((pw47.ef 28 (Nat.ne_of_beq_eq_false rfl)).trans ((pw43.ef 28 (Nat.ne_of_beq_eq_false rfl)).trans ((pw8.ef 28 (Nat.ne_of_beq_eq_false rfl)).trans hg6))))), eg60]
                    refine lv_aload_n hx hb dX13_result_117 rfl (lv_at hl 0 rfl) ?_
                    refine lv_dup hx hb dX13_result_118 rfl ?_
                    refine th_get (ci := 14) (C := RX13) (T := TX13) (N := 97) (v := .int y1) hx hb hts hinX13 hown hK hP hI 0 (Nat.le_of_ble_eq_true rfl) rfl rfl 47 (Nat.le_of_ble_eq_true rfl) (hts _ (vA_in _ _ (in_28 _ (zs4 (zs4 (zs4 (zs1 (zs0)))))))) (fun _ h9 => h9) ((pw59.2 0 47 (fun q9 => absurd q9.1 (Nat.ne_of_beq_eq_false rfl))).trans ((pw55.2 0 47 (fun q9 => absurd q9.1 (Nat.ne_of_beq_eq_false rfl))).trans ((pw51.2 0 47 (fun q9 => absurd q9.1 (Nat.ne_of_beq_eq_false rfl))).trans ((pw47.2 0 47 (fun q9 => absurd q9.1 (Nat.ne_of_beq_eq_false rfl))).trans ((pw43.2 0 47 (fun q9 => absurd q9.1 (Nat.ne_of_beq_eq_false rfl))).trans ((pw8.2 0 47 (fun q9 => absurd q9.2 (Nat.ne_of_beq_eq_false rfl))).trans fy1)))))) dX13_result_119 ?_
                    refine lv_iconst (v := 1) hx hb dX13_result_122 (by decide) ?_
                    refine lv_iadd hx hb dX13_result_123 ?_
                    refine lv_topi (fun y61 ey61 => ?_)
                    obtain ⟨ty61, iy61⟩ := ti_add (e := 1) (f := 300) i13 ln_1 ey61 (by decide)
                    have ty61 : y61.toInt = y1.toInt + 1 := ty61
                    have iy61 : 1 ≤ y61.toInt ∧ y61.toInt ≤ 300 := iy61
                    refine th_put (ci := 14) (C := RX13) (T := TX13) (N := 97) (v := .int y61) (ty := .int) hx hb hts hinX13 tyX13 tyX13_ok nmX13 hown hK hP (WX_D hD) hS hI 0 (Nat.le_of_ble_eq_true rfl) rfl rfl 47 (Nat.le_of_ble_eq_true rfl) (hts _ (vA_in _ _ (in_28 _ (zs4 (zs4 (zs4 (zs1 (zs0)))))))) (fun _ h9 => h9) rfl (by decide +kernel) rfl rfl (okI rfl (iv_w iy61 (by decide))) dX13_result_124 (fun H locs E62 pw63 hI hP hS => ?_)
                    have hKp := hKp.pw pw63 rfl
                    refine lv_iconst (v := 1) hx hb dX13_result_127 (by decide) ?_
                    rw [hQ]
                    exact W.zret (v := 1) hx hb hr rfl (fun t ht hW => ⟨⟨1, E62, rfl, ⟨hI, hKp, ⟨by have h8 := ln_1; (try rw [(show xi (E62 0) 47 = y61 from vi_e pw63.1)]); (try rw [ey1]); all_goals omega, ⟨fun _ => ⟨(show xi (E62 24) = g44 from ((pw63.ef 24 (Nat.ne_of_beq_eq_false rfl)).trans ((pw59.ef 24 (Nat.ne_of_beq_eq_false rfl)).trans ((pw55.ef 24 (Nat.ne_of_beq_eq_false rfl)).trans ((pw51.ef 24 (Nat.ne_of_beq_eq_false rfl)).trans ((pw47.ef 24 (Nat.ne_of_beq_eq_false rfl)).trans hg44)))))).trans (by rw [eg44, show xi (E 24) = g2 from hg2, ey1]), (show xi (E62 25) = g48 from ((pw63.ef 25 (Nat.ne_of_beq_eq_false rfl)).trans ((pw59.ef 25 (Nat.ne_of_beq_eq_false rfl)).trans ((pw55.ef 25 (Nat.ne_of_beq_eq_false rfl)).trans ((pw51.ef 25 (Nat.ne_of_beq_eq_false rfl)).trans hg48))))).trans (by rw [eg48, show xi (E 25) = g3 from hg3, ey1]), (show xi (E62 26) = g52 from ((pw63.ef 26 (Nat.ne_of_beq_eq_false rfl)).trans ((pw59.ef 26 (Nat.ne_of_beq_eq_false rfl)).trans ((pw55.ef 26 (Nat.ne_of_beq_eq_false rfl)).trans hg52)))).trans (by rw [eg52, show xi (E 26) = g4 from hg4, ey1]), (show xi (E62 27) = g56 from ((pw63.ef 27 (Nat.ne_of_beq_eq_false rfl)).trans ((pw59.ef 27 (Nat.ne_of_beq_eq_false rfl)).trans hg56))).trans (by rw [eg56, show xi (E 27) = g5 from hg5, ey1]), (show xi (E62 28) = g60 from ((pw63.ef 28 (Nat.ne_of_beq_eq_false rfl)).trans hg60)).trans (by rw [eg60, show xi (E 28) = g6 from hg6, ey1])⟩, fun g9 => by exfalso; exact g9 (by (try rw [ey1]); omega)⟩⟩⟩, by show va_P (dC, dI) vwCl (WX 72 ad E62) t.heap; rw [ht]; exact hP⟩, hS.F ht⟩) hS.2.2 dX13_result_128
                  · --58 not
                    exact absurd c40 (by decide)
                · -- isIn, case 1
                  obtain ⟨rfl, f64⟩ := hw
                  have t65 : ¬ ((0 : Int) ≤ a3.toInt ∧ a3.toInt ≤ 0) := f64
                  refine lv_if_ne (tgt := 63) hx hb dX13_result_58 (by decide) (fun c66 => ?_) (fun c66 => ?_)
                  · --58 taken
                    exact absurd c66 (by decide)
                  · --58 not
                    refine lv_iconst (v := 0) hx hb dX13_result_61 (by decide) ?_
                    rw [hQ]
                    exact W.zret (v := 0) hx hb hr rfl (fun t ht hW => ⟨⟨0, E7, rfl, ⟨hI, hKp, ⟨by have h8 := ln_0; (try rw [(show xi (E7 0) 47 = y1 from vi_e ((pw8.2 0 47 (fun q9 => absurd q9.2 (Nat.ne_of_beq_eq_false rfl))).trans fy1))]); (try rw [ey1]); all_goals omega, ⟨fun g9 => by exfalso; (try rw [ey1] at g9); omega, fun _ => ⟨(show xi (E7 24) = g2 from ((pw8.ef 24 (Nat.ne_of_beq_eq_false rfl)).trans hg2)).trans (show xi (E 24) = g2 from hg2).symm, (show xi (E7 25) = g3 from ((pw8.ef 25 (Nat.ne_of_beq_eq_false rfl)).trans hg3)).trans (show xi (E 25) = g3 from hg3).symm, (show xi (E7 26) = g4 from ((pw8.ef 26 (Nat.ne_of_beq_eq_false rfl)).trans hg4)).trans (show xi (E 26) = g4 from hg4).symm, (show xi (E7 27) = g5 from ((pw8.ef 27 (Nat.ne_of_beq_eq_false rfl)).trans hg5)).trans (show xi (E 27) = g5 from hg5).symm, (show xi (E7 28) = g6 from ((pw8.ef 28 (Nat.ne_of_beq_eq_false rfl)).trans hg6)).trans (show xi (E 28) = g6 from hg6).symm⟩⟩⟩⟩, by show va_P (dC, dI) vwCl (WX 72 ad E7) t.heap; rw [ht]; exact hP⟩, hS.F ht⟩) hS.2.2 dX13_result_62
              · --45 not
                have t67 : a2.toInt = 0 := ti_eq c32
                have i68 : 1 ≤ a2.toInt ∧ a2.toInt ≤ 0 := iv_eqi t67 i31 (il_ 0) (by decide)
                exact iv_no i68 (by decide)
            · --36 not
              have t69 : a2.toInt = 0 := ti_eq c29
              have i70 : 0 ≤ a2.toInt ∧ a2.toInt ≤ 0 := iv_eqi t69 i27 (il_ 0) (by decide)
              refine lv_iconst (v := 1) hx hb dX13_result_39 (by decide) ?_
              refine lv_goto (tgt := 44) hx hb dX13_result_40 (by decide) ?_
              refine lv_iload_n hx hb dX13_result_44 rfl (lv_at hl 3 rfl) ?_
              refine lv_if_ne (tgt := 54) hx hb dX13_result_45 (by decide) (fun c71 => ?_) (fun c71 => ?_)
              · --45 taken
                have t72 : ¬ a2.toInt = 0 := ti_ne c71
                have i73 : 1 ≤ a2.toInt ∧ a2.toInt ≤ 0 := iv_ne_l t72 i70 (il_ 0)
                exact iv_no i73 (by decide)
              · --45 not
                have t74 : a2.toInt = 0 := ti_eq c71
                refine lv_ldcw hx hb hown (hts _ (vA_in _ _ (in_33 _ (zs16 (zs4 (zs1 (zs1 (zs1 (zs0))))))))) dX13_result_48 ?_
                refine lv_goto (tgt := 55) hx hb dX13_result_51 (by decide) ?_
                refine th_pi (va_runS (As := [.int a3, .int 1, .int 200000]) (rest := []) ⟨hx, hb, hml, hown, hts⟩ (q_isIn l a3 (1 : Int32) (200000 : Int32)) (va_cwS 3 hts (gi_S (in_24 _ (zs16 (zs4 (zs4 (zs4 (zs0)))))) (in_24 _ (zs16 (zs4 (zs4 (zs4 (zs1 (zs0))))))) (in_24 _ (zs4 (zs4 (zs4 (zs1 (zs1 (zs1 (zs0)))))))) (in_24 _ (zs16 (zs4 (zs4 (zs4 (zs1 (zs1 (zs0))))))))) rfl rfl rfl hz_yX13_isIn_3 ⟨Nat.le_of_ble_eq_true rfl, Nat.le_of_ble_eq_true rfl⟩) ⟨fun _ _ _ _ q => q, fun _ _ _ => ⟨rfl, trivial⟩⟩ rfl rfl hl.1 rfl (lv_room (Nat.le_of_ble_eq_true rfl)) dX13_result_55 ⟨Nat.le_of_ble_eq_true rfl, Nat.le_of_ble_eq_true rfl⟩) hS (fun r75 H1 locs1 hw hk1 hS => ?_)
                have hP := ub_keep hP hk1
                generalize H1 = H at hP hS ⊢
                generalize locs1 = locs at hS ⊢
                rcases hw with hw | hw
                · -- isIn, case 0
                  obtain ⟨rfl, f76⟩ := hw
                  have t77 : (1 : Int) ≤ a3.toInt := f76.1
                  have t78 : a3.toInt ≤ 200000 := f76.2
                  have i79 : 1 ≤ a3.toInt ∧ a3.toInt ≤ 2147483647 := iv_le_r t77 (il_ 1) (iv_all _) (by decide)
                  have i80 : 1 ≤ a3.toInt ∧ a3.toInt ≤ 200000 := iv_le_l t78 i79 (il_ 200000) (by decide)
                  refine lv_if_ne (tgt := 63) hx hb dX13_result_58 (by decide) (fun c81 => ?_) (fun c81 => ?_)
                  · --58 taken
                    refine lv_aload_n hx hb dX13_result_63 rfl (lv_at hl 0 rfl) ?_
                    refine th_get (ci := 14) (C := RX13) (T := TX13) (N := 97) (v := .ref (ad 24)) hx hb hts hinX13 hown hK hP hI 0 (Nat.le_of_ble_eq_true rfl) rfl rfl 38 (Nat.le_of_ble_eq_true rfl) (hts _ (vA_in _ _ (in_28 _ (zs4 (zs4 (zs4 (zs1 (zs1 (zs0))))))))) (fun _ h9 => h9) (hI.fr 0 (Nat.le_of_ble_eq_true rfl) rfl (Nat.le_of_ble_eq_true rfl) 24 rfl) dX13_result_64 ?_
                    refine lv_aload_n hx hb dX13_result_67 rfl (lv_at hl 0 rfl) ?_
                    refine th_get (ci := 14) (C := RX13) (T := TX13) (N := 97) (v := .int y1) hx hb hts hinX13 hown hK hP hI 0 (Nat.le_of_ble_eq_true rfl) rfl rfl 47 (Nat.le_of_ble_eq_true rfl) (hts _ (vA_in _ _ (in_28 _ (zs4 (zs4 (zs4 (zs1 (zs0)))))))) (fun _ h9 => h9) ((pw8.2 0 47 (fun q9 => absurd q9.2 (Nat.ne_of_beq_eq_false rfl))).trans fy1) dX13_result_68 ?_
                    refine lv_iload_n hx hb dX13_result_71 rfl (lv_at hl 1 rfl) ?_
                    have n82 : vp_in y1 300 := (iv_in (n := 300) i13 (by decide))
                    refine th_iast hx hb hK hP (WX_D hD) hS hI 24 (Nat.le_of_ble_eq_true rfl) rfl rfl n82 (okI rfl f16) dX13_result_72 (fun H locs E83 pw84 hI hP hS => ?_)
                    have hKp := hKp.pw pw84 rfl
                    obtain ⟨g85, eg85⟩ : ∃ z : Nat → Int32, z = upd g2 y1.toNatClampNeg a0 := ⟨_, rfl⟩
                    have hg85 : xi (E83 24) = g85 := by rw [pw84.eu, ((pw8.ef 24 (Nat.ne_of_beq_eq_false rfl)).trans hg2), eg85]
                    refine lv_aload_n hx hb dX13_result_73 rfl (lv_at hl 0 rfl) ?_
                    refine th_get (ci := 14) (C := RX13) (T := TX13) (N := 97) (v := .ref (ad 25)) hx hb hts hinX13 hown hK hP hI 0 (Nat.le_of_ble_eq_true rfl) rfl rfl 39 (Nat.le_of_ble_eq_true rfl) (hts _ (vA_in _ _ (in_28 _ (zs4 (zs4 (zs4 (zs1 (zs1 (zs1 (zs0)))))))))) (fun _ h9 => h9) (hI.fr 0 (Nat.le_of_ble_eq_true rfl) rfl (Nat.le_of_ble_eq_true rfl) 25 rfl) dX13_result_74 ?_
                    refine lv_aload_n hx hb dX13_result_77 rfl (lv_at hl 0 rfl) ?_
                    refine th_get (ci := 14) (C := RX13) (T := TX13) (N := 97) (v := .int y1) hx hb hts hinX13 hown hK hP hI 0 (Nat.le_of_ble_eq_true rfl) rfl rfl 47 (Nat.le_of_ble_eq_true rfl) (hts _ (vA_in _ _ (in_28 _ (zs4 (zs4 (zs4 (zs1 (zs0)))))))) (fun _ h9 => h9) ((pw84.2 0 47 (fun q9 => absurd q9.1 (Nat.ne_of_beq_eq_false rfl))).trans ((pw8.2 0 47 (fun q9 => absurd q9.2 (Nat.ne_of_beq_eq_false rfl))).trans fy1)) dX13_result_78 ?_
                    refine lv_iload_n hx hb dX13_result_81 rfl (lv_at hl 2 rfl) ?_
                    have n86 : vp_in y1 300 := (iv_in (n := 300) i13 (by decide))
                    refine th_iast hx hb hK hP (WX_D hD) hS hI 25 (Nat.le_of_ble_eq_true rfl) rfl rfl n86 (okI rfl f17) dX13_result_82 (fun H locs E87 pw88 hI hP hS => ?_)
                    have hKp := hKp.pw pw88 rfl
                    obtain ⟨g89, eg89⟩ : ∃ z : Nat → Int32, z = upd g3 y1.toNatClampNeg a1 := ⟨_, rfl⟩
                    have hg89 : xi (E87 25) = g89 := by rw [pw88.eu, ((pw84.ef 25 (Nat.ne_of_beq_eq_false rfl)).trans ((pw8.ef 25 (Nat.ne_of_beq_eq_false rfl)).trans hg3)), eg89]
                    refine lv_aload_n hx hb dX13_result_83 rfl (lv_at hl 0 rfl) ?_
                    refine th_get (ci := 14) (C := RX13) (T := TX13) (N := 97) (v := .ref (ad 26)) hx hb hts hinX13 hown hK hP hI 0 (Nat.le_of_ble_eq_true rfl) rfl rfl 40 (Nat.le_of_ble_eq_true rfl) (hts _ (vA_in _ _ (in_28 _ zs0))) (fun _ h9 => h9) (hI.fr 0 (Nat.le_of_ble_eq_true rfl) rfl (Nat.le_of_ble_eq_true rfl) 26 rfl) dX13_result_84 ?_
                    refine lv_aload_n hx hb dX13_result_87 rfl (lv_at hl 0 rfl) ?_
                    refine th_get (ci := 14) (C := RX13) (T := TX13) (N := 97) (v := .int y1) hx hb hts hinX13 hown hK hP hI 0 (Nat.le_of_ble_eq_true rfl) rfl rfl 47 (Nat.le_of_ble_eq_true rfl) (hts _ (vA_in _ _ (in_28 _ (zs4 (zs4 (zs4 (zs1 (zs0)))))))) (fun _ h9 => h9) ((pw88.2 0 47 (fun q9 => absurd q9.1 (Nat.ne_of_beq_eq_false rfl))).trans ((pw84.2 0 47 (fun q9 => absurd q9.1 (Nat.ne_of_beq_eq_false rfl))).trans ((pw8.2 0 47 (fun q9 => absurd q9.2 (Nat.ne_of_beq_eq_false rfl))).trans fy1))) dX13_result_88 ?_
                    refine lv_iload_n hx hb dX13_result_91 rfl (lv_at hl 3 rfl) ?_
                    have n90 : vp_in y1 300 := (iv_in (n := 300) i13 (by decide))
                    refine th_iast hx hb hK hP (WX_D hD) hS hI 26 (Nat.le_of_ble_eq_true rfl) rfl rfl n90 (okI rfl (iv_w i70 (by decide))) dX13_result_92 (fun H locs E91 pw92 hI hP hS => ?_)
                    have hKp := hKp.pw pw92 rfl
                    obtain ⟨g93, eg93⟩ : ∃ z : Nat → Int32, z = upd g4 y1.toNatClampNeg a2 := ⟨_, rfl⟩
                    have hg93 : xi (E91 26) = g93 := by rw [pw92.eu, ((pw88.ef 26 (Nat.ne_of_beq_eq_false rfl)).trans ((pw84.ef 26 (Nat.ne_of_beq_eq_false rfl)).trans ((pw8.ef 26 (Nat.ne_of_beq_eq_false rfl)).trans hg4))), eg93]
                    refine lv_aload_n hx hb dX13_result_93 rfl (lv_at hl 0 rfl) ?_
                    refine th_get (ci := 14) (C := RX13) (T := TX13) (N := 97) (v := .ref (ad 27)) hx hb hts hinX13 hown hK hP hI 0 (Nat.le_of_ble_eq_true rfl) rfl rfl 41 (Nat.le_of_ble_eq_true rfl) (hts _ (vA_in _ _ (in_28 _ (zs16 (zs4 (zs1 (zs0))))))) (fun _ h9 => h9) (hI.fr 0 (Nat.le_of_ble_eq_true rfl) rfl (Nat.le_of_ble_eq_true rfl) 27 rfl) dX13_result_94 ?_
                    refine lv_aload_n hx hb dX13_result_97 rfl (lv_at hl 0 rfl) ?_
                    refine th_get (ci := 14) (C := RX13) (T := TX13) (N := 97) (v := .int y1) hx hb hts hinX13 hown hK hP hI 0 (Nat.le_of_ble_eq_true rfl) rfl rfl 47 (Nat.le_of_ble_eq_true rfl) (hts _ (vA_in _ _ (in_28 _ (zs4 (zs4 (zs4 (zs1 (zs0)))))))) (fun _ h9 => h9) ((pw92.2 0 47 (fun q9 => absurd q9.1 (Nat.ne_of_beq_eq_false rfl))).trans ((pw88.2 0 47 (fun q9 => absurd q9.1 (Nat.ne_of_beq_eq_false rfl))).trans ((pw84.2 0 47 (fun q9 => absurd q9.1 (Nat.ne_of_beq_eq_false rfl))).trans ((pw8.2 0 47 (fun q9 => absurd q9.2 (Nat.ne_of_beq_eq_false rfl))).trans fy1)))) dX13_result_98 ?_
                    refine lv_iload hx hb dX13_result_101 (lv_at hl 4 rfl) ?_
                    have n94 : vp_in y1 300 := (iv_in (n := 300) i13 (by decide))
                    refine th_iast hx hb hK hP (WX_D hD) hS hI 27 (Nat.le_of_ble_eq_true rfl) rfl rfl n94 (okI rfl (iv_w i80 (by decide))) dX13_result_103 (fun H locs E95 pw96 hI hP hS => ?_)
                    have hKp := hKp.pw pw96 rfl
                    obtain ⟨g97, eg97⟩ : ∃ z : Nat → Int32, z = upd g5 y1.toNatClampNeg a3 := ⟨_, rfl⟩
                    have hg97 : xi (E95 27) = g97 := by rw [pw96.eu, ((pw92.ef 27 (Nat.ne_of_beq_eq_false rfl)).trans ((pw88.ef 27 (Nat.ne_of_beq_eq_false rfl)).trans ((pw84.ef 27 (Nat.ne_of_beq_eq_false rfl)).trans ((pw8.ef 27 (Nat.ne_of_beq_eq_false rfl)).trans hg5)))), eg97]
                    refine lv_aload_n hx hb dX13_result_104 rfl (lv_at hl 0 rfl) ?_
                    refine th_get (ci := 14) (C := RX13) (T := TX13) (N := 97) (v := .ref (ad 28)) hx hb hts hinX13 hown hK hP hI 0 (Nat.le_of_ble_eq_true rfl) rfl rfl 42 (Nat.le_of_ble_eq_true rfl) (hts _ (vA_in _ _ (in_28 _ (zs16 (zs0))))) (fun _ h9 => h9) (hI.fr 0 (Nat.le_of_ble_eq_true rfl) rfl (Nat.le_of_ble_eq_true rfl) 28 rfl) dX13_result_105 ?_
                    refine lv_aload_n hx hb dX13_result_108 rfl (lv_at hl 0 rfl) ?_
                    refine th_get (ci := 14) (C := RX13) (T := TX13) (N := 97) (v := .int y1) hx hb hts hinX13 hown hK hP hI 0 (Nat.le_of_ble_eq_true rfl) rfl rfl 47 (Nat.le_of_ble_eq_true rfl) (hts _ (vA_in _ _ (in_28 _ (zs4 (zs4 (zs4 (zs1 (zs0)))))))) (fun _ h9 => h9) ((pw96.2 0 47 (fun q9 => absurd q9.1 (Nat.ne_of_beq_eq_false rfl))).trans ((pw92.2 0 47 (fun q9 => absurd q9.1 (Nat.ne_of_beq_eq_false rfl))).trans ((pw88.2 0 47 (fun q9 => absurd q9.1 (Nat.ne_of_beq_eq_false rfl))).trans ((pw84.2 0 47 (fun q9 => absurd q9.1 (Nat.ne_of_beq_eq_false rfl))).trans ((pw8.2 0 47 (fun q9 => absurd q9.2 (Nat.ne_of_beq_eq_false rfl))).trans fy1))))) dX13_result_109 ?_
                    refine lv_aload_n hx hb dX13_result_112 rfl (lv_at hl 0 rfl) ?_
                    refine th_get (ci := 14) (C := RX13) (T := TX13) (N := 97) (v := .int (xi (E 0) 1)) hx hb hts hinX13 hown hK hP hI 0 (Nat.le_of_ble_eq_true rfl) rfl rfl 1 (Nat.le_of_ble_eq_true rfl) (hts _ (vA_in _ _ (in_24 _ (zs16 (zs4 (zs4 (zs1 (zs1 (zs1 (zs0)))))))))) (fun _ h9 => h9) (th_v0 hKp hI0 0 (Nat.le_of_ble_eq_true rfl) rfl (Nat.le_of_ble_eq_true rfl) rfl rfl) dX13_result_113 ?_
                    have n98 : vp_in y1 300 := (iv_in (n := 300) i13 (by decide))
                    refine th_iast hx hb hK hP (WX_D hD) hS hI 28 (Nat.le_of_ble_eq_true rfl) rfl rfl n98 (okI rfl i20) dX13_result_116 (fun H locs E99 pw100 hI hP hS => ?_)
                    have hKp := hKp.pw pw100 rfl
                    obtain ⟨g101, eg101⟩ : ∃ z : Nat → Int32, z = upd g6 y1.toNatClampNeg (xi (E 0) 1) := ⟨_, rfl⟩
                    have hg101 : xi (E99 28) = g101 := by rw [pw100.eu, ((pw96.ef 28 (Nat.ne_of_beq_eq_false rfl)).trans ((pw92.ef 28 (Nat.ne_of_beq_eq_false rfl)).trans ((pw88.ef 28 (Nat.ne_of_beq_eq_false rfl)).trans ((pw84.ef 28 (Nat.ne_of_beq_eq_false rfl)).trans ((pw8.ef 28 (Nat.ne_of_beq_eq_false rfl)).trans hg6))))), eg101]
                    refine lv_aload_n hx hb dX13_result_117 rfl (lv_at hl 0 rfl) ?_
                    refine lv_dup hx hb dX13_result_118 rfl ?_
                    refine th_get (ci := 14) (C := RX13) (T := TX13) (N := 97) (v := .int y1) hx hb hts hinX13 hown hK hP hI 0 (Nat.le_of_ble_eq_true rfl) rfl rfl 47 (Nat.le_of_ble_eq_true rfl) (hts _ (vA_in _ _ (in_28 _ (zs4 (zs4 (zs4 (zs1 (zs0)))))))) (fun _ h9 => h9) ((pw100.2 0 47 (fun q9 => absurd q9.1 (Nat.ne_of_beq_eq_false rfl))).trans ((pw96.2 0 47 (fun q9 => absurd q9.1 (Nat.ne_of_beq_eq_false rfl))).trans ((pw92.2 0 47 (fun q9 => absurd q9.1 (Nat.ne_of_beq_eq_false rfl))).trans ((pw88.2 0 47 (fun q9 => absurd q9.1 (Nat.ne_of_beq_eq_false rfl))).trans ((pw84.2 0 47 (fun q9 => absurd q9.1 (Nat.ne_of_beq_eq_false rfl))).trans ((pw8.2 0 47 (fun q9 => absurd q9.2 (Nat.ne_of_beq_eq_false rfl))).trans fy1)))))) dX13_result_119 ?_
                    refine lv_iconst (v := 1) hx hb dX13_result_122 (by decide) ?_
                    refine lv_iadd hx hb dX13_result_123 ?_
                    refine lv_topi (fun y102 ey102 => ?_)
                    obtain ⟨ty102, iy102⟩ := ti_add (e := 1) (f := 300) i13 ln_1 ey102 (by decide)
                    have ty102 : y102.toInt = y1.toInt + 1 := ty102
                    have iy102 : 1 ≤ y102.toInt ∧ y102.toInt ≤ 300 := iy102
                    refine th_put (ci := 14) (C := RX13) (T := TX13) (N := 97) (v := .int y102) (ty := .int) hx hb hts hinX13 tyX13 tyX13_ok nmX13 hown hK hP (WX_D hD) hS hI 0 (Nat.le_of_ble_eq_true rfl) rfl rfl 47 (Nat.le_of_ble_eq_true rfl) (hts _ (vA_in _ _ (in_28 _ (zs4 (zs4 (zs4 (zs1 (zs0)))))))) (fun _ h9 => h9) rfl (by decide +kernel) rfl rfl (okI rfl (iv_w iy102 (by decide))) dX13_result_124 (fun H locs E103 pw104 hI hP hS => ?_)
                    have hKp := hKp.pw pw104 rfl
                    refine lv_iconst (v := 1) hx hb dX13_result_127 (by decide) ?_
                    rw [hQ]
                    exact W.zret (v := 1) hx hb hr rfl (fun t ht hW => ⟨⟨1, E103, rfl, ⟨hI, hKp, ⟨by have h8 := ln_1; (try rw [(show xi (E103 0) 47 = y102 from vi_e pw104.1)]); (try rw [ey1]); all_goals omega, ⟨fun _ => ⟨(show xi (E103 24) = g85 from ((pw104.ef 24 (Nat.ne_of_beq_eq_false rfl)).trans ((pw100.ef 24 (Nat.ne_of_beq_eq_false rfl)).trans ((pw96.ef 24 (Nat.ne_of_beq_eq_false rfl)).trans ((pw92.ef 24 (Nat.ne_of_beq_eq_false rfl)).trans ((pw88.ef 24 (Nat.ne_of_beq_eq_false rfl)).trans hg85)))))).trans (by rw [eg85, show xi (E 24) = g2 from hg2, ey1]), (show xi (E103 25) = g89 from ((pw104.ef 25 (Nat.ne_of_beq_eq_false rfl)).trans ((pw100.ef 25 (Nat.ne_of_beq_eq_false rfl)).trans ((pw96.ef 25 (Nat.ne_of_beq_eq_false rfl)).trans ((pw92.ef 25 (Nat.ne_of_beq_eq_false rfl)).trans hg89))))).trans (by rw [eg89, show xi (E 25) = g3 from hg3, ey1]), (show xi (E103 26) = g93 from ((pw104.ef 26 (Nat.ne_of_beq_eq_false rfl)).trans ((pw100.ef 26 (Nat.ne_of_beq_eq_false rfl)).trans ((pw96.ef 26 (Nat.ne_of_beq_eq_false rfl)).trans hg93)))).trans (by rw [eg93, show xi (E 26) = g4 from hg4, ey1]), (show xi (E103 27) = g97 from ((pw104.ef 27 (Nat.ne_of_beq_eq_false rfl)).trans ((pw100.ef 27 (Nat.ne_of_beq_eq_false rfl)).trans hg97))).trans (by rw [eg97, show xi (E 27) = g5 from hg5, ey1]), (show xi (E103 28) = g101 from ((pw104.ef 28 (Nat.ne_of_beq_eq_false rfl)).trans hg101)).trans (by rw [eg101, show xi (E 28) = g6 from hg6, ey1])⟩, fun g9 => by exfalso; exact g9 (by (try rw [ey1]); omega)⟩⟩⟩, by show va_P (dC, dI) vwCl (WX 72 ad E103) t.heap; rw [ht]; exact hP⟩, hS.F ht⟩) hS.2.2 dX13_result_128
                  · --58 not
                    exact absurd c81 (by decide)
                · -- isIn, case 1
                  obtain ⟨rfl, f105⟩ := hw
                  have t106 : ¬ ((1 : Int) ≤ a3.toInt ∧ a3.toInt ≤ 200000) := f105
                  refine lv_if_ne (tgt := 63) hx hb dX13_result_58 (by decide) (fun c107 => ?_) (fun c107 => ?_)
                  · --58 taken
                    exact absurd c107 (by decide)
                  · --58 not
                    refine lv_iconst (v := 0) hx hb dX13_result_61 (by decide) ?_
                    rw [hQ]
                    exact W.zret (v := 0) hx hb hr rfl (fun t ht hW => ⟨⟨0, E7, rfl, ⟨hI, hKp, ⟨by have h8 := ln_0; (try rw [(show xi (E7 0) 47 = y1 from vi_e ((pw8.2 0 47 (fun q9 => absurd q9.2 (Nat.ne_of_beq_eq_false rfl))).trans fy1))]); (try rw [ey1]); all_goals omega, ⟨fun g9 => by exfalso; (try rw [ey1] at g9); omega, fun _ => ⟨(show xi (E7 24) = g2 from ((pw8.ef 24 (Nat.ne_of_beq_eq_false rfl)).trans hg2)).trans (show xi (E 24) = g2 from hg2).symm, (show xi (E7 25) = g3 from ((pw8.ef 25 (Nat.ne_of_beq_eq_false rfl)).trans hg3)).trans (show xi (E 25) = g3 from hg3).symm, (show xi (E7 26) = g4 from ((pw8.ef 26 (Nat.ne_of_beq_eq_false rfl)).trans hg4)).trans (show xi (E 26) = g4 from hg4).symm, (show xi (E7 27) = g5 from ((pw8.ef 27 (Nat.ne_of_beq_eq_false rfl)).trans hg5)).trans (show xi (E 27) = g5 from hg5).symm, (show xi (E7 28) = g6 from ((pw8.ef 28 (Nat.ne_of_beq_eq_false rfl)).trans hg6)).trans (show xi (E 28) = g6 from hg6).symm⟩⟩⟩⟩, by show va_P (dC, dI) vwCl (WX 72 ad E7) t.heap; rw [ht]; exact hP⟩, hS.F ht⟩) hS.2.2 dX13_result_62
        · -- isIn, case 1
          obtain ⟨rfl, f108⟩ := hw
          have t109 : ¬ ((0 : Int) ≤ a2.toInt ∧ a2.toInt ≤ 4) := f108
          refine lv_if_eq (tgt := 61) hx hb dX13_result_30 (by decide) (fun c110 => ?_) (fun c110 => ?_)
          · --30 taken
            refine lv_iconst (v := 0) hx hb dX13_result_61 (by decide) ?_
            rw [hQ]
            exact W.zret (v := 0) hx hb hr rfl (fun t ht hW => ⟨⟨0, E7, rfl, ⟨hI, hKp, ⟨by have h8 := ln_0; (try rw [(show xi (E7 0) 47 = y1 from vi_e ((pw8.2 0 47 (fun q9 => absurd q9.2 (Nat.ne_of_beq_eq_false rfl))).trans fy1))]); (try rw [ey1]); all_goals omega, ⟨fun g9 => by exfalso; (try rw [ey1] at g9); omega, fun _ => ⟨(show xi (E7 24) = g2 from ((pw8.ef 24 (Nat.ne_of_beq_eq_false rfl)).trans hg2)).trans (show xi (E 24) = g2 from hg2).symm, (show xi (E7 25) = g3 from ((pw8.ef 25 (Nat.ne_of_beq_eq_false rfl)).trans hg3)).trans (show xi (E 25) = g3 from hg3).symm, (show xi (E7 26) = g4 from ((pw8.ef 26 (Nat.ne_of_beq_eq_false rfl)).trans hg4)).trans (show xi (E 26) = g4 from hg4).symm, (show xi (E7 27) = g5 from ((pw8.ef 27 (Nat.ne_of_beq_eq_false rfl)).trans hg5)).trans (show xi (E 27) = g5 from hg5).symm, (show xi (E7 28) = g6 from ((pw8.ef 28 (Nat.ne_of_beq_eq_false rfl)).trans hg6)).trans (show xi (E 28) = g6 from hg6).symm⟩⟩⟩⟩, by show va_P (dC, dI) vwCl (WX 72 ad E7) t.heap; rw [ht]; exact hP⟩, hS.F ht⟩) hS.2.2 dX13_result_62
          · --30 not
            exact absurd c110 (by decide)
    · -- isEntry, case 1
      obtain ⟨rfl, f111⟩ := hw
      have i112 : 0 ≤ (xi (E 0) 46).toInt ∧ (xi (E 0) 46).toInt ≤ 20 := (show 0 ≤ (xi (E 0) 46).toInt ∧ (xi (E 0) 46).toInt ≤ 20 from hI0.iv 0 (Nat.le_of_ble_eq_true rfl) rfl (Nat.le_of_ble_eq_true rfl) rfl)
      have i113 : 0 ≤ (xi (E 0) 8).toInt ∧ (xi (E 0) 8).toInt ≤ 16 := (show 0 ≤ (xi (E 0) 8).toInt ∧ (xi (E 0) 8).toInt ≤ 16 from hI0.iv 0 (Nat.le_of_ble_eq_true rfl) rfl (Nat.le_of_ble_eq_true rfl) rfl)
      have i114 : 0 ≤ (xi (E 0) 1).toInt ∧ (xi (E 0) 1).toInt ≤ 400 := (show 0 ≤ (xi (E 0) 1).toInt ∧ (xi (E 0) 1).toInt ≤ 400 from hI0.iv 0 (Nat.le_of_ble_eq_true rfl) rfl (Nat.le_of_ble_eq_true rfl) rfl)
      try rw [hKp.ei 0 46 rfl] at f111
      try rw [hKp.ei 0 8 rfl] at f111
      try rw [hKp.ei 0 1 rfl] at f111
      try rw [hKp.ef 21 (fun _ => rfl)] at f111
      refine lv_if_eq (tgt := 61) hx hb dX13_result_21 (by decide) (fun c115 => ?_) (fun c115 => ?_)
      · --21 taken
        refine lv_iconst (v := 0) hx hb dX13_result_61 (by decide) ?_
        rw [hQ]
        exact W.zret (v := 0) hx hb hr rfl (fun t ht hW => ⟨⟨0, E7, rfl, ⟨hI, hKp, ⟨by have h8 := ln_0; (try rw [(show xi (E7 0) 47 = y1 from vi_e ((pw8.2 0 47 (fun q9 => absurd q9.2 (Nat.ne_of_beq_eq_false rfl))).trans fy1))]); (try rw [ey1]); all_goals omega, ⟨fun g9 => by exfalso; (try rw [ey1] at g9); omega, fun _ => ⟨(show xi (E7 24) = g2 from ((pw8.ef 24 (Nat.ne_of_beq_eq_false rfl)).trans hg2)).trans (show xi (E 24) = g2 from hg2).symm, (show xi (E7 25) = g3 from ((pw8.ef 25 (Nat.ne_of_beq_eq_false rfl)).trans hg3)).trans (show xi (E 25) = g3 from hg3).symm, (show xi (E7 26) = g4 from ((pw8.ef 26 (Nat.ne_of_beq_eq_false rfl)).trans hg4)).trans (show xi (E 26) = g4 from hg4).symm, (show xi (E7 27) = g5 from ((pw8.ef 27 (Nat.ne_of_beq_eq_false rfl)).trans hg5)).trans (show xi (E 27) = g5 from hg5).symm, (show xi (E7 28) = g6 from ((pw8.ef 28 (Nat.ne_of_beq_eq_false rfl)).trans hg6)).trans (show xi (E 28) = g6 from hg6).symm⟩⟩⟩⟩, by show va_P (dC, dI) vwCl (WX 72 ad E7) t.heap; rw [ht]; exact hP⟩, hS.F ht⟩) hS.2.2 dX13_result_62
      · --21 not
        exact absurd c115 (by decide)
def v_wordR : List Cond := .code yX13_word cX13_word 8 (some .int) :: vA
abbrev rm_wordR : Room := { frames := 2, cells := 0, slots := 0, locals := 80 }
def w_wordR : Nat → Nat → Bool := wl [38, 39, 40, 41, 42, 43, 44, 45] [(0, 0), (0, 74)]
set_option maxHeartbeats 4000000 in
set_option maxRecDepth 100000 in
theorem q_wordR (l : Launch) (dC : Nat → ClassId) (dI : Nat → Nat → Nat) (cT : Nat → ClassId) (ad : Nat → Nat) (E : Nat → va_E) (sz : Nat) (a0 : Int32) (a1 : Int32) (a2 : Int32) (a3 : Int32) (a4 : Int32) (a5 : Int32) (a6 : Int32) (hI0 : IX cT shM spM 72 ad E)  : Met l yX13_word v_wordR rm_wordR (va_Pc [.ref (ad 0), .int a0, .int a1, .int a2, .int a3, .int a4, .int a5, .int a6] (HW dC dI (TYM cT) 72 ad E sz)) (va_Qi (S := Nat → va_E) (fun r u => IX cT shM spM 72 ad u ∧ Kp w_wordR E u ∧ ((((((0 ≤ a0.toInt ∧ a0.toInt < (xi (E 0) 46).toInt) ∧ (0 ≤ a1.toInt ∧ a1.toInt < (xi (E 0) 8).toInt) ∧ (xi (E 21) (16 * a0.toInt + a1.toInt).toNat).toInt ≤ (xi (E 0) 1).toInt ∧ (0 ≤ a2.toInt ∧ a2.toInt ≤ 100000) ∧ (0 ≤ a5.toInt ∧ a5.toInt ≤ 3) ∧ (1 ≤ a6.toInt ∧ a6.toInt ≤ 255) ∧ (0 ≤ a3.toInt ∧ a3.toInt ≤ 99 - a5.toInt) ∧ (0 ≤ a4.toInt ∧ a4.toInt ≤ 99 - a5.toInt) ∧ (xi (E 0) 74).toInt < 200) → (r.toInt = (xi (E 0) 74).toInt ∧ (xi (u 0) 74).toInt = (xi (E 0) 74).toInt + 1)) ∧ (¬ ((0 ≤ a0.toInt ∧ a0.toInt < (xi (E 0) 46).toInt) ∧ (0 ≤ a1.toInt ∧ a1.toInt < (xi (E 0) 8).toInt) ∧ (xi (E 21) (16 * a0.toInt + a1.toInt).toNat).toInt ≤ (xi (E 0) 1).toInt ∧ (0 ≤ a2.toInt ∧ a2.toInt ≤ 100000) ∧ (0 ≤ a5.toInt ∧ a5.toInt ≤ 3) ∧ (1 ≤ a6.toInt ∧ a6.toInt ≤ 255) ∧ (0 ≤ a3.toInt ∧ a3.toInt ≤ 99 - a5.toInt) ∧ (0 ≤ a4.toInt ∧ a4.toInt ≤ 99 - a5.toInt) ∧ (xi (E 0) 74).toInt < 200) → (r.toInt = -1 ∧ (xi (u 0) 74).toInt = (xi (E 0) 74).toInt)))) ∧ (((((0 ≤ a0.toInt ∧ a0.toInt < (xi (E 0) 46).toInt) ∧ (0 ≤ a1.toInt ∧ a1.toInt < (xi (E 0) 8).toInt) ∧ (xi (E 21) (16 * a0.toInt + a1.toInt).toNat).toInt ≤ (xi (E 0) 1).toInt ∧ (0 ≤ a2.toInt ∧ a2.toInt ≤ 100000) ∧ (0 ≤ a5.toInt ∧ a5.toInt ≤ 3) ∧ (1 ≤ a6.toInt ∧ a6.toInt ≤ 255) ∧ (0 ≤ a3.toInt ∧ a3.toInt ≤ 99 - a5.toInt) ∧ (0 ≤ a4.toInt ∧ a4.toInt ≤ 99 - a5.toInt) ∧ (xi (E 0) 74).toInt < 200) → (xi (u 38) = upd (xi (E 38)) (xi (E 0) 74).toNatClampNeg a0 ∧ xi (u 39) = upd (xi (E 39)) (xi (E 0) 74).toNatClampNeg a1 ∧ xi (u 40) = upd (xi (E 40)) (xi (E 0) 74).toNatClampNeg a2 ∧ xi (u 41) = upd (xi (E 41)) (xi (E 0) 74).toNatClampNeg a3 ∧ xi (u 42) = upd (xi (E 42)) (xi (E 0) 74).toNatClampNeg a4 ∧ xi (u 43) = upd (xi (E 43)) (xi (E 0) 74).toNatClampNeg a5 ∧ xi (u 44) = upd (xi (E 44)) (xi (E 0) 74).toNatClampNeg a6 ∧ xi (u 45) = upd (xi (E 45)) (xi (E 0) 74).toNatClampNeg (xi (E 0) 1))) ∧ (¬ ((0 ≤ a0.toInt ∧ a0.toInt < (xi (E 0) 46).toInt) ∧ (0 ≤ a1.toInt ∧ a1.toInt < (xi (E 0) 8).toInt) ∧ (xi (E 21) (16 * a0.toInt + a1.toInt).toNat).toInt ≤ (xi (E 0) 1).toInt ∧ (0 ≤ a2.toInt ∧ a2.toInt ≤ 100000) ∧ (0 ≤ a5.toInt ∧ a5.toInt ≤ 3) ∧ (1 ≤ a6.toInt ∧ a6.toInt ≤ 255) ∧ (0 ≤ a3.toInt ∧ a3.toInt ≤ 99 - a5.toInt) ∧ (0 ≤ a4.toInt ∧ a4.toInt ≤ 99 - a5.toInt) ∧ (xi (E 0) 74).toInt < 200) → (xi (u 38) = xi (E 38) ∧ xi (u 39) = xi (E 39) ∧ xi (u 40) = xi (E 40) ∧ xi (u 41) = xi (E 41) ∧ xi (u 42) = xi (E 42) ∧ xi (u 43) = xi (E 43) ∧ xi (u 44) = xi (E 44) ∧ xi (u 45) = xi (E 45))))))) (HB dC dI 72 ad) (va_A (WX 72 ad E) sz)) 0 0 (va_A (WX 72 ad E) sz) := by
  refine Met.ofW (cc := cX13_word) (maxL := 8) (ret := (some .int)) (by decide) rfl ?_
  intro p e s m args below meth c s₁ B hml hv
  obtain ⟨hargs, hsz, hP, hK, hD0, hEV⟩ := hv
  subst hsz
  have hx := B.exec
  have hb := B.bytes
  have hr := B.returns
  have hts := atoms_spec (ws := v_wordR) B.pre
  have hown : s.vm.findClass RX13 = some m.cls := findClass_of_methodNamed B.named
  have hlocks := B.notSynchronized
  have hinX13 : ∀ w ∈ u_ws RX13 TX13 97, w ∈ v_wordR := fun w h => vA_in _ w (in_X13 w h)
  generalize hAe : va_A (WX 72 ad E) s.heap.size = A at hEV ⊢
  have hA : ∀ q : Nat, s.heap.size ≤ q → A q := fun q h => by rw [← hAe]; exact Or.inr h
  have hD : va_D A (WX 72 ad E) := by rw [← hAe]; exact hD0.self
  have hS : va_S A s.heap s.heap [] := va_S.rf
  have hI := hI0
  have hKp : Kp w_wordR E E := Kp.rf
  have hl := lv_entry ([.ref (ad 0), .int a0, .int a1, .int a2, .int a3, .int a4, .int a5, .int a6]) (n := 8) (Nat.le_of_ble_eq_true rfl)
  obtain ⟨Q, hQ⟩ : ∃ Q, Q = MQ below (va_Qi (S := Nat → va_E) (fun r u => IX cT shM spM 72 ad u ∧ Kp w_wordR E u ∧ ((((((0 ≤ a0.toInt ∧ a0.toInt < (xi (E 0) 46).toInt) ∧ (0 ≤ a1.toInt ∧ a1.toInt < (xi (E 0) 8).toInt) ∧ (xi (E 21) (16 * a0.toInt + a1.toInt).toNat).toInt ≤ (xi (E 0) 1).toInt ∧ (0 ≤ a2.toInt ∧ a2.toInt ≤ 100000) ∧ (0 ≤ a5.toInt ∧ a5.toInt ≤ 3) ∧ (1 ≤ a6.toInt ∧ a6.toInt ≤ 255) ∧ (0 ≤ a3.toInt ∧ a3.toInt ≤ 99 - a5.toInt) ∧ (0 ≤ a4.toInt ∧ a4.toInt ≤ 99 - a5.toInt) ∧ (xi (E 0) 74).toInt < 200) → (r.toInt = (xi (E 0) 74).toInt ∧ (xi (u 0) 74).toInt = (xi (E 0) 74).toInt + 1)) ∧ (¬ ((0 ≤ a0.toInt ∧ a0.toInt < (xi (E 0) 46).toInt) ∧ (0 ≤ a1.toInt ∧ a1.toInt < (xi (E 0) 8).toInt) ∧ (xi (E 21) (16 * a0.toInt + a1.toInt).toNat).toInt ≤ (xi (E 0) 1).toInt ∧ (0 ≤ a2.toInt ∧ a2.toInt ≤ 100000) ∧ (0 ≤ a5.toInt ∧ a5.toInt ≤ 3) ∧ (1 ≤ a6.toInt ∧ a6.toInt ≤ 255) ∧ (0 ≤ a3.toInt ∧ a3.toInt ≤ 99 - a5.toInt) ∧ (0 ≤ a4.toInt ∧ a4.toInt ≤ 99 - a5.toInt) ∧ (xi (E 0) 74).toInt < 200) → (r.toInt = -1 ∧ (xi (u 0) 74).toInt = (xi (E 0) 74).toInt)))) ∧ (((((0 ≤ a0.toInt ∧ a0.toInt < (xi (E 0) 46).toInt) ∧ (0 ≤ a1.toInt ∧ a1.toInt < (xi (E 0) 8).toInt) ∧ (xi (E 21) (16 * a0.toInt + a1.toInt).toNat).toInt ≤ (xi (E 0) 1).toInt ∧ (0 ≤ a2.toInt ∧ a2.toInt ≤ 100000) ∧ (0 ≤ a5.toInt ∧ a5.toInt ≤ 3) ∧ (1 ≤ a6.toInt ∧ a6.toInt ≤ 255) ∧ (0 ≤ a3.toInt ∧ a3.toInt ≤ 99 - a5.toInt) ∧ (0 ≤ a4.toInt ∧ a4.toInt ≤ 99 - a5.toInt) ∧ (xi (E 0) 74).toInt < 200) → (xi (u 38) = upd (xi (E 38)) (xi (E 0) 74).toNatClampNeg a0 ∧ xi (u 39) = upd (xi (E 39)) (xi (E 0) 74).toNatClampNeg a1 ∧ xi (u 40) = upd (xi (E 40)) (xi (E 0) 74).toNatClampNeg a2 ∧ xi (u 41) = upd (xi (E 41)) (xi (E 0) 74).toNatClampNeg a3 ∧ xi (u 42) = upd (xi (E 42)) (xi (E 0) 74).toNatClampNeg a4 ∧ xi (u 43) = upd (xi (E 43)) (xi (E 0) 74).toNatClampNeg a5 ∧ xi (u 44) = upd (xi (E 44)) (xi (E 0) 74).toNatClampNeg a6 ∧ xi (u 45) = upd (xi (E 45)) (xi (E 0) 74).toNatClampNeg (xi (E 0) 1))) ∧ (¬ ((0 ≤ a0.toInt ∧ a0.toInt < (xi (E 0) 46).toInt) ∧ (0 ≤ a1.toInt ∧ a1.toInt < (xi (E 0) 8).toInt) ∧ (xi (E 21) (16 * a0.toInt + a1.toInt).toNat).toInt ≤ (xi (E 0) 1).toInt ∧ (0 ≤ a2.toInt ∧ a2.toInt ≤ 100000) ∧ (0 ≤ a5.toInt ∧ a5.toInt ≤ 3) ∧ (1 ≤ a6.toInt ∧ a6.toInt ≤ 255) ∧ (0 ≤ a3.toInt ∧ a3.toInt ≤ 99 - a5.toInt) ∧ (0 ≤ a4.toInt ∧ a4.toInt ≤ 99 - a5.toInt) ∧ (xi (E 0) 74).toInt < 200) → (xi (u 38) = xi (E 38) ∧ xi (u 39) = xi (E 39) ∧ xi (u 40) = xi (E 40) ∧ xi (u 41) = xi (E 41) ∧ xi (u 42) = xi (E 42) ∧ xi (u 43) = xi (E 43) ∧ xi (u 44) = xi (E 44) ∧ xi (u 45) = xi (E 45))))))) (HB dC dI 72 ad) (A)) args s 0 0 (A) := ⟨_, rfl⟩
  rw [← hQ, show entryFrame m args 8 = _ from (congrArg (fun z => entryFrame m z 8) hargs).trans (lg_entry_eq _ _ _)]
  generalize (lg_sl ([.ref (ad 0), .int a0, .int a1, .int a2, .int a3, .int a4, .int a5, .int a6]) ++ List.replicate (8 - (lg_sl ([.ref (ad 0), .int a0, .int a1, .int a2, .int a3, .int a4, .int a5, .int a6])).length) Slot.unset).toArray = ls at hl ⊢
  have hl : lv_has ls 8 [(0, .ref (ad 0)), (1, .int a0), (2, .int a1), (3, .int a2), (4, .int a3), (5, .int a4), (6, .int a5), (7, .int a6)] := hl
  obtain ⟨y1, ey1⟩ : ∃ y, xi (E 0) 74 = y := ⟨_, rfl⟩
  have fy1 : xv (E 0) 74 = .int y1 := (hI.fi 0 (Nat.le_of_ble_eq_true rfl) rfl (Nat.le_of_ble_eq_true rfl) rfl).trans (congrArg Value.int ey1)
  have iy1 : 0 ≤ y1.toInt ∧ y1.toInt ≤ 200 := by rw [← ey1]; exact hI.iv 0 (Nat.le_of_ble_eq_true rfl) rfl (Nat.le_of_ble_eq_true rfl) rfl
  obtain ⟨g2, hg2⟩ : ∃ g, xi (E 38) = g := ⟨_, rfl⟩
  obtain ⟨g3, hg3⟩ : ∃ g, xi (E 39) = g := ⟨_, rfl⟩
  obtain ⟨g4, hg4⟩ : ∃ g, xi (E 40) = g := ⟨_, rfl⟩
  obtain ⟨g5, hg5⟩ : ∃ g, xi (E 41) = g := ⟨_, rfl⟩
  obtain ⟨g6, hg6⟩ : ∃ g, xi (E 42) = g := ⟨_, rfl⟩
  obtain ⟨g7, hg7⟩ : ∃ g, xi (E 43) = g := ⟨_, rfl⟩
  obtain ⟨g8, hg8⟩ : ∃ g, xi (E 44) = g := ⟨_, rfl⟩
  obtain ⟨g9, hg9⟩ : ∃ g, xi (E 45) = g := ⟨_, rfl⟩
  refine lv_aload_n hx hb dX13_word_0 rfl (lv_at hl 0 rfl) ?_
  refine lv_iconst (v := 0) hx hb dX13_word_1 (by decide) ?_
  refine th_put (ci := 14) (C := RX13) (T := TX13) (N := 97) (v := .int 0) (ty := .int) hx hb hts hinX13 tyX13 tyX13_ok nmX13 hown hK hP (WX_D hD) hS hI 0 (Nat.le_of_ble_eq_true rfl) rfl rfl 0 (Nat.le_of_ble_eq_true rfl) (hts _ (vA_in _ _ (in_24 _ (zs4 (zs4 (zs1 (zs1 (zs0)))))))) (fun _ h9 => h9) rfl (by decide +kernel) rfl rfl (okI rfl (iv_w ln_0 (by decide))) dX13_word_2 (fun H locs E10 pw11 hI hP hS => ?_)
  have hKp := hKp.pw pw11 rfl
  refine lv_aload_n hx hb dX13_word_5 rfl (lv_at hl 0 rfl) ?_
  refine th_get (ci := 14) (C := RX13) (T := TX13) (N := 97) (v := .int y1) hx hb hts hinX13 hown hK hP hI 0 (Nat.le_of_ble_eq_true rfl) rfl rfl 74 (Nat.le_of_ble_eq_true rfl) (hts _ (vA_in _ _ (in_25 _ (zs4 (zs4 (zs1 (zs1 (zs1 (zs0))))))))) (fun _ h9 => h9) ((pw11.2 0 74 (fun q9 => absurd q9.2 (Nat.ne_of_beq_eq_false rfl))).trans fy1) dX13_word_6 ?_
  refine lv_sipush (v := 200) hx hb dX13_word_9 (by decide) ?_
  refine lv_icmp_eq (tgt := 85) hx hb dX13_word_12 (by decide) (fun c12 => ?_) (fun c12 => ?_)
  · --12 taken
    have t13 : y1.toInt = 200 := ti_eq c12
    have i14 : 200 ≤ y1.toInt ∧ y1.toInt ≤ 200 := iv_eqi t13 iy1 (il_ 200) (by decide)
    refine lv_iconst (v := -1) hx hb dX13_word_85 (by decide) ?_
    rw [hQ]
    exact W.iret (v := (-1)) hx hb hr (fun t ht hW => ⟨⟨(-1), E10, rfl, ⟨hI, hKp, ⟨by have h8 := ln_m1; (try rw [(show xi (E10 0) 74 = y1 from vi_e ((pw11.2 0 74 (fun q9 => absurd q9.2 (Nat.ne_of_beq_eq_false rfl))).trans fy1))]); (try rw [ey1]); all_goals omega, ⟨fun g9 => by exfalso; (try rw [ey1] at g9); omega, fun _ => ⟨(show xi (E10 38) = g2 from ((pw11.ef 38 (Nat.ne_of_beq_eq_false rfl)).trans hg2)).trans (show xi (E 38) = g2 from hg2).symm, (show xi (E10 39) = g3 from ((pw11.ef 39 (Nat.ne_of_beq_eq_false rfl)).trans hg3)).trans (show xi (E 39) = g3 from hg3).symm, (show xi (E10 40) = g4 from ((pw11.ef 40 (Nat.ne_of_beq_eq_false rfl)).trans hg4)).trans (show xi (E 40) = g4 from hg4).symm, (show xi (E10 41) = g5 from ((pw11.ef 41 (Nat.ne_of_beq_eq_false rfl)).trans hg5)).trans (show xi (E 41) = g5 from hg5).symm, (show xi (E10 42) = g6 from ((pw11.ef 42 (Nat.ne_of_beq_eq_false rfl)).trans hg6)).trans (show xi (E 42) = g6 from hg6).symm, (show xi (E10 43) = g7 from ((pw11.ef 43 (Nat.ne_of_beq_eq_false rfl)).trans hg7)).trans (show xi (E 43) = g7 from hg7).symm, (show xi (E10 44) = g8 from ((pw11.ef 44 (Nat.ne_of_beq_eq_false rfl)).trans hg8)).trans (show xi (E 44) = g8 from hg8).symm, (show xi (E10 45) = g9 from ((pw11.ef 45 (Nat.ne_of_beq_eq_false rfl)).trans hg9)).trans (show xi (E 45) = g9 from hg9).symm⟩⟩⟩⟩, by show va_P (dC, dI) vwCl (WX 72 ad E10) t.heap; rw [ht]; exact hP⟩, hS.F ht⟩) hS.2.2 dX13_word_86
  · --12 not
    have t15 : ¬ y1.toInt = 200 := ti_ne c12
    have i16 : 0 ≤ y1.toInt ∧ y1.toInt ≤ 199 := iv_ne_r t15 iy1 (il_ 200)
    refine lv_aload_n hx hb dX13_word_15 rfl (lv_at hl 0 rfl) ?_
    refine lv_iload_n hx hb dX13_word_16 rfl (lv_at hl 1 rfl) ?_
    refine lv_iload_n hx hb dX13_word_17 rfl (lv_at hl 2 rfl) ?_
    refine th_ri (va_runV (As := [.int a0, .int a1]) (rest := []) ⟨hx, hb, hml, hown, hts⟩ (q_isEntry l dC dI cT ad E10 H.size a0 a1 hI) (cwV 2 hts (gi_V (in_33 _ (zs4 (zs4 (zs0)))) (in_33 _ (zs4 (zs4 (zs1 (zs0))))) (in_33 _ (zs4 (zs4 (zs1 (zs1 (zs0)))))) (in_24 _ (zs4 (zs4 (zs4 (zs1 (zs1 (zs1 (zs0)))))))) (in_32 _ (zs16 (zs4 (zs4 (zs0)))))) rfl rfl rfl ⟨rfl, hz_yX13_isEntry_2⟩ ⟨Nat.le_of_ble_eq_true rfl, Nat.le_of_ble_eq_true rfl⟩) ⟨HW_bl, va_recv hK hP (ci := 14) (q0 := 0) rfl (hI.ob 0 (Nat.le_of_ble_eq_true rfl) rfl), (HW_wi hP hK (WX_D hD) hS hA hEV)⟩ rfl rfl hl.1 rfl (lv_room (Nat.le_of_ble_eq_true rfl)) dX13_word_18 ⟨Nat.le_of_ble_eq_true rfl, Nat.le_of_ble_eq_true rfl⟩) hS hP (fun r17 H locs hw hP hS => ?_)
    rcases hw with hw | hw
    · -- isEntry, case 0
      obtain ⟨rfl, f18, f19, f20⟩ := hw
      have i21 : 0 ≤ (xi (E 0) 46).toInt ∧ (xi (E 0) 46).toInt ≤ 20 := (show 0 ≤ (xi (E 0) 46).toInt ∧ (xi (E 0) 46).toInt ≤ 20 from hI0.iv 0 (Nat.le_of_ble_eq_true rfl) rfl (Nat.le_of_ble_eq_true rfl) rfl)
      have i22 : 0 ≤ (xi (E 0) 8).toInt ∧ (xi (E 0) 8).toInt ≤ 16 := (show 0 ≤ (xi (E 0) 8).toInt ∧ (xi (E 0) 8).toInt ≤ 16 from hI0.iv 0 (Nat.le_of_ble_eq_true rfl) rfl (Nat.le_of_ble_eq_true rfl) rfl)
      have i23 : 0 ≤ (xi (E 0) 1).toInt ∧ (xi (E 0) 1).toInt ≤ 400 := (show 0 ≤ (xi (E 0) 1).toInt ∧ (xi (E 0) 1).toInt ≤ 400 from hI0.iv 0 (Nat.le_of_ble_eq_true rfl) rfl (Nat.le_of_ble_eq_true rfl) rfl)
      try rw [hKp.ei 0 46 rfl] at f18
      try rw [hKp.ei 0 8 rfl] at f18
      try rw [hKp.ei 0 1 rfl] at f18
      try rw [hKp.ef 21 (fun _ => rfl)] at f18
      refine lv_if_eq (tgt := 85) hx hb dX13_word_21 (by decide) (fun c24 => ?_) (fun c24 => ?_)
      · --21 taken
        exact absurd c24 (by decide)
      · --21 not
        refine lv_iload_n hx hb dX13_word_24 rfl (lv_at hl 3 rfl) ?_
        refine lv_iconst (v := 0) hx hb dX13_word_25 (by decide) ?_
        refine lv_ldcw hx hb hown (hts _ (vA_in _ _ (in_33 _ (zs4 (zs1 (zs1 (zs1 (zs0)))))))) dX13_word_26 ?_
        refine th_pi (va_runS (As := [.int a2, .int 0, .int 100000]) (rest := []) ⟨hx, hb, hml, hown, hts⟩ (q_isIn l a2 (0 : Int32) (100000 : Int32)) (va_cwS 3 hts (gi_S (in_24 _ (zs16 (zs4 (zs4 (zs4 (zs0)))))) (in_24 _ (zs16 (zs4 (zs4 (zs4 (zs1 (zs0))))))) (in_24 _ (zs4 (zs4 (zs4 (zs1 (zs1 (zs1 (zs0)))))))) (in_24 _ (zs16 (zs4 (zs4 (zs4 (zs1 (zs1 (zs0))))))))) rfl rfl rfl hz_yX13_isIn_3 ⟨Nat.le_of_ble_eq_true rfl, Nat.le_of_ble_eq_true rfl⟩) ⟨fun _ _ _ _ q => q, fun _ _ _ => ⟨rfl, trivial⟩⟩ rfl rfl hl.1 rfl (lv_room (Nat.le_of_ble_eq_true rfl)) dX13_word_29 ⟨Nat.le_of_ble_eq_true rfl, Nat.le_of_ble_eq_true rfl⟩) hS (fun r25 H1 locs1 hw hk1 hS => ?_)
        have hP := ub_keep hP hk1
        generalize H1 = H at hP hS ⊢
        generalize locs1 = locs at hS ⊢
        rcases hw with hw | hw
        · -- isIn, case 0
          obtain ⟨rfl, f26⟩ := hw
          have t27 : (0 : Int) ≤ a2.toInt := f26.1
          have t28 : a2.toInt ≤ 100000 := f26.2
          have i29 : 0 ≤ a2.toInt ∧ a2.toInt ≤ 2147483647 := iv_le_r t27 (il_ 0) (iv_all _) (by decide)
          have i30 : 0 ≤ a2.toInt ∧ a2.toInt ≤ 100000 := iv_le_l t28 i29 (il_ 100000) (by decide)
          refine lv_if_eq (tgt := 85) hx hb dX13_word_32 (by decide) (fun c31 => ?_) (fun c31 => ?_)
          · --32 taken
            exact absurd c31 (by decide)
          · --32 not
            refine lv_iload hx hb dX13_word_35 (lv_at hl 6 rfl) ?_
            refine lv_iconst (v := 0) hx hb dX13_word_37 (by decide) ?_
            refine lv_iconst (v := 3) hx hb dX13_word_38 (by decide) ?_
            refine th_pi (va_runS (As := [.int a5, .int 0, .int 3]) (rest := []) ⟨hx, hb, hml, hown, hts⟩ (q_isIn l a5 (0 : Int32) (3 : Int32)) (va_cwS 3 hts (gi_S (in_24 _ (zs16 (zs4 (zs4 (zs4 (zs0)))))) (in_24 _ (zs16 (zs4 (zs4 (zs4 (zs1 (zs0))))))) (in_24 _ (zs4 (zs4 (zs4 (zs1 (zs1 (zs1 (zs0)))))))) (in_24 _ (zs16 (zs4 (zs4 (zs4 (zs1 (zs1 (zs0))))))))) rfl rfl rfl hz_yX13_isIn_3 ⟨Nat.le_of_ble_eq_true rfl, Nat.le_of_ble_eq_true rfl⟩) ⟨fun _ _ _ _ q => q, fun _ _ _ => ⟨rfl, trivial⟩⟩ rfl rfl hl.1 rfl (lv_room (Nat.le_of_ble_eq_true rfl)) dX13_word_39 ⟨Nat.le_of_ble_eq_true rfl, Nat.le_of_ble_eq_true rfl⟩) hS (fun r32 H1 locs1 hw hk1 hS => ?_)
            have hP := ub_keep hP hk1
            generalize H1 = H at hP hS ⊢
            generalize locs1 = locs at hS ⊢
            rcases hw with hw | hw
            · -- isIn, case 0
              obtain ⟨rfl, f33⟩ := hw
              have t34 : (0 : Int) ≤ a5.toInt := f33.1
              have t35 : a5.toInt ≤ 3 := f33.2
              have i36 : 0 ≤ a5.toInt ∧ a5.toInt ≤ 2147483647 := iv_le_r t34 (il_ 0) (iv_all _) (by decide)
              have i37 : 0 ≤ a5.toInt ∧ a5.toInt ≤ 3 := iv_le_l t35 i36 (il_ 3) (by decide)
              refine lv_if_eq (tgt := 85) hx hb dX13_word_42 (by decide) (fun c38 => ?_) (fun c38 => ?_)
              · --42 taken
                exact absurd c38 (by decide)
              · --42 not
                refine lv_iload hx hb dX13_word_45 (lv_at hl 4 rfl) ?_
                refine lv_iconst (v := 0) hx hb dX13_word_47 (by decide) ?_
                refine lv_bipush (v := 99) hx hb dX13_word_48 (by decide) ?_
                refine lv_iload hx hb dX13_word_50 (lv_at hl 6 rfl) ?_
                refine lv_isub hx hb dX13_word_52 ?_
                refine lv_topi (fun y39 ey39 => ?_)
                obtain ⟨ty39, iy39⟩ := ti_sub (e := 96) (f := 99) ln_99 i37 ey39 (by decide)
                have ty39 : y39.toInt = 99 - a5.toInt := ty39
                have iy39 : 96 ≤ y39.toInt ∧ y39.toInt ≤ 99 := iy39
                refine th_pi (va_runS (As := [.int a3, .int 0, .int y39]) (rest := []) ⟨hx, hb, hml, hown, hts⟩ (q_isIn l a3 (0 : Int32) y39) (va_cwS 3 hts (gi_S (in_24 _ (zs16 (zs4 (zs4 (zs4 (zs0)))))) (in_24 _ (zs16 (zs4 (zs4 (zs4 (zs1 (zs0))))))) (in_24 _ (zs4 (zs4 (zs4 (zs1 (zs1 (zs1 (zs0)))))))) (in_24 _ (zs16 (zs4 (zs4 (zs4 (zs1 (zs1 (zs0))))))))) rfl rfl rfl hz_yX13_isIn_3 ⟨Nat.le_of_ble_eq_true rfl, Nat.le_of_ble_eq_true rfl⟩) ⟨fun _ _ _ _ q => q, fun _ _ _ => ⟨rfl, trivial⟩⟩ rfl rfl hl.1 rfl (lv_room (Nat.le_of_ble_eq_true rfl)) dX13_word_53 ⟨Nat.le_of_ble_eq_true rfl, Nat.le_of_ble_eq_true rfl⟩) hS (fun r40 H1 locs1 hw hk1 hS => ?_)
                have hP := ub_keep hP hk1
                generalize H1 = H at hP hS ⊢
                generalize locs1 = locs at hS ⊢
                rcases hw with hw | hw
                · -- isIn, case 0
                  obtain ⟨rfl, f41⟩ := hw
                  have t42 : (0 : Int) ≤ a3.toInt := f41.1
                  have t43 : a3.toInt ≤ y39.toInt := f41.2
                  have i44 : 0 ≤ a3.toInt ∧ a3.toInt ≤ 2147483647 := iv_le_r t42 (il_ 0) (iv_all _) (by decide)
                  have i45 : 0 ≤ a3.toInt ∧ a3.toInt ≤ 99 := iv_le_l t43 i44 iy39 (by decide)
                  refine lv_if_eq (tgt := 85) hx hb dX13_word_56 (by decide) (fun c46 => ?_) (fun c46 => ?_)
                  · --56 taken
                    exact absurd c46 (by decide)
                  · --56 not
                    refine lv_iload hx hb dX13_word_59 (lv_at hl 5 rfl) ?_
                    refine lv_iconst (v := 0) hx hb dX13_word_61 (by decide) ?_
                    refine lv_bipush (v := 99) hx hb dX13_word_62 (by decide) ?_
                    refine lv_iload hx hb dX13_word_64 (lv_at hl 6 rfl) ?_
                    refine lv_isub hx hb dX13_word_66 ?_
                    refine lv_topi (fun y47 ey47 => ?_)
                    obtain ⟨ty47, iy47⟩ := ti_sub (e := 96) (f := 99) ln_99 i37 ey47 (by decide)
                    have ty47 : y47.toInt = 99 - a5.toInt := ty47
                    have iy47 : 96 ≤ y47.toInt ∧ y47.toInt ≤ 99 := iy47
                    refine th_pi (va_runS (As := [.int a4, .int 0, .int y47]) (rest := []) ⟨hx, hb, hml, hown, hts⟩ (q_isIn l a4 (0 : Int32) y47) (va_cwS 3 hts (gi_S (in_24 _ (zs16 (zs4 (zs4 (zs4 (zs0)))))) (in_24 _ (zs16 (zs4 (zs4 (zs4 (zs1 (zs0))))))) (in_24 _ (zs4 (zs4 (zs4 (zs1 (zs1 (zs1 (zs0)))))))) (in_24 _ (zs16 (zs4 (zs4 (zs4 (zs1 (zs1 (zs0))))))))) rfl rfl rfl hz_yX13_isIn_3 ⟨Nat.le_of_ble_eq_true rfl, Nat.le_of_ble_eq_true rfl⟩) ⟨fun _ _ _ _ q => q, fun _ _ _ => ⟨rfl, trivial⟩⟩ rfl rfl hl.1 rfl (lv_room (Nat.le_of_ble_eq_true rfl)) dX13_word_67 ⟨Nat.le_of_ble_eq_true rfl, Nat.le_of_ble_eq_true rfl⟩) hS (fun r48 H1 locs1 hw hk1 hS => ?_)
                    have hP := ub_keep hP hk1
                    generalize H1 = H at hP hS ⊢
                    generalize locs1 = locs at hS ⊢
                    rcases hw with hw | hw
                    · -- isIn, case 0
                      obtain ⟨rfl, f49⟩ := hw
                      have t50 : (0 : Int) ≤ a4.toInt := f49.1
                      have t51 : a4.toInt ≤ y47.toInt := f49.2
                      have i52 : 0 ≤ a4.toInt ∧ a4.toInt ≤ 2147483647 := iv_le_r t50 (il_ 0) (iv_all _) (by decide)
                      have i53 : 0 ≤ a4.toInt ∧ a4.toInt ≤ 99 := iv_le_l t51 i52 iy47 (by decide)
                      refine lv_if_eq (tgt := 85) hx hb dX13_word_70 (by decide) (fun c54 => ?_) (fun c54 => ?_)
                      · --70 taken
                        exact absurd c54 (by decide)
                      · --70 not
                        refine lv_iload hx hb dX13_word_73 (lv_at hl 7 rfl) ?_
                        refine lv_iconst (v := 1) hx hb dX13_word_75 (by decide) ?_
                        refine lv_sipush (v := 255) hx hb dX13_word_76 (by decide) ?_
                        refine th_pi (va_runS (As := [.int a6, .int 1, .int 255]) (rest := []) ⟨hx, hb, hml, hown, hts⟩ (q_isIn l a6 (1 : Int32) (255 : Int32)) (va_cwS 3 hts (gi_S (in_24 _ (zs16 (zs4 (zs4 (zs4 (zs0)))))) (in_24 _ (zs16 (zs4 (zs4 (zs4 (zs1 (zs0))))))) (in_24 _ (zs4 (zs4 (zs4 (zs1 (zs1 (zs1 (zs0)))))))) (in_24 _ (zs16 (zs4 (zs4 (zs4 (zs1 (zs1 (zs0))))))))) rfl rfl rfl hz_yX13_isIn_3 ⟨Nat.le_of_ble_eq_true rfl, Nat.le_of_ble_eq_true rfl⟩) ⟨fun _ _ _ _ q => q, fun _ _ _ => ⟨rfl, trivial⟩⟩ rfl rfl hl.1 rfl (lv_room (Nat.le_of_ble_eq_true rfl)) dX13_word_79 ⟨Nat.le_of_ble_eq_true rfl, Nat.le_of_ble_eq_true rfl⟩) hS (fun r55 H1 locs1 hw hk1 hS => ?_)
                        have hP := ub_keep hP hk1
                        generalize H1 = H at hP hS ⊢
                        generalize locs1 = locs at hS ⊢
                        rcases hw with hw | hw
                        · -- isIn, case 0
                          obtain ⟨rfl, f56⟩ := hw
                          have t57 : (1 : Int) ≤ a6.toInt := f56.1
                          have t58 : a6.toInt ≤ 255 := f56.2
                          have i59 : 1 ≤ a6.toInt ∧ a6.toInt ≤ 2147483647 := iv_le_r t57 (il_ 1) (iv_all _) (by decide)
                          have i60 : 1 ≤ a6.toInt ∧ a6.toInt ≤ 255 := iv_le_l t58 i59 (il_ 255) (by decide)
                          refine lv_if_ne (tgt := 87) hx hb dX13_word_82 (by decide) (fun c61 => ?_) (fun c61 => ?_)
                          · --82 taken
                            refine lv_aload_n hx hb dX13_word_87 rfl (lv_at hl 0 rfl) ?_
                            refine th_get (ci := 14) (C := RX13) (T := TX13) (N := 97) (v := .ref (ad 38)) hx hb hts hinX13 hown hK hP hI 0 (Nat.le_of_ble_eq_true rfl) rfl rfl 56 (Nat.le_of_ble_eq_true rfl) (hts _ (vA_in _ _ (in_25 _ (zs4 (zs4 (zs4 (zs0))))))) (fun _ h9 => h9) (hI.fr 0 (Nat.le_of_ble_eq_true rfl) rfl (Nat.le_of_ble_eq_true rfl) 38 rfl) dX13_word_88 ?_
                            refine lv_aload_n hx hb dX13_word_91 rfl (lv_at hl 0 rfl) ?_
                            refine th_get (ci := 14) (C := RX13) (T := TX13) (N := 97) (v := .int y1) hx hb hts hinX13 hown hK hP hI 0 (Nat.le_of_ble_eq_true rfl) rfl rfl 74 (Nat.le_of_ble_eq_true rfl) (hts _ (vA_in _ _ (in_25 _ (zs4 (zs4 (zs1 (zs1 (zs1 (zs0))))))))) (fun _ h9 => h9) ((pw11.2 0 74 (fun q9 => absurd q9.2 (Nat.ne_of_beq_eq_false rfl))).trans fy1) dX13_word_92 ?_
                            refine lv_iload_n hx hb dX13_word_95 rfl (lv_at hl 1 rfl) ?_
                            have n62 : vp_in y1 200 := (iv_in (n := 200) i16 (by decide))
                            refine th_iast hx hb hK hP (WX_D hD) hS hI 38 (Nat.le_of_ble_eq_true rfl) rfl rfl n62 (okI rfl f19) dX13_word_96 (fun H locs E63 pw64 hI hP hS => ?_)
                            have hKp := hKp.pw pw64 rfl
                            obtain ⟨g65, eg65⟩ : ∃ z : Nat → Int32, z = upd g2 y1.toNatClampNeg a0 := ⟨_, rfl⟩
                            have hg65 : xi (E63 38) = g65 := by rw [pw64.eu, ((pw11.ef 38 (Nat.ne_of_beq_eq_false rfl)).trans hg2), eg65]
                            refine lv_aload_n hx hb dX13_word_97 rfl (lv_at hl 0 rfl) ?_
                            refine th_get (ci := 14) (C := RX13) (T := TX13) (N := 97) (v := .ref (ad 39)) hx hb hts hinX13 hown hK hP hI 0 (Nat.le_of_ble_eq_true rfl) rfl rfl 57 (Nat.le_of_ble_eq_true rfl) (hts _ (vA_in _ _ (in_25 _ (zs4 (zs4 (zs4 (zs1 (zs0)))))))) (fun _ h9 => h9) (hI.fr 0 (Nat.le_of_ble_eq_true rfl) rfl (Nat.le_of_ble_eq_true rfl) 39 rfl) dX13_word_98 ?_
                            refine lv_aload_n hx hb dX13_word_101 rfl (lv_at hl 0 rfl) ?_
                            refine th_get (ci := 14) (C := RX13) (T := TX13) (N := 97) (v := .int y1) hx hb hts hinX13 hown hK hP hI 0 (Nat.le_of_ble_eq_true rfl) rfl rfl 74 (Nat.le_of_ble_eq_true rfl) (hts _ (vA_in _ _ (in_25 _ (zs4 (zs4 (zs1 (zs1 (zs1 (zs0))))))))) (fun _ h9 => h9) ((pw64.2 0 74 (fun q9 => absurd q9.1 (Nat.ne_of_beq_eq_false rfl))).trans ((pw11.2 0 74 (fun q9 => absurd q9.2 (Nat.ne_of_beq_eq_false rfl))).trans fy1)) dX13_word_102 ?_
                            refine lv_iload_n hx hb dX13_word_105 rfl (lv_at hl 2 rfl) ?_
                            have n66 : vp_in y1 200 := (iv_in (n := 200) i16 (by decide))
                            refine th_iast hx hb hK hP (WX_D hD) hS hI 39 (Nat.le_of_ble_eq_true rfl) rfl rfl n66 (okI rfl f20) dX13_word_106 (fun H locs E67 pw68 hI hP hS => ?_)
                            have hKp := hKp.pw pw68 rfl
                            obtain ⟨g69, eg69⟩ : ∃ z : Nat → Int32, z = upd g3 y1.toNatClampNeg a1 := ⟨_, rfl⟩
                            have hg69 : xi (E67 39) = g69 := by rw [pw68.eu, ((pw64.ef 39 (Nat.ne_of_beq_eq_false rfl)).trans ((pw11.ef 39 (Nat.ne_of_beq_eq_false rfl)).trans hg3)), eg69]
                            refine lv_aload_n hx hb dX13_word_107 rfl (lv_at hl 0 rfl) ?_
                            refine th_get (ci := 14) (C := RX13) (T := TX13) (N := 97) (v := .ref (ad 40)) hx hb hts hinX13 hown hK hP hI 0 (Nat.le_of_ble_eq_true rfl) rfl rfl 58 (Nat.le_of_ble_eq_true rfl) (hts _ (vA_in _ _ (in_25 _ (zs4 (zs4 (zs4 (zs1 (zs1 (zs1 (zs0)))))))))) (fun _ h9 => h9) (hI.fr 0 (Nat.le_of_ble_eq_true rfl) rfl (Nat.le_of_ble_eq_true rfl) 40 rfl) dX13_word_108 ?_
                            refine lv_aload_n hx hb dX13_word_111 rfl (lv_at hl 0 rfl) ?_
                            refine th_get (ci := 14) (C := RX13) (T := TX13) (N := 97) (v := .int y1) hx hb hts hinX13 hown hK hP hI 0 (Nat.le_of_ble_eq_true rfl) rfl rfl 74 (Nat.le_of_ble_eq_true rfl) (hts _ (vA_in _ _ (in_25 _ (zs4 (zs4 (zs1 (zs1 (zs1 (zs0))))))))) (fun _ h9 => h9) ((pw68.2 0 74 (fun q9 => absurd q9.1 (Nat.ne_of_beq_eq_false rfl))).trans ((pw64.2 0 74 (fun q9 => absurd q9.1 (Nat.ne_of_beq_eq_false rfl))).trans ((pw11.2 0 74 (fun q9 => absurd q9.2 (Nat.ne_of_beq_eq_false rfl))).trans fy1))) dX13_word_112 ?_
                            refine lv_iload_n hx hb dX13_word_115 rfl (lv_at hl 3 rfl) ?_
                            have n70 : vp_in y1 200 := (iv_in (n := 200) i16 (by decide))
                            refine th_iast hx hb hK hP (WX_D hD) hS hI 40 (Nat.le_of_ble_eq_true rfl) rfl rfl n70 (okI rfl i30) dX13_word_116 (fun H locs E71 pw72 hI hP hS => ?_)
                            have hKp := hKp.pw pw72 rfl
                            obtain ⟨g73, eg73⟩ : ∃ z : Nat → Int32, z = upd g4 y1.toNatClampNeg a2 := ⟨_, rfl⟩
                            have hg73 : xi (E71 40) = g73 := by rw [pw72.eu, ((pw68.ef 40 (Nat.ne_of_beq_eq_false rfl)).trans ((pw64.ef 40 (Nat.ne_of_beq_eq_false rfl)).trans ((pw11.ef 40 (Nat.ne_of_beq_eq_false rfl)).trans hg4))), eg73]
                            refine lv_aload_n hx hb dX13_word_117 rfl (lv_at hl 0 rfl) ?_
                            refine th_get (ci := 14) (C := RX13) (T := TX13) (N := 97) (v := .ref (ad 41)) hx hb hts hinX13 hown hK hP hI 0 (Nat.le_of_ble_eq_true rfl) rfl rfl 59 (Nat.le_of_ble_eq_true rfl) (hts _ (vA_in _ _ (in_25 _ (zs16 (zs4 (zs4 (zs1 (zs0)))))))) (fun _ h9 => h9) (hI.fr 0 (Nat.le_of_ble_eq_true rfl) rfl (Nat.le_of_ble_eq_true rfl) 41 rfl) dX13_word_118 ?_
                            refine lv_aload_n hx hb dX13_word_121 rfl (lv_at hl 0 rfl) ?_
                            refine th_get (ci := 14) (C := RX13) (T := TX13) (N := 97) (v := .int y1) hx hb hts hinX13 hown hK hP hI 0 (Nat.le_of_ble_eq_true rfl) rfl rfl 74 (Nat.le_of_ble_eq_true rfl) (hts _ (vA_in _ _ (in_25 _ (zs4 (zs4 (zs1 (zs1 (zs1 (zs0))))))))) (fun _ h9 => h9) ((pw72.2 0 74 (fun q9 => absurd q9.1 (Nat.ne_of_beq_eq_false rfl))).trans ((pw68.2 0 74 (fun q9 => absurd q9.1 (Nat.ne_of_beq_eq_false rfl))).trans ((pw64.2 0 74 (fun q9 => absurd q9.1 (Nat.ne_of_beq_eq_false rfl))).trans ((pw11.2 0 74 (fun q9 => absurd q9.2 (Nat.ne_of_beq_eq_false rfl))).trans fy1)))) dX13_word_122 ?_
                            refine lv_iload hx hb dX13_word_125 (lv_at hl 4 rfl) ?_
                            have n74 : vp_in y1 200 := (iv_in (n := 200) i16 (by decide))
                            refine th_iast hx hb hK hP (WX_D hD) hS hI 41 (Nat.le_of_ble_eq_true rfl) rfl rfl n74 (okI rfl i45) dX13_word_127 (fun H locs E75 pw76 hI hP hS => ?_)
                            have hKp := hKp.pw pw76 rfl
                            obtain ⟨g77, eg77⟩ : ∃ z : Nat → Int32, z = upd g5 y1.toNatClampNeg a3 := ⟨_, rfl⟩
                            have hg77 : xi (E75 41) = g77 := by rw [pw76.eu, ((pw72.ef 41 (Nat.ne_of_beq_eq_false rfl)).trans ((pw68.ef 41 (Nat.ne_of_beq_eq_false rfl)).trans ((pw64.ef 41 (Nat.ne_of_beq_eq_false rfl)).trans ((pw11.ef 41 (Nat.ne_of_beq_eq_false rfl)).trans hg5)))), eg77]
                            refine lv_aload_n hx hb dX13_word_128 rfl (lv_at hl 0 rfl) ?_
                            refine th_get (ci := 14) (C := RX13) (T := TX13) (N := 97) (v := .ref (ad 42)) hx hb hts hinX13 hown hK hP hI 0 (Nat.le_of_ble_eq_true rfl) rfl rfl 60 (Nat.le_of_ble_eq_true rfl) (hts _ (vA_in _ _ (in_25 _ (zs16 (zs4 (zs4 (zs4 (zs0)))))))) (fun _ h9 => h9) (hI.fr 0 (Nat.le_of_ble_eq_true rfl) rfl (Nat.le_of_ble_eq_true rfl) 42 rfl) dX13_word_129 ?_
                            refine lv_aload_n hx hb dX13_word_132 rfl (lv_at hl 0 rfl) ?_
                            refine th_get (ci := 14) (C := RX13) (T := TX13) (N := 97) (v := .int y1) hx hb hts hinX13 hown hK hP hI 0 (Nat.le_of_ble_eq_true rfl) rfl rfl 74 (Nat.le_of_ble_eq_true rfl) (hts _ (vA_in _ _ (in_25 _ (zs4 (zs4 (zs1 (zs1 (zs1 (zs0))))))))) (fun _ h9 => h9) ((pw76.2 0 74 (fun q9 => absurd q9.1 (Nat.ne_of_beq_eq_false rfl))).trans ((pw72.2 0 74 (fun q9 => absurd q9.1 (Nat.ne_of_beq_eq_false rfl))).trans ((pw68.2 0 74 (fun q9 => absurd q9.1 (Nat.ne_of_beq_eq_false rfl))).trans ((pw64.2 0 74 (fun q9 => absurd q9.1 (Nat.ne_of_beq_eq_false rfl))).trans ((pw11.2 0 74 (fun q9 => absurd q9.2 (Nat.ne_of_beq_eq_false rfl))).trans fy1))))) dX13_word_133 ?_
                            refine lv_iload hx hb dX13_word_136 (lv_at hl 5 rfl) ?_
                            have n78 : vp_in y1 200 := (iv_in (n := 200) i16 (by decide))
                            refine th_iast hx hb hK hP (WX_D hD) hS hI 42 (Nat.le_of_ble_eq_true rfl) rfl rfl n78 (okI rfl i53) dX13_word_138 (fun H locs E79 pw80 hI hP hS => ?_)
                            have hKp := hKp.pw pw80 rfl
                            obtain ⟨g81, eg81⟩ : ∃ z : Nat → Int32, z = upd g6 y1.toNatClampNeg a4 := ⟨_, rfl⟩
                            have hg81 : xi (E79 42) = g81 := by rw [pw80.eu, ((pw76.ef 42 (Nat.ne_of_beq_eq_false rfl)).trans ((pw72.ef 42 (Nat.ne_of_beq_eq_false rfl)).trans ((pw68.ef 42 (Nat.ne_of_beq_eq_false rfl)).trans ((pw64.ef 42 (Nat.ne_of_beq_eq_false rfl)).trans ((pw11.ef 42 (Nat.ne_of_beq_eq_false rfl)).trans hg6))))), eg81]
                            refine lv_aload_n hx hb dX13_word_139 rfl (lv_at hl 0 rfl) ?_
                            refine th_get (ci := 14) (C := RX13) (T := TX13) (N := 97) (v := .ref (ad 43)) hx hb hts hinX13 hown hK hP hI 0 (Nat.le_of_ble_eq_true rfl) rfl rfl 61 (Nat.le_of_ble_eq_true rfl) (hts _ (vA_in _ _ (in_25 _ (zs16 (zs4 (zs4 (zs1 (zs1 (zs0))))))))) (fun _ h9 => h9) (hI.fr 0 (Nat.le_of_ble_eq_true rfl) rfl (Nat.le_of_ble_eq_true rfl) 43 rfl) dX13_word_140 ?_
                            refine lv_aload_n hx hb dX13_word_143 rfl (lv_at hl 0 rfl) ?_
                            refine th_get (ci := 14) (C := RX13) (T := TX13) (N := 97) (v := .int y1) hx hb hts hinX13 hown hK hP hI 0 (Nat.le_of_ble_eq_true rfl) rfl rfl 74 (Nat.le_of_ble_eq_true rfl) (hts _ (vA_in _ _ (in_25 _ (zs4 (zs4 (zs1 (zs1 (zs1 (zs0))))))))) (fun _ h9 => h9) ((pw80.2 0 74 (fun q9 => absurd q9.1 (Nat.ne_of_beq_eq_false rfl))).trans ((pw76.2 0 74 (fun q9 => absurd q9.1 (Nat.ne_of_beq_eq_false rfl))).trans ((pw72.2 0 74 (fun q9 => absurd q9.1 (Nat.ne_of_beq_eq_false rfl))).trans ((pw68.2 0 74 (fun q9 => absurd q9.1 (Nat.ne_of_beq_eq_false rfl))).trans ((pw64.2 0 74 (fun q9 => absurd q9.1 (Nat.ne_of_beq_eq_false rfl))).trans ((pw11.2 0 74 (fun q9 => absurd q9.2 (Nat.ne_of_beq_eq_false rfl))).trans fy1)))))) dX13_word_144 ?_
                            refine lv_iload hx hb dX13_word_147 (lv_at hl 6 rfl) ?_
                            have n82 : vp_in y1 200 := (iv_in (n := 200) i16 (by decide))
                            refine th_iast hx hb hK hP (WX_D hD) hS hI 43 (Nat.le_of_ble_eq_true rfl) rfl rfl n82 (okI rfl i37) dX13_word_149 (fun H locs E83 pw84 hI hP hS => ?_)
                            have hKp := hKp.pw pw84 rfl
                            obtain ⟨g85, eg85⟩ : ∃ z : Nat → Int32, z = upd g7 y1.toNatClampNeg a5 := ⟨_, rfl⟩
                            have hg85 : xi (E83 43) = g85 := by rw [pw84.eu, ((pw80.ef 43 (Nat.ne_of_beq_eq_false rfl)).trans ((pw76.ef 43 (Nat.ne_of_beq_eq_false rfl)).trans ((pw72.ef 43 (Nat.ne_of_beq_eq_false rfl)).trans ((pw68.ef 43 (Nat.ne_of_beq_eq_false rfl)).trans ((pw64.ef 43 (Nat.ne_of_beq_eq_false rfl)).trans ((pw11.ef 43 (Nat.ne_of_beq_eq_false rfl)).trans hg7)))))), eg85]
                            refine lv_aload_n hx hb dX13_word_150 rfl (lv_at hl 0 rfl) ?_
                            refine th_get (ci := 14) (C := RX13) (T := TX13) (N := 97) (v := .ref (ad 44)) hx hb hts hinX13 hown hK hP hI 0 (Nat.le_of_ble_eq_true rfl) rfl rfl 62 (Nat.le_of_ble_eq_true rfl) (hts _ (vA_in _ _ (in_25 _ (zs16 (zs0))))) (fun _ h9 => h9) (hI.fr 0 (Nat.le_of_ble_eq_true rfl) rfl (Nat.le_of_ble_eq_true rfl) 44 rfl) dX13_word_151 ?_
                            refine lv_aload_n hx hb dX13_word_154 rfl (lv_at hl 0 rfl) ?_
                            refine th_get (ci := 14) (C := RX13) (T := TX13) (N := 97) (v := .int y1) hx hb hts hinX13 hown hK hP hI 0 (Nat.le_of_ble_eq_true rfl) rfl rfl 74 (Nat.le_of_ble_eq_true rfl) (hts _ (vA_in _ _ (in_25 _ (zs4 (zs4 (zs1 (zs1 (zs1 (zs0))))))))) (fun _ h9 => h9) ((pw84.2 0 74 (fun q9 => absurd q9.1 (Nat.ne_of_beq_eq_false rfl))).trans ((pw80.2 0 74 (fun q9 => absurd q9.1 (Nat.ne_of_beq_eq_false rfl))).trans ((pw76.2 0 74 (fun q9 => absurd q9.1 (Nat.ne_of_beq_eq_false rfl))).trans ((pw72.2 0 74 (fun q9 => absurd q9.1 (Nat.ne_of_beq_eq_false rfl))).trans ((pw68.2 0 74 (fun q9 => absurd q9.1 (Nat.ne_of_beq_eq_false rfl))).trans ((pw64.2 0 74 (fun q9 => absurd q9.1 (Nat.ne_of_beq_eq_false rfl))).trans ((pw11.2 0 74 (fun q9 => absurd q9.2 (Nat.ne_of_beq_eq_false rfl))).trans fy1))))))) dX13_word_155 ?_
                            refine lv_iload hx hb dX13_word_158 (lv_at hl 7 rfl) ?_
                            have n86 : vp_in y1 200 := (iv_in (n := 200) i16 (by decide))
                            refine th_iast hx hb hK hP (WX_D hD) hS hI 44 (Nat.le_of_ble_eq_true rfl) rfl rfl n86 (okI rfl (iv_w i60 (by decide))) dX13_word_160 (fun H locs E87 pw88 hI hP hS => ?_)
                            have hKp := hKp.pw pw88 rfl
                            obtain ⟨g89, eg89⟩ : ∃ z : Nat → Int32, z = upd g8 y1.toNatClampNeg a6 := ⟨_, rfl⟩
                            have hg89 : xi (E87 44) = g89 := by rw [pw88.eu, ((pw84.ef 44 (Nat.ne_of_beq_eq_false rfl)).trans ((pw80.ef 44 (Nat.ne_of_beq_eq_false rfl)).trans ((pw76.ef 44 (Nat.ne_of_beq_eq_false rfl)).trans ((pw72.ef 44 (Nat.ne_of_beq_eq_false rfl)).trans ((pw68.ef 44 (Nat.ne_of_beq_eq_false rfl)).trans ((pw64.ef 44 (Nat.ne_of_beq_eq_false rfl)).trans ((pw11.ef 44 (Nat.ne_of_beq_eq_false rfl)).trans hg8))))))), eg89]
                            refine lv_aload_n hx hb dX13_word_161 rfl (lv_at hl 0 rfl) ?_
                            refine th_get (ci := 14) (C := RX13) (T := TX13) (N := 97) (v := .ref (ad 45)) hx hb hts hinX13 hown hK hP hI 0 (Nat.le_of_ble_eq_true rfl) rfl rfl 63 (Nat.le_of_ble_eq_true rfl) (hts _ (vA_in _ _ (in_25 _ (zs4 (zs4 (zs4 (zs1 (zs1 (zs0))))))))) (fun _ h9 => h9) (hI.fr 0 (Nat.le_of_ble_eq_true rfl) rfl (Nat.le_of_ble_eq_true rfl) 45 rfl) dX13_word_162 ?_
                            refine lv_aload_n hx hb dX13_word_165 rfl (lv_at hl 0 rfl) ?_
                            refine th_get (ci := 14) (C := RX13) (T := TX13) (N := 97) (v := .int y1) hx hb hts hinX13 hown hK hP hI 0 (Nat.le_of_ble_eq_true rfl) rfl rfl 74 (Nat.le_of_ble_eq_true rfl) (hts _ (vA_in _ _ (in_25 _ (zs4 (zs4 (zs1 (zs1 (zs1 (zs0))))))))) (fun _ h9 => h9) ((pw88.2 0 74 (fun q9 => absurd q9.1 (Nat.ne_of_beq_eq_false rfl))).trans ((pw84.2 0 74 (fun q9 => absurd q9.1 (Nat.ne_of_beq_eq_false rfl))).trans ((pw80.2 0 74 (fun q9 => absurd q9.1 (Nat.ne_of_beq_eq_false rfl))).trans ((pw76.2 0 74 (fun q9 => absurd q9.1 (Nat.ne_of_beq_eq_false rfl))).trans ((pw72.2 0 74 (fun q9 => absurd q9.1 (Nat.ne_of_beq_eq_false rfl))).trans ((pw68.2 0 74 (fun q9 => absurd q9.1 (Nat.ne_of_beq_eq_false rfl))).trans ((pw64.2 0 74 (fun q9 => absurd q9.1 (Nat.ne_of_beq_eq_false rfl))).trans ((pw11.2 0 74 (fun q9 => absurd q9.2 (Nat.ne_of_beq_eq_false rfl))).trans fy1)))))))) dX13_word_166 ?_
                            refine lv_aload_n hx hb dX13_word_169 rfl (lv_at hl 0 rfl) ?_
                            refine th_get (ci := 14) (C := RX13) (T := TX13) (N := 97) (v := .int (xi (E 0) 1)) hx hb hts hinX13 hown hK hP hI 0 (Nat.le_of_ble_eq_true rfl) rfl rfl 1 (Nat.le_of_ble_eq_true rfl) (hts _ (vA_in _ _ (in_24 _ (zs16 (zs4 (zs4 (zs1 (zs1 (zs1 (zs0)))))))))) (fun _ h9 => h9) (th_v0 hKp hI0 0 (Nat.le_of_ble_eq_true rfl) rfl (Nat.le_of_ble_eq_true rfl) rfl rfl) dX13_word_170 ?_
                            have n90 : vp_in y1 200 := (iv_in (n := 200) i16 (by decide))
                            refine th_iast hx hb hK hP (WX_D hD) hS hI 45 (Nat.le_of_ble_eq_true rfl) rfl rfl n90 (okI rfl i23) dX13_word_173 (fun H locs E91 pw92 hI hP hS => ?_)
                            have hKp := hKp.pw pw92 rfl
                            obtain ⟨g93, eg93⟩ : ∃ z : Nat → Int32, z = upd g9 y1.toNatClampNeg (xi (E 0) 1) := ⟨_, rfl⟩
                            have hg93 : xi (E91 45) = g93 := by rw [pw92.eu, ((pw88.ef 45 (Nat.ne_of_beq_eq_false rfl)).trans ((pw84.ef 45 (Nat.ne_of_beq_eq_false rfl)).trans ((pw80.ef 45 (Nat.ne_of_beq_eq_false rfl)).trans ((pw76.ef 45 (Nat.ne_of_beq_eq_false rfl)).trans ((pw72.ef 45 (Nat.ne_of_beq_eq_false rfl)).trans ((pw68.ef 45 (Nat.ne_of_beq_eq_false rfl)).trans ((pw64.ef 45 (Nat.ne_of_beq_eq_false rfl)).trans ((pw11.ef 45 (Nat.ne_of_beq_eq_false rfl)).trans hg9)))))))), eg93]
                            refine lv_aload_n hx hb dX13_word_174 rfl (lv_at hl 0 rfl) ?_
                            refine lv_dup hx hb dX13_word_175 rfl ?_
                            refine th_get (ci := 14) (C := RX13) (T := TX13) (N := 97) (v := .int y1) hx hb hts hinX13 hown hK hP hI 0 (Nat.le_of_ble_eq_true rfl) rfl rfl 74 (Nat.le_of_ble_eq_true rfl) (hts _ (vA_in _ _ (in_25 _ (zs4 (zs4 (zs1 (zs1 (zs1 (zs0))))))))) (fun _ h9 => h9) ((pw92.2 0 74 (fun q9 => absurd q9.1 (Nat.ne_of_beq_eq_false rfl))).trans ((pw88.2 0 74 (fun q9 => absurd q9.1 (Nat.ne_of_beq_eq_false rfl))).trans ((pw84.2 0 74 (fun q9 => absurd q9.1 (Nat.ne_of_beq_eq_false rfl))).trans ((pw80.2 0 74 (fun q9 => absurd q9.1 (Nat.ne_of_beq_eq_false rfl))).trans ((pw76.2 0 74 (fun q9 => absurd q9.1 (Nat.ne_of_beq_eq_false rfl))).trans ((pw72.2 0 74 (fun q9 => absurd q9.1 (Nat.ne_of_beq_eq_false rfl))).trans ((pw68.2 0 74 (fun q9 => absurd q9.1 (Nat.ne_of_beq_eq_false rfl))).trans ((pw64.2 0 74 (fun q9 => absurd q9.1 (Nat.ne_of_beq_eq_false rfl))).trans ((pw11.2 0 74 (fun q9 => absurd q9.2 (Nat.ne_of_beq_eq_false rfl))).trans fy1))))))))) dX13_word_176 ?_
                            refine lv_iconst (v := 1) hx hb dX13_word_179 (by decide) ?_
                            refine lv_iadd hx hb dX13_word_180 ?_
                            refine lv_topi (fun y94 ey94 => ?_)
                            obtain ⟨ty94, iy94⟩ := ti_add (e := 1) (f := 200) i16 ln_1 ey94 (by decide)
                            have ty94 : y94.toInt = y1.toInt + 1 := ty94
                            have iy94 : 1 ≤ y94.toInt ∧ y94.toInt ≤ 200 := iy94
                            refine th_put (ci := 14) (C := RX13) (T := TX13) (N := 97) (v := .int y94) (ty := .int) hx hb hts hinX13 tyX13 tyX13_ok nmX13 hown hK hP (WX_D hD) hS hI 0 (Nat.le_of_ble_eq_true rfl) rfl rfl 74 (Nat.le_of_ble_eq_true rfl) (hts _ (vA_in _ _ (in_25 _ (zs4 (zs4 (zs1 (zs1 (zs1 (zs0))))))))) (fun _ h9 => h9) rfl (by decide +kernel) rfl rfl (okI rfl (iv_w iy94 (by decide))) dX13_word_181 (fun H locs E95 pw96 hI hP hS => ?_)
                            have hKp := hKp.pw pw96 rfl
                            refine lv_aload_n hx hb dX13_word_184 rfl (lv_at hl 0 rfl) ?_
                            refine th_get (ci := 14) (C := RX13) (T := TX13) (N := 97) (v := .int y94) hx hb hts hinX13 hown hK hP hI 0 (Nat.le_of_ble_eq_true rfl) rfl rfl 74 (Nat.le_of_ble_eq_true rfl) (hts _ (vA_in _ _ (in_25 _ (zs4 (zs4 (zs1 (zs1 (zs1 (zs0))))))))) (fun _ h9 => h9) pw96.1 dX13_word_185 ?_
                            refine lv_iconst (v := 1) hx hb dX13_word_188 (by decide) ?_
                            refine lv_isub hx hb dX13_word_189 ?_
                            refine lv_topi (fun y97 ey97 => ?_)
                            obtain ⟨ty97, iy97⟩ := ti_sub (e := 0) (f := 199) iy94 ln_1 ey97 (by decide)
                            have ty97 : y97.toInt = y94.toInt - 1 := ty97
                            have iy97 : 0 ≤ y97.toInt ∧ y97.toInt ≤ 199 := iy97
                            rw [hQ]
                            exact W.iret (v := y97) hx hb hr (fun t ht hW => ⟨⟨y97, E95, rfl, ⟨hI, hKp, ⟨by (try rw [(show xi (E95 0) 74 = y94 from vi_e pw96.1)]); (try rw [ey1]); all_goals omega, ⟨fun _ => ⟨(show xi (E95 38) = g65 from ((pw96.ef 38 (Nat.ne_of_beq_eq_false rfl)).trans ((pw92.ef 38 (Nat.ne_of_beq_eq_false rfl)).trans ((pw88.ef 38 (Nat.ne_of_beq_eq_false rfl)).trans ((pw84.ef 38 (Nat.ne_of_beq_eq_false rfl)).trans ((pw80.ef 38 (Nat.ne_of_beq_eq_false rfl)).trans ((pw76.ef 38 (Nat.ne_of_beq_eq_false rfl)).trans ((pw72.ef 38 (Nat.ne_of_beq_eq_false rfl)).trans ((pw68.ef 38 (Nat.ne_of_beq_eq_false rfl)).trans hg65))))))))).trans (by rw [eg65, show xi (E 38) = g2 from hg2, ey1]), (show xi (E95 39) = g69 from ((pw96.ef 39 (Nat.ne_of_beq_eq_false rfl)).trans ((pw92.ef 39 (Nat.ne_of_beq_eq_false rfl)).trans ((pw88.ef 39 (Nat.ne_of_beq_eq_false rfl)).trans ((pw84.ef 39 (Nat.ne_of_beq_eq_false rfl)).trans ((pw80.ef 39 (Nat.ne_of_beq_eq_false rfl)).trans ((pw76.ef 39 (Nat.ne_of_beq_eq_false rfl)).trans ((pw72.ef 39 (Nat.ne_of_beq_eq_false rfl)).trans hg69)))))))).trans (by rw [eg69, show xi (E 39) = g3 from hg3, ey1]), (show xi (E95 40) = g73 from ((pw96.ef 40 (Nat.ne_of_beq_eq_false rfl)).trans ((pw92.ef 40 (Nat.ne_of_beq_eq_false rfl)).trans ((pw88.ef 40 (Nat.ne_of_beq_eq_false rfl)).trans ((pw84.ef 40 (Nat.ne_of_beq_eq_false rfl)).trans ((pw80.ef 40 (Nat.ne_of_beq_eq_false rfl)).trans ((pw76.ef 40 (Nat.ne_of_beq_eq_false rfl)).trans hg73))))))).trans (by rw [eg73, show xi (E 40) = g4 from hg4, ey1]), (show xi (E95 41) = g77 from ((pw96.ef 41 (Nat.ne_of_beq_eq_false rfl)).trans ((pw92.ef 41 (Nat.ne_of_beq_eq_false rfl)).trans ((pw88.ef 41 (Nat.ne_of_beq_eq_false rfl)).trans ((pw84.ef 41 (Nat.ne_of_beq_eq_false rfl)).trans ((pw80.ef 41 (Nat.ne_of_beq_eq_false rfl)).trans hg77)))))).trans (by rw [eg77, show xi (E 41) = g5 from hg5, ey1]), (show xi (E95 42) = g81 from ((pw96.ef 42 (Nat.ne_of_beq_eq_false rfl)).trans ((pw92.ef 42 (Nat.ne_of_beq_eq_false rfl)).trans ((pw88.ef 42 (Nat.ne_of_beq_eq_false rfl)).trans ((pw84.ef 42 (Nat.ne_of_beq_eq_false rfl)).trans hg81))))).trans (by rw [eg81, show xi (E 42) = g6 from hg6, ey1]), (show xi (E95 43) = g85 from ((pw96.ef 43 (Nat.ne_of_beq_eq_false rfl)).trans ((pw92.ef 43 (Nat.ne_of_beq_eq_false rfl)).trans ((pw88.ef 43 (Nat.ne_of_beq_eq_false rfl)).trans hg85)))).trans (by rw [eg85, show xi (E 43) = g7 from hg7, ey1]), (show xi (E95 44) = g89 from ((pw96.ef 44 (Nat.ne_of_beq_eq_false rfl)).trans ((pw92.ef 44 (Nat.ne_of_beq_eq_false rfl)).trans hg89))).trans (by rw [eg89, show xi (E 44) = g8 from hg8, ey1]), (show xi (E95 45) = g93 from ((pw96.ef 45 (Nat.ne_of_beq_eq_false rfl)).trans hg93)).trans (by rw [eg93, show xi (E 45) = g9 from hg9, ey1])⟩, fun g9 => by exfalso; exact g9 (by (try rw [ey1]); omega)⟩⟩⟩, by show va_P (dC, dI) vwCl (WX 72 ad E95) t.heap; rw [ht]; exact hP⟩, hS.F ht⟩) hS.2.2 dX13_word_190
                          · --82 not
                            exact absurd c61 (by decide)
                        · -- isIn, case 1
                          obtain ⟨rfl, f98⟩ := hw
                          have t99 : ¬ ((1 : Int) ≤ a6.toInt ∧ a6.toInt ≤ 255) := f98
                          refine lv_if_ne (tgt := 87) hx hb dX13_word_82 (by decide) (fun c100 => ?_) (fun c100 => ?_)
                          · --82 taken
                            exact absurd c100 (by decide)
                          · --82 not
                            refine lv_iconst (v := -1) hx hb dX13_word_85 (by decide) ?_
                            rw [hQ]
                            exact W.iret (v := (-1)) hx hb hr (fun t ht hW => ⟨⟨(-1), E10, rfl, ⟨hI, hKp, ⟨by have h8 := ln_m1; (try rw [(show xi (E10 0) 74 = y1 from vi_e ((pw11.2 0 74 (fun q9 => absurd q9.2 (Nat.ne_of_beq_eq_false rfl))).trans fy1))]); (try rw [ey1]); all_goals omega, ⟨fun g9 => by exfalso; (try rw [ey1] at g9); omega, fun _ => ⟨(show xi (E10 38) = g2 from ((pw11.ef 38 (Nat.ne_of_beq_eq_false rfl)).trans hg2)).trans (show xi (E 38) = g2 from hg2).symm, (show xi (E10 39) = g3 from ((pw11.ef 39 (Nat.ne_of_beq_eq_false rfl)).trans hg3)).trans (show xi (E 39) = g3 from hg3).symm, (show xi (E10 40) = g4 from ((pw11.ef 40 (Nat.ne_of_beq_eq_false rfl)).trans hg4)).trans (show xi (E 40) = g4 from hg4).symm, (show xi (E10 41) = g5 from ((pw11.ef 41 (Nat.ne_of_beq_eq_false rfl)).trans hg5)).trans (show xi (E 41) = g5 from hg5).symm, (show xi (E10 42) = g6 from ((pw11.ef 42 (Nat.ne_of_beq_eq_false rfl)).trans hg6)).trans (show xi (E 42) = g6 from hg6).symm, (show xi (E10 43) = g7 from ((pw11.ef 43 (Nat.ne_of_beq_eq_false rfl)).trans hg7)).trans (show xi (E 43) = g7 from hg7).symm, (show xi (E10 44) = g8 from ((pw11.ef 44 (Nat.ne_of_beq_eq_false rfl)).trans hg8)).trans (show xi (E 44) = g8 from hg8).symm, (show xi (E10 45) = g9 from ((pw11.ef 45 (Nat.ne_of_beq_eq_false rfl)).trans hg9)).trans (show xi (E 45) = g9 from hg9).symm⟩⟩⟩⟩, by show va_P (dC, dI) vwCl (WX 72 ad E10) t.heap; rw [ht]; exact hP⟩, hS.F ht⟩) hS.2.2 dX13_word_86
                    · -- isIn, case 1
                      obtain ⟨rfl, f101⟩ := hw
                      have t102 : ¬ ((0 : Int) ≤ a4.toInt ∧ a4.toInt ≤ y47.toInt) := f101
                      refine lv_if_eq (tgt := 85) hx hb dX13_word_70 (by decide) (fun c103 => ?_) (fun c103 => ?_)
                      · --70 taken
                        refine lv_iconst (v := -1) hx hb dX13_word_85 (by decide) ?_
                        rw [hQ]
                        exact W.iret (v := (-1)) hx hb hr (fun t ht hW => ⟨⟨(-1), E10, rfl, ⟨hI, hKp, ⟨by have h8 := ln_m1; (try rw [(show xi (E10 0) 74 = y1 from vi_e ((pw11.2 0 74 (fun q9 => absurd q9.2 (Nat.ne_of_beq_eq_false rfl))).trans fy1))]); (try rw [ey1]); all_goals omega, ⟨fun g9 => by exfalso; (try rw [ey1] at g9); omega, fun _ => ⟨(show xi (E10 38) = g2 from ((pw11.ef 38 (Nat.ne_of_beq_eq_false rfl)).trans hg2)).trans (show xi (E 38) = g2 from hg2).symm, (show xi (E10 39) = g3 from ((pw11.ef 39 (Nat.ne_of_beq_eq_false rfl)).trans hg3)).trans (show xi (E 39) = g3 from hg3).symm, (show xi (E10 40) = g4 from ((pw11.ef 40 (Nat.ne_of_beq_eq_false rfl)).trans hg4)).trans (show xi (E 40) = g4 from hg4).symm, (show xi (E10 41) = g5 from ((pw11.ef 41 (Nat.ne_of_beq_eq_false rfl)).trans hg5)).trans (show xi (E 41) = g5 from hg5).symm, (show xi (E10 42) = g6 from ((pw11.ef 42 (Nat.ne_of_beq_eq_false rfl)).trans hg6)).trans (show xi (E 42) = g6 from hg6).symm, (show xi (E10 43) = g7 from ((pw11.ef 43 (Nat.ne_of_beq_eq_false rfl)).trans hg7)).trans (show xi (E 43) = g7 from hg7).symm, (show xi (E10 44) = g8 from ((pw11.ef 44 (Nat.ne_of_beq_eq_false rfl)).trans hg8)).trans (show xi (E 44) = g8 from hg8).symm, (show xi (E10 45) = g9 from ((pw11.ef 45 (Nat.ne_of_beq_eq_false rfl)).trans hg9)).trans (show xi (E 45) = g9 from hg9).symm⟩⟩⟩⟩, by show va_P (dC, dI) vwCl (WX 72 ad E10) t.heap; rw [ht]; exact hP⟩, hS.F ht⟩) hS.2.2 dX13_word_86
                      · --70 not
                        exact absurd c103 (by decide)
                · -- isIn, case 1
                  obtain ⟨rfl, f104⟩ := hw
                  have t105 : ¬ ((0 : Int) ≤ a3.toInt ∧ a3.toInt ≤ y39.toInt) := f104
                  refine lv_if_eq (tgt := 85) hx hb dX13_word_56 (by decide) (fun c106 => ?_) (fun c106 => ?_)
                  · --56 taken
                    refine lv_iconst (v := -1) hx hb dX13_word_85 (by decide) ?_
                    rw [hQ]
                    exact W.iret (v := (-1)) hx hb hr (fun t ht hW => ⟨⟨(-1), E10, rfl, ⟨hI, hKp, ⟨by have h8 := ln_m1; (try rw [(show xi (E10 0) 74 = y1 from vi_e ((pw11.2 0 74 (fun q9 => absurd q9.2 (Nat.ne_of_beq_eq_false rfl))).trans fy1))]); (try rw [ey1]); all_goals omega, ⟨fun g9 => by exfalso; (try rw [ey1] at g9); omega, fun _ => ⟨(show xi (E10 38) = g2 from ((pw11.ef 38 (Nat.ne_of_beq_eq_false rfl)).trans hg2)).trans (show xi (E 38) = g2 from hg2).symm, (show xi (E10 39) = g3 from ((pw11.ef 39 (Nat.ne_of_beq_eq_false rfl)).trans hg3)).trans (show xi (E 39) = g3 from hg3).symm, (show xi (E10 40) = g4 from ((pw11.ef 40 (Nat.ne_of_beq_eq_false rfl)).trans hg4)).trans (show xi (E 40) = g4 from hg4).symm, (show xi (E10 41) = g5 from ((pw11.ef 41 (Nat.ne_of_beq_eq_false rfl)).trans hg5)).trans (show xi (E 41) = g5 from hg5).symm, (show xi (E10 42) = g6 from ((pw11.ef 42 (Nat.ne_of_beq_eq_false rfl)).trans hg6)).trans (show xi (E 42) = g6 from hg6).symm, (show xi (E10 43) = g7 from ((pw11.ef 43 (Nat.ne_of_beq_eq_false rfl)).trans hg7)).trans (show xi (E 43) = g7 from hg7).symm, (show xi (E10 44) = g8 from ((pw11.ef 44 (Nat.ne_of_beq_eq_false rfl)).trans hg8)).trans (show xi (E 44) = g8 from hg8).symm, (show xi (E10 45) = g9 from ((pw11.ef 45 (Nat.ne_of_beq_eq_false rfl)).trans hg9)).trans (show xi (E 45) = g9 from hg9).symm⟩⟩⟩⟩, by show va_P (dC, dI) vwCl (WX 72 ad E10) t.heap; rw [ht]; exact hP⟩, hS.F ht⟩) hS.2.2 dX13_word_86
                  · --56 not
                    exact absurd c106 (by decide)
            · -- isIn, case 1
              obtain ⟨rfl, f107⟩ := hw
              have t108 : ¬ ((0 : Int) ≤ a5.toInt ∧ a5.toInt ≤ 3) := f107
              refine lv_if_eq (tgt := 85) hx hb dX13_word_42 (by decide) (fun c109 => ?_) (fun c109 => ?_)
              · --42 taken
                refine lv_iconst (v := -1) hx hb dX13_word_85 (by decide) ?_
                rw [hQ]
                exact W.iret (v := (-1)) hx hb hr (fun t ht hW => ⟨⟨(-1), E10, rfl, ⟨hI, hKp, ⟨by have h8 := ln_m1; (try rw [(show xi (E10 0) 74 = y1 from vi_e ((pw11.2 0 74 (fun q9 => absurd q9.2 (Nat.ne_of_beq_eq_false rfl))).trans fy1))]); (try rw [ey1]); all_goals omega, ⟨fun g9 => by exfalso; (try rw [ey1] at g9); omega, fun _ => ⟨(show xi (E10 38) = g2 from ((pw11.ef 38 (Nat.ne_of_beq_eq_false rfl)).trans hg2)).trans (show xi (E 38) = g2 from hg2).symm, (show xi (E10 39) = g3 from ((pw11.ef 39 (Nat.ne_of_beq_eq_false rfl)).trans hg3)).trans (show xi (E 39) = g3 from hg3).symm, (show xi (E10 40) = g4 from ((pw11.ef 40 (Nat.ne_of_beq_eq_false rfl)).trans hg4)).trans (show xi (E 40) = g4 from hg4).symm, (show xi (E10 41) = g5 from ((pw11.ef 41 (Nat.ne_of_beq_eq_false rfl)).trans hg5)).trans (show xi (E 41) = g5 from hg5).symm, (show xi (E10 42) = g6 from ((pw11.ef 42 (Nat.ne_of_beq_eq_false rfl)).trans hg6)).trans (show xi (E 42) = g6 from hg6).symm, (show xi (E10 43) = g7 from ((pw11.ef 43 (Nat.ne_of_beq_eq_false rfl)).trans hg7)).trans (show xi (E 43) = g7 from hg7).symm, (show xi (E10 44) = g8 from ((pw11.ef 44 (Nat.ne_of_beq_eq_false rfl)).trans hg8)).trans (show xi (E 44) = g8 from hg8).symm, (show xi (E10 45) = g9 from ((pw11.ef 45 (Nat.ne_of_beq_eq_false rfl)).trans hg9)).trans (show xi (E 45) = g9 from hg9).symm⟩⟩⟩⟩, by show va_P (dC, dI) vwCl (WX 72 ad E10) t.heap; rw [ht]; exact hP⟩, hS.F ht⟩) hS.2.2 dX13_word_86
              · --42 not
                exact absurd c109 (by decide)
        · -- isIn, case 1
          obtain ⟨rfl, f110⟩ := hw
          have t111 : ¬ ((0 : Int) ≤ a2.toInt ∧ a2.toInt ≤ 100000) := f110
          refine lv_if_eq (tgt := 85) hx hb dX13_word_32 (by decide) (fun c112 => ?_) (fun c112 => ?_)
          · --32 taken
            refine lv_iconst (v := -1) hx hb dX13_word_85 (by decide) ?_
            rw [hQ]
            exact W.iret (v := (-1)) hx hb hr (fun t ht hW => ⟨⟨(-1), E10, rfl, ⟨hI, hKp, ⟨by have h8 := ln_m1; (try rw [(show xi (E10 0) 74 = y1 from vi_e ((pw11.2 0 74 (fun q9 => absurd q9.2 (Nat.ne_of_beq_eq_false rfl))).trans fy1))]); (try rw [ey1]); all_goals omega, ⟨fun g9 => by exfalso; (try rw [ey1] at g9); omega, fun _ => ⟨(show xi (E10 38) = g2 from ((pw11.ef 38 (Nat.ne_of_beq_eq_false rfl)).trans hg2)).trans (show xi (E 38) = g2 from hg2).symm, (show xi (E10 39) = g3 from ((pw11.ef 39 (Nat.ne_of_beq_eq_false rfl)).trans hg3)).trans (show xi (E 39) = g3 from hg3).symm, (show xi (E10 40) = g4 from ((pw11.ef 40 (Nat.ne_of_beq_eq_false rfl)).trans hg4)).trans (show xi (E 40) = g4 from hg4).symm, (show xi (E10 41) = g5 from ((pw11.ef 41 (Nat.ne_of_beq_eq_false rfl)).trans hg5)).trans (show xi (E 41) = g5 from hg5).symm, (show xi (E10 42) = g6 from ((pw11.ef 42 (Nat.ne_of_beq_eq_false rfl)).trans hg6)).trans (show xi (E 42) = g6 from hg6).symm, (show xi (E10 43) = g7 from ((pw11.ef 43 (Nat.ne_of_beq_eq_false rfl)).trans hg7)).trans (show xi (E 43) = g7 from hg7).symm, (show xi (E10 44) = g8 from ((pw11.ef 44 (Nat.ne_of_beq_eq_false rfl)).trans hg8)).trans (show xi (E 44) = g8 from hg8).symm, (show xi (E10 45) = g9 from ((pw11.ef 45 (Nat.ne_of_beq_eq_false rfl)).trans hg9)).trans (show xi (E 45) = g9 from hg9).symm⟩⟩⟩⟩, by show va_P (dC, dI) vwCl (WX 72 ad E10) t.heap; rw [ht]; exact hP⟩, hS.F ht⟩) hS.2.2 dX13_word_86
          · --32 not
            exact absurd c112 (by decide)
    · -- isEntry, case 1
      obtain ⟨rfl, f113⟩ := hw
      have i114 : 0 ≤ (xi (E 0) 46).toInt ∧ (xi (E 0) 46).toInt ≤ 20 := (show 0 ≤ (xi (E 0) 46).toInt ∧ (xi (E 0) 46).toInt ≤ 20 from hI0.iv 0 (Nat.le_of_ble_eq_true rfl) rfl (Nat.le_of_ble_eq_true rfl) rfl)
      have i115 : 0 ≤ (xi (E 0) 8).toInt ∧ (xi (E 0) 8).toInt ≤ 16 := (show 0 ≤ (xi (E 0) 8).toInt ∧ (xi (E 0) 8).toInt ≤ 16 from hI0.iv 0 (Nat.le_of_ble_eq_true rfl) rfl (Nat.le_of_ble_eq_true rfl) rfl)
      have i116 : 0 ≤ (xi (E 0) 1).toInt ∧ (xi (E 0) 1).toInt ≤ 400 := (show 0 ≤ (xi (E 0) 1).toInt ∧ (xi (E 0) 1).toInt ≤ 400 from hI0.iv 0 (Nat.le_of_ble_eq_true rfl) rfl (Nat.le_of_ble_eq_true rfl) rfl)
      try rw [hKp.ei 0 46 rfl] at f113
      try rw [hKp.ei 0 8 rfl] at f113
      try rw [hKp.ei 0 1 rfl] at f113
      try rw [hKp.ef 21 (fun _ => rfl)] at f113
      refine lv_if_eq (tgt := 85) hx hb dX13_word_21 (by decide) (fun c117 => ?_) (fun c117 => ?_)
      · --21 taken
        refine lv_iconst (v := -1) hx hb dX13_word_85 (by decide) ?_
        rw [hQ]
        exact W.iret (v := (-1)) hx hb hr (fun t ht hW => ⟨⟨(-1), E10, rfl, ⟨hI, hKp, ⟨by have h8 := ln_m1; (try rw [(show xi (E10 0) 74 = y1 from vi_e ((pw11.2 0 74 (fun q9 => absurd q9.2 (Nat.ne_of_beq_eq_false rfl))).trans fy1))]); (try rw [ey1]); all_goals omega, ⟨fun g9 => by exfalso; (try rw [ey1] at g9); omega, fun _ => ⟨(show xi (E10 38) = g2 from ((pw11.ef 38 (Nat.ne_of_beq_eq_false rfl)).trans hg2)).trans (show xi (E 38) = g2 from hg2).symm, (show xi (E10 39) = g3 from ((pw11.ef 39 (Nat.ne_of_beq_eq_false rfl)).trans hg3)).trans (show xi (E 39) = g3 from hg3).symm, (show xi (E10 40) = g4 from ((pw11.ef 40 (Nat.ne_of_beq_eq_false rfl)).trans hg4)).trans (show xi (E 40) = g4 from hg4).symm, (show xi (E10 41) = g5 from ((pw11.ef 41 (Nat.ne_of_beq_eq_false rfl)).trans hg5)).trans (show xi (E 41) = g5 from hg5).symm, (show xi (E10 42) = g6 from ((pw11.ef 42 (Nat.ne_of_beq_eq_false rfl)).trans hg6)).trans (show xi (E 42) = g6 from hg6).symm, (show xi (E10 43) = g7 from ((pw11.ef 43 (Nat.ne_of_beq_eq_false rfl)).trans hg7)).trans (show xi (E 43) = g7 from hg7).symm, (show xi (E10 44) = g8 from ((pw11.ef 44 (Nat.ne_of_beq_eq_false rfl)).trans hg8)).trans (show xi (E 44) = g8 from hg8).symm, (show xi (E10 45) = g9 from ((pw11.ef 45 (Nat.ne_of_beq_eq_false rfl)).trans hg9)).trans (show xi (E 45) = g9 from hg9).symm⟩⟩⟩⟩, by show va_P (dC, dI) vwCl (WX 72 ad E10) t.heap; rw [ht]; exact hP⟩, hS.F ht⟩) hS.2.2 dX13_word_86
      · --21 not
        exact absurd c117 (by decide)
def v_protestR : List Cond := .code yX13_protest cX13_protest 5 (some .int) :: vA
abbrev rm_protestR : Room := { frames := 2, cells := 0, slots := 0, locals := 80 }
def w_protestR : Nat → Nat → Bool := wl [46, 47, 48, 49, 50] [(0, 0), (0, 75)]
set_option maxHeartbeats 4000000 in
set_option maxRecDepth 100000 in
theorem q_protestR (l : Launch) (dC : Nat → ClassId) (dI : Nat → Nat → Nat) (cT : Nat → ClassId) (ad : Nat → Nat) (E : Nat → va_E) (sz : Nat) (a0 : Int32) (a1 : Int32) (a2 : Int32) (a3 : Int32) (hI0 : IX cT shM spM 72 ad E)  : Met l yX13_protest v_protestR rm_protestR (va_Pc [.ref (ad 0), .int a0, .int a1, .int a2, .int a3] (HW dC dI (TYM cT) 72 ad E sz)) (va_Qi (S := Nat → va_E) (fun r u => IX cT shM spM 72 ad u ∧ Kp w_protestR E u ∧ (((((((0 ≤ a0.toInt ∧ a0.toInt < (xi (E 0) 46).toInt) ∧ (0 ≤ a1.toInt ∧ a1.toInt < (xi (E 0) 8).toInt) ∧ (xi (E 21) (16 * a0.toInt + a1.toInt).toNat).toInt ≤ (xi (E 0) 1).toInt) ∧ ((0 ≤ a0.toInt ∧ a0.toInt < (xi (E 0) 46).toInt) ∧ (0 ≤ a2.toInt ∧ a2.toInt < (xi (E 0) 8).toInt) ∧ (xi (E 21) (16 * a0.toInt + a2.toInt).toNat).toInt ≤ (xi (E 0) 1).toInt) ∧ ¬ a1.toInt = a2.toInt ∧ (0 ≤ a3.toInt ∧ a3.toInt ≤ 100000) ∧ (xi (E 0) 75).toInt < 30) → (r.toInt = (xi (E 0) 75).toInt ∧ (xi (u 0) 75).toInt = (xi (E 0) 75).toInt + 1)) ∧ (¬ (((0 ≤ a0.toInt ∧ a0.toInt < (xi (E 0) 46).toInt) ∧ (0 ≤ a1.toInt ∧ a1.toInt < (xi (E 0) 8).toInt) ∧ (xi (E 21) (16 * a0.toInt + a1.toInt).toNat).toInt ≤ (xi (E 0) 1).toInt) ∧ ((0 ≤ a0.toInt ∧ a0.toInt < (xi (E 0) 46).toInt) ∧ (0 ≤ a2.toInt ∧ a2.toInt < (xi (E 0) 8).toInt) ∧ (xi (E 21) (16 * a0.toInt + a2.toInt).toNat).toInt ≤ (xi (E 0) 1).toInt) ∧ ¬ a1.toInt = a2.toInt ∧ (0 ≤ a3.toInt ∧ a3.toInt ≤ 100000) ∧ (xi (E 0) 75).toInt < 30) → (r.toInt = -1 ∧ (xi (u 0) 75).toInt = (xi (E 0) 75).toInt)))) ∧ ((((((0 ≤ a0.toInt ∧ a0.toInt < (xi (E 0) 46).toInt) ∧ (0 ≤ a1.toInt ∧ a1.toInt < (xi (E 0) 8).toInt) ∧ (xi (E 21) (16 * a0.toInt + a1.toInt).toNat).toInt ≤ (xi (E 0) 1).toInt) ∧ ((0 ≤ a0.toInt ∧ a0.toInt < (xi (E 0) 46).toInt) ∧ (0 ≤ a2.toInt ∧ a2.toInt < (xi (E 0) 8).toInt) ∧ (xi (E 21) (16 * a0.toInt + a2.toInt).toNat).toInt ≤ (xi (E 0) 1).toInt) ∧ ¬ a1.toInt = a2.toInt ∧ (0 ≤ a3.toInt ∧ a3.toInt ≤ 100000) ∧ (xi (E 0) 75).toInt < 30) → (xi (u 46) = upd (xi (E 46)) (xi (E 0) 75).toNatClampNeg a0 ∧ xi (u 47) = upd (xi (E 47)) (xi (E 0) 75).toNatClampNeg a1 ∧ xi (u 48) = upd (xi (E 48)) (xi (E 0) 75).toNatClampNeg a2 ∧ xi (u 49) = upd (xi (E 49)) (xi (E 0) 75).toNatClampNeg a3 ∧ xi (u 50) = upd (xi (E 50)) (xi (E 0) 75).toNatClampNeg (xi (E 0) 1))) ∧ (¬ (((0 ≤ a0.toInt ∧ a0.toInt < (xi (E 0) 46).toInt) ∧ (0 ≤ a1.toInt ∧ a1.toInt < (xi (E 0) 8).toInt) ∧ (xi (E 21) (16 * a0.toInt + a1.toInt).toNat).toInt ≤ (xi (E 0) 1).toInt) ∧ ((0 ≤ a0.toInt ∧ a0.toInt < (xi (E 0) 46).toInt) ∧ (0 ≤ a2.toInt ∧ a2.toInt < (xi (E 0) 8).toInt) ∧ (xi (E 21) (16 * a0.toInt + a2.toInt).toNat).toInt ≤ (xi (E 0) 1).toInt) ∧ ¬ a1.toInt = a2.toInt ∧ (0 ≤ a3.toInt ∧ a3.toInt ≤ 100000) ∧ (xi (E 0) 75).toInt < 30) → (xi (u 46) = xi (E 46) ∧ xi (u 47) = xi (E 47) ∧ xi (u 48) = xi (E 48) ∧ xi (u 49) = xi (E 49) ∧ xi (u 50) = xi (E 50))))))) (HB dC dI 72 ad) (va_A (WX 72 ad E) sz)) 0 0 (va_A (WX 72 ad E) sz) := by
  refine Met.ofW (cc := cX13_protest) (maxL := 5) (ret := (some .int)) (by decide) rfl ?_
  intro p e s m args below meth c s₁ B hml hv
  obtain ⟨hargs, hsz, hP, hK, hD0, hEV⟩ := hv
  subst hsz
  have hx := B.exec
  have hb := B.bytes
  have hr := B.returns
  have hts := atoms_spec (ws := v_protestR) B.pre
  have hown : s.vm.findClass RX13 = some m.cls := findClass_of_methodNamed B.named
  have hlocks := B.notSynchronized
  have hinX13 : ∀ w ∈ u_ws RX13 TX13 97, w ∈ v_protestR := fun w h => vA_in _ w (in_X13 w h)
  generalize hAe : va_A (WX 72 ad E) s.heap.size = A at hEV ⊢
  have hA : ∀ q : Nat, s.heap.size ≤ q → A q := fun q h => by rw [← hAe]; exact Or.inr h
  have hD : va_D A (WX 72 ad E) := by rw [← hAe]; exact hD0.self
  have hS : va_S A s.heap s.heap [] := va_S.rf
  have hI := hI0
  have hKp : Kp w_protestR E E := Kp.rf
  have hl := lv_entry ([.ref (ad 0), .int a0, .int a1, .int a2, .int a3]) (n := 5) (Nat.le_of_ble_eq_true rfl)
  obtain ⟨Q, hQ⟩ : ∃ Q, Q = MQ below (va_Qi (S := Nat → va_E) (fun r u => IX cT shM spM 72 ad u ∧ Kp w_protestR E u ∧ (((((((0 ≤ a0.toInt ∧ a0.toInt < (xi (E 0) 46).toInt) ∧ (0 ≤ a1.toInt ∧ a1.toInt < (xi (E 0) 8).toInt) ∧ (xi (E 21) (16 * a0.toInt + a1.toInt).toNat).toInt ≤ (xi (E 0) 1).toInt) ∧ ((0 ≤ a0.toInt ∧ a0.toInt < (xi (E 0) 46).toInt) ∧ (0 ≤ a2.toInt ∧ a2.toInt < (xi (E 0) 8).toInt) ∧ (xi (E 21) (16 * a0.toInt + a2.toInt).toNat).toInt ≤ (xi (E 0) 1).toInt) ∧ ¬ a1.toInt = a2.toInt ∧ (0 ≤ a3.toInt ∧ a3.toInt ≤ 100000) ∧ (xi (E 0) 75).toInt < 30) → (r.toInt = (xi (E 0) 75).toInt ∧ (xi (u 0) 75).toInt = (xi (E 0) 75).toInt + 1)) ∧ (¬ (((0 ≤ a0.toInt ∧ a0.toInt < (xi (E 0) 46).toInt) ∧ (0 ≤ a1.toInt ∧ a1.toInt < (xi (E 0) 8).toInt) ∧ (xi (E 21) (16 * a0.toInt + a1.toInt).toNat).toInt ≤ (xi (E 0) 1).toInt) ∧ ((0 ≤ a0.toInt ∧ a0.toInt < (xi (E 0) 46).toInt) ∧ (0 ≤ a2.toInt ∧ a2.toInt < (xi (E 0) 8).toInt) ∧ (xi (E 21) (16 * a0.toInt + a2.toInt).toNat).toInt ≤ (xi (E 0) 1).toInt) ∧ ¬ a1.toInt = a2.toInt ∧ (0 ≤ a3.toInt ∧ a3.toInt ≤ 100000) ∧ (xi (E 0) 75).toInt < 30) → (r.toInt = -1 ∧ (xi (u 0) 75).toInt = (xi (E 0) 75).toInt)))) ∧ ((((((0 ≤ a0.toInt ∧ a0.toInt < (xi (E 0) 46).toInt) ∧ (0 ≤ a1.toInt ∧ a1.toInt < (xi (E 0) 8).toInt) ∧ (xi (E 21) (16 * a0.toInt + a1.toInt).toNat).toInt ≤ (xi (E 0) 1).toInt) ∧ ((0 ≤ a0.toInt ∧ a0.toInt < (xi (E 0) 46).toInt) ∧ (0 ≤ a2.toInt ∧ a2.toInt < (xi (E 0) 8).toInt) ∧ (xi (E 21) (16 * a0.toInt + a2.toInt).toNat).toInt ≤ (xi (E 0) 1).toInt) ∧ ¬ a1.toInt = a2.toInt ∧ (0 ≤ a3.toInt ∧ a3.toInt ≤ 100000) ∧ (xi (E 0) 75).toInt < 30) → (xi (u 46) = upd (xi (E 46)) (xi (E 0) 75).toNatClampNeg a0 ∧ xi (u 47) = upd (xi (E 47)) (xi (E 0) 75).toNatClampNeg a1 ∧ xi (u 48) = upd (xi (E 48)) (xi (E 0) 75).toNatClampNeg a2 ∧ xi (u 49) = upd (xi (E 49)) (xi (E 0) 75).toNatClampNeg a3 ∧ xi (u 50) = upd (xi (E 50)) (xi (E 0) 75).toNatClampNeg (xi (E 0) 1))) ∧ (¬ (((0 ≤ a0.toInt ∧ a0.toInt < (xi (E 0) 46).toInt) ∧ (0 ≤ a1.toInt ∧ a1.toInt < (xi (E 0) 8).toInt) ∧ (xi (E 21) (16 * a0.toInt + a1.toInt).toNat).toInt ≤ (xi (E 0) 1).toInt) ∧ ((0 ≤ a0.toInt ∧ a0.toInt < (xi (E 0) 46).toInt) ∧ (0 ≤ a2.toInt ∧ a2.toInt < (xi (E 0) 8).toInt) ∧ (xi (E 21) (16 * a0.toInt + a2.toInt).toNat).toInt ≤ (xi (E 0) 1).toInt) ∧ ¬ a1.toInt = a2.toInt ∧ (0 ≤ a3.toInt ∧ a3.toInt ≤ 100000) ∧ (xi (E 0) 75).toInt < 30) → (xi (u 46) = xi (E 46) ∧ xi (u 47) = xi (E 47) ∧ xi (u 48) = xi (E 48) ∧ xi (u 49) = xi (E 49) ∧ xi (u 50) = xi (E 50))))))) (HB dC dI 72 ad) (A)) args s 0 0 (A) := ⟨_, rfl⟩
  rw [← hQ, show entryFrame m args 5 = _ from (congrArg (fun z => entryFrame m z 5) hargs).trans (lg_entry_eq _ _ _)]
  generalize (lg_sl ([.ref (ad 0), .int a0, .int a1, .int a2, .int a3]) ++ List.replicate (5 - (lg_sl ([.ref (ad 0), .int a0, .int a1, .int a2, .int a3])).length) Slot.unset).toArray = ls at hl ⊢
  have hl : lv_has ls 5 [(0, .ref (ad 0)), (1, .int a0), (2, .int a1), (3, .int a2), (4, .int a3)] := hl
  obtain ⟨y1, ey1⟩ : ∃ y, xi (E 0) 75 = y := ⟨_, rfl⟩
  have fy1 : xv (E 0) 75 = .int y1 := (hI.fi 0 (Nat.le_of_ble_eq_true rfl) rfl (Nat.le_of_ble_eq_true rfl) rfl).trans (congrArg Value.int ey1)
  have iy1 : 0 ≤ y1.toInt ∧ y1.toInt ≤ 30 := by rw [← ey1]; exact hI.iv 0 (Nat.le_of_ble_eq_true rfl) rfl (Nat.le_of_ble_eq_true rfl) rfl
  obtain ⟨g2, hg2⟩ : ∃ g, xi (E 46) = g := ⟨_, rfl⟩
  obtain ⟨g3, hg3⟩ : ∃ g, xi (E 47) = g := ⟨_, rfl⟩
  obtain ⟨g4, hg4⟩ : ∃ g, xi (E 48) = g := ⟨_, rfl⟩
  obtain ⟨g5, hg5⟩ : ∃ g, xi (E 49) = g := ⟨_, rfl⟩
  obtain ⟨g6, hg6⟩ : ∃ g, xi (E 50) = g := ⟨_, rfl⟩
  refine lv_aload_n hx hb dX13_protest_0 rfl (lv_at hl 0 rfl) ?_
  refine lv_iconst (v := 0) hx hb dX13_protest_1 (by decide) ?_
  refine th_put (ci := 14) (C := RX13) (T := TX13) (N := 97) (v := .int 0) (ty := .int) hx hb hts hinX13 tyX13 tyX13_ok nmX13 hown hK hP (WX_D hD) hS hI 0 (Nat.le_of_ble_eq_true rfl) rfl rfl 0 (Nat.le_of_ble_eq_true rfl) (hts _ (vA_in _ _ (in_24 _ (zs4 (zs4 (zs1 (zs1 (zs0)))))))) (fun _ h9 => h9) rfl (by decide +kernel) rfl rfl (okI rfl (iv_w ln_0 (by decide))) dX13_protest_2 (fun H locs E7 pw8 hI hP hS => ?_)
  have hKp := hKp.pw pw8 rfl
  refine lv_aload_n hx hb dX13_protest_5 rfl (lv_at hl 0 rfl) ?_
  refine th_get (ci := 14) (C := RX13) (T := TX13) (N := 97) (v := .int y1) hx hb hts hinX13 hown hK hP hI 0 (Nat.le_of_ble_eq_true rfl) rfl rfl 75 (Nat.le_of_ble_eq_true rfl) (hts _ (vA_in _ _ (in_25 _ (zs1 (zs0))))) (fun _ h9 => h9) ((pw8.2 0 75 (fun q9 => absurd q9.2 (Nat.ne_of_beq_eq_false rfl))).trans fy1) dX13_protest_6 ?_
  refine lv_bipush (v := 30) hx hb dX13_protest_9 (by decide) ?_
  refine lv_icmp_eq (tgt := 49) hx hb dX13_protest_11 (by decide) (fun c9 => ?_) (fun c9 => ?_)
  · --11 taken
    have t10 : y1.toInt = 30 := ti_eq c9
    have i11 : 30 ≤ y1.toInt ∧ y1.toInt ≤ 30 := iv_eqi t10 iy1 (il_ 30) (by decide)
    refine lv_iconst (v := -1) hx hb dX13_protest_49 (by decide) ?_
    rw [hQ]
    exact W.iret (v := (-1)) hx hb hr (fun t ht hW => ⟨⟨(-1), E7, rfl, ⟨hI, hKp, ⟨by have h8 := ln_m1; (try rw [(show xi (E7 0) 75 = y1 from vi_e ((pw8.2 0 75 (fun q9 => absurd q9.2 (Nat.ne_of_beq_eq_false rfl))).trans fy1))]); (try rw [ey1]); all_goals omega, ⟨fun g9 => by exfalso; (try rw [ey1] at g9); omega, fun _ => ⟨(show xi (E7 46) = g2 from ((pw8.ef 46 (Nat.ne_of_beq_eq_false rfl)).trans hg2)).trans (show xi (E 46) = g2 from hg2).symm, (show xi (E7 47) = g3 from ((pw8.ef 47 (Nat.ne_of_beq_eq_false rfl)).trans hg3)).trans (show xi (E 47) = g3 from hg3).symm, (show xi (E7 48) = g4 from ((pw8.ef 48 (Nat.ne_of_beq_eq_false rfl)).trans hg4)).trans (show xi (E 48) = g4 from hg4).symm, (show xi (E7 49) = g5 from ((pw8.ef 49 (Nat.ne_of_beq_eq_false rfl)).trans hg5)).trans (show xi (E 49) = g5 from hg5).symm, (show xi (E7 50) = g6 from ((pw8.ef 50 (Nat.ne_of_beq_eq_false rfl)).trans hg6)).trans (show xi (E 50) = g6 from hg6).symm⟩⟩⟩⟩, by show va_P (dC, dI) vwCl (WX 72 ad E7) t.heap; rw [ht]; exact hP⟩, hS.F ht⟩) hS.2.2 dX13_protest_50
  · --11 not
    have t12 : ¬ y1.toInt = 30 := ti_ne c9
    have i13 : 0 ≤ y1.toInt ∧ y1.toInt ≤ 29 := iv_ne_r t12 iy1 (il_ 30)
    refine lv_aload_n hx hb dX13_protest_14 rfl (lv_at hl 0 rfl) ?_
    refine lv_iload_n hx hb dX13_protest_15 rfl (lv_at hl 1 rfl) ?_
    refine lv_iload_n hx hb dX13_protest_16 rfl (lv_at hl 2 rfl) ?_
    refine th_ri (va_runV (As := [.int a0, .int a1]) (rest := []) ⟨hx, hb, hml, hown, hts⟩ (q_isEntry l dC dI cT ad E7 H.size a0 a1 hI) (cwV 2 hts (gi_V (in_33 _ (zs4 (zs4 (zs0)))) (in_33 _ (zs4 (zs4 (zs1 (zs0))))) (in_33 _ (zs4 (zs4 (zs1 (zs1 (zs0)))))) (in_24 _ (zs4 (zs4 (zs4 (zs1 (zs1 (zs1 (zs0)))))))) (in_32 _ (zs16 (zs4 (zs4 (zs0)))))) rfl rfl rfl ⟨rfl, hz_yX13_isEntry_2⟩ ⟨Nat.le_of_ble_eq_true rfl, Nat.le_of_ble_eq_true rfl⟩) ⟨HW_bl, va_recv hK hP (ci := 14) (q0 := 0) rfl (hI.ob 0 (Nat.le_of_ble_eq_true rfl) rfl), (HW_wi hP hK (WX_D hD) hS hA hEV)⟩ rfl rfl hl.1 rfl (lv_room (Nat.le_of_ble_eq_true rfl)) dX13_protest_17 ⟨Nat.le_of_ble_eq_true rfl, Nat.le_of_ble_eq_true rfl⟩) hS hP (fun r14 H locs hw hP hS => ?_)
    rcases hw with hw | hw
    · -- isEntry, case 0
      obtain ⟨rfl, f15, f16, f17⟩ := hw
      have i18 : 0 ≤ (xi (E 0) 46).toInt ∧ (xi (E 0) 46).toInt ≤ 20 := (show 0 ≤ (xi (E 0) 46).toInt ∧ (xi (E 0) 46).toInt ≤ 20 from hI0.iv 0 (Nat.le_of_ble_eq_true rfl) rfl (Nat.le_of_ble_eq_true rfl) rfl)
      have i19 : 0 ≤ (xi (E 0) 8).toInt ∧ (xi (E 0) 8).toInt ≤ 16 := (show 0 ≤ (xi (E 0) 8).toInt ∧ (xi (E 0) 8).toInt ≤ 16 from hI0.iv 0 (Nat.le_of_ble_eq_true rfl) rfl (Nat.le_of_ble_eq_true rfl) rfl)
      have i20 : 0 ≤ (xi (E 0) 1).toInt ∧ (xi (E 0) 1).toInt ≤ 400 := (show 0 ≤ (xi (E 0) 1).toInt ∧ (xi (E 0) 1).toInt ≤ 400 from hI0.iv 0 (Nat.le_of_ble_eq_true rfl) rfl (Nat.le_of_ble_eq_true rfl) rfl)
      try rw [hKp.ei 0 46 rfl] at f15
      try rw [hKp.ei 0 8 rfl] at f15
      try rw [hKp.ei 0 1 rfl] at f15
      try rw [hKp.ef 21 (fun _ => rfl)] at f15
      refine lv_if_eq (tgt := 49) hx hb dX13_protest_20 (by decide) (fun c21 => ?_) (fun c21 => ?_)
      · --20 taken
        exact absurd c21 (by decide)
      · --20 not
        refine lv_aload_n hx hb dX13_protest_23 rfl (lv_at hl 0 rfl) ?_
        refine lv_iload_n hx hb dX13_protest_24 rfl (lv_at hl 1 rfl) ?_
        refine lv_iload_n hx hb dX13_protest_25 rfl (lv_at hl 3 rfl) ?_
        refine th_ri (va_runV (As := [.int a0, .int a2]) (rest := []) ⟨hx, hb, hml, hown, hts⟩ (q_isEntry l dC dI cT ad E7 H.size a0 a2 hI) (cwV 2 hts (gi_V (in_33 _ (zs4 (zs4 (zs0)))) (in_33 _ (zs4 (zs4 (zs1 (zs0))))) (in_33 _ (zs4 (zs4 (zs1 (zs1 (zs0)))))) (in_24 _ (zs4 (zs4 (zs4 (zs1 (zs1 (zs1 (zs0)))))))) (in_32 _ (zs16 (zs4 (zs4 (zs0)))))) rfl rfl rfl ⟨rfl, hz_yX13_isEntry_2⟩ ⟨Nat.le_of_ble_eq_true rfl, Nat.le_of_ble_eq_true rfl⟩) ⟨HW_bl, va_recv hK hP (ci := 14) (q0 := 0) rfl (hI.ob 0 (Nat.le_of_ble_eq_true rfl) rfl), (HW_wi hP hK (WX_D hD) hS hA hEV)⟩ rfl rfl hl.1 rfl (lv_room (Nat.le_of_ble_eq_true rfl)) dX13_protest_26 ⟨Nat.le_of_ble_eq_true rfl, Nat.le_of_ble_eq_true rfl⟩) hS hP (fun r22 H locs hw hP hS => ?_)
        rcases hw with hw | hw
        · -- isEntry, case 0
          obtain ⟨rfl, f23, f24, f25⟩ := hw
          try rw [hKp.ei 0 46 rfl] at f23
          try rw [hKp.ei 0 8 rfl] at f23
          try rw [hKp.ei 0 1 rfl] at f23
          try rw [hKp.ef 21 (fun _ => rfl)] at f23
          refine lv_if_eq (tgt := 49) hx hb dX13_protest_29 (by decide) (fun c26 => ?_) (fun c26 => ?_)
          · --29 taken
            exact absurd c26 (by decide)
          · --29 not
            refine lv_iload_n hx hb dX13_protest_32 rfl (lv_at hl 2 rfl) ?_
            refine lv_iload_n hx hb dX13_protest_33 rfl (lv_at hl 3 rfl) ?_
            refine lv_icmp_eq (tgt := 49) hx hb dX13_protest_34 (by decide) (fun c27 => ?_) (fun c27 => ?_)
            · --34 taken
              have t28 : a1.toInt = a2.toInt := ti_eq c27
              refine lv_iconst (v := -1) hx hb dX13_protest_49 (by decide) ?_
              rw [hQ]
              exact W.iret (v := (-1)) hx hb hr (fun t ht hW => ⟨⟨(-1), E7, rfl, ⟨hI, hKp, ⟨by have h8 := ln_m1; (try rw [(show xi (E7 0) 75 = y1 from vi_e ((pw8.2 0 75 (fun q9 => absurd q9.2 (Nat.ne_of_beq_eq_false rfl))).trans fy1))]); (try rw [ey1]); all_goals omega, ⟨fun g9 => by exfalso; (try rw [ey1] at g9); omega, fun _ => ⟨(show xi (E7 46) = g2 from ((pw8.ef 46 (Nat.ne_of_beq_eq_false rfl)).trans hg2)).trans (show xi (E 46) = g2 from hg2).symm, (show xi (E7 47) = g3 from ((pw8.ef 47 (Nat.ne_of_beq_eq_false rfl)).trans hg3)).trans (show xi (E 47) = g3 from hg3).symm, (show xi (E7 48) = g4 from ((pw8.ef 48 (Nat.ne_of_beq_eq_false rfl)).trans hg4)).trans (show xi (E 48) = g4 from hg4).symm, (show xi (E7 49) = g5 from ((pw8.ef 49 (Nat.ne_of_beq_eq_false rfl)).trans hg5)).trans (show xi (E 49) = g5 from hg5).symm, (show xi (E7 50) = g6 from ((pw8.ef 50 (Nat.ne_of_beq_eq_false rfl)).trans hg6)).trans (show xi (E 50) = g6 from hg6).symm⟩⟩⟩⟩, by show va_P (dC, dI) vwCl (WX 72 ad E7) t.heap; rw [ht]; exact hP⟩, hS.F ht⟩) hS.2.2 dX13_protest_50
            · --34 not
              have t29 : ¬ a1.toInt = a2.toInt := ti_ne c27
              refine lv_iload hx hb dX13_protest_37 (lv_at hl 4 rfl) ?_
              refine lv_iconst (v := 0) hx hb dX13_protest_39 (by decide) ?_
              refine lv_ldcw hx hb hown (hts _ (vA_in _ _ (in_33 _ (zs4 (zs1 (zs1 (zs1 (zs0)))))))) dX13_protest_40 ?_
              refine th_pi (va_runS (As := [.int a3, .int 0, .int 100000]) (rest := []) ⟨hx, hb, hml, hown, hts⟩ (q_isIn l a3 (0 : Int32) (100000 : Int32)) (va_cwS 3 hts (gi_S (in_24 _ (zs16 (zs4 (zs4 (zs4 (zs0)))))) (in_24 _ (zs16 (zs4 (zs4 (zs4 (zs1 (zs0))))))) (in_24 _ (zs4 (zs4 (zs4 (zs1 (zs1 (zs1 (zs0)))))))) (in_24 _ (zs16 (zs4 (zs4 (zs4 (zs1 (zs1 (zs0))))))))) rfl rfl rfl hz_yX13_isIn_3 ⟨Nat.le_of_ble_eq_true rfl, Nat.le_of_ble_eq_true rfl⟩) ⟨fun _ _ _ _ q => q, fun _ _ _ => ⟨rfl, trivial⟩⟩ rfl rfl hl.1 rfl (lv_room (Nat.le_of_ble_eq_true rfl)) dX13_protest_43 ⟨Nat.le_of_ble_eq_true rfl, Nat.le_of_ble_eq_true rfl⟩) hS (fun r30 H1 locs1 hw hk1 hS => ?_)
              have hP := ub_keep hP hk1
              generalize H1 = H at hP hS ⊢
              generalize locs1 = locs at hS ⊢
              rcases hw with hw | hw
              · -- isIn, case 0
                obtain ⟨rfl, f31⟩ := hw
                have t32 : (0 : Int) ≤ a3.toInt := f31.1
                have t33 : a3.toInt ≤ 100000 := f31.2
                have i34 : 0 ≤ a3.toInt ∧ a3.toInt ≤ 2147483647 := iv_le_r t32 (il_ 0) (iv_all _) (by decide)
                have i35 : 0 ≤ a3.toInt ∧ a3.toInt ≤ 100000 := iv_le_l t33 i34 (il_ 100000) (by decide)
                refine lv_if_ne (tgt := 51) hx hb dX13_protest_46 (by decide) (fun c36 => ?_) (fun c36 => ?_)
                · --46 taken
                  refine lv_aload_n hx hb dX13_protest_51 rfl (lv_at hl 0 rfl) ?_
                  refine th_get (ci := 14) (C := RX13) (T := TX13) (N := 97) (v := .ref (ad 46)) hx hb hts hinX13 hown hK hP hI 0 (Nat.le_of_ble_eq_true rfl) rfl rfl 64 (Nat.le_of_ble_eq_true rfl) (hts _ (vA_in _ _ (in_25 _ (zs1 (zs1 (zs1 (zs0))))))) (fun _ h9 => h9) (hI.fr 0 (Nat.le_of_ble_eq_true rfl) rfl (Nat.le_of_ble_eq_true rfl) 46 rfl) dX13_protest_52 ?_
                  refine lv_aload_n hx hb dX13_protest_55 rfl (lv_at hl 0 rfl) ?_
                  refine th_get (ci := 14) (C := RX13) (T := TX13) (N := 97) (v := .int y1) hx hb hts hinX13 hown hK hP hI 0 (Nat.le_of_ble_eq_true rfl) rfl rfl 75 (Nat.le_of_ble_eq_true rfl) (hts _ (vA_in _ _ (in_25 _ (zs1 (zs0))))) (fun _ h9 => h9) ((pw8.2 0 75 (fun q9 => absurd q9.2 (Nat.ne_of_beq_eq_false rfl))).trans fy1) dX13_protest_56 ?_
                  refine lv_iload_n hx hb dX13_protest_59 rfl (lv_at hl 1 rfl) ?_
                  have n37 : vp_in y1 30 := (iv_in (n := 30) i13 (by decide))
                  refine th_iast hx hb hK hP (WX_D hD) hS hI 46 (Nat.le_of_ble_eq_true rfl) rfl rfl n37 (okI rfl f16) dX13_protest_60 (fun H locs E38 pw39 hI hP hS => ?_)
                  have hKp := hKp.pw pw39 rfl
                  obtain ⟨g40, eg40⟩ : ∃ z : Nat → Int32, z = upd g2 y1.toNatClampNeg a0 := ⟨_, rfl⟩
                  have hg40 : xi (E38 46) = g40 := by rw [pw39.eu, ((pw8.ef 46 (Nat.ne_of_beq_eq_false rfl)).trans hg2), eg40]
                  refine lv_aload_n hx hb dX13_protest_61 rfl (lv_at hl 0 rfl) ?_
                  refine th_get (ci := 14) (C := RX13) (T := TX13) (N := 97) (v := .ref (ad 47)) hx hb hts hinX13 hown hK hP hI 0 (Nat.le_of_ble_eq_true rfl) rfl rfl 65 (Nat.le_of_ble_eq_true rfl) (hts _ (vA_in _ _ (in_25 _ (zs4 (zs0))))) (fun _ h9 => h9) (hI.fr 0 (Nat.le_of_ble_eq_true rfl) rfl (Nat.le_of_ble_eq_true rfl) 47 rfl) dX13_protest_62 ?_
                  refine lv_aload_n hx hb dX13_protest_65 rfl (lv_at hl 0 rfl) ?_
                  refine th_get (ci := 14) (C := RX13) (T := TX13) (N := 97) (v := .int y1) hx hb hts hinX13 hown hK hP hI 0 (Nat.le_of_ble_eq_true rfl) rfl rfl 75 (Nat.le_of_ble_eq_true rfl) (hts _ (vA_in _ _ (in_25 _ (zs1 (zs0))))) (fun _ h9 => h9) ((pw39.2 0 75 (fun q9 => absurd q9.1 (Nat.ne_of_beq_eq_false rfl))).trans ((pw8.2 0 75 (fun q9 => absurd q9.2 (Nat.ne_of_beq_eq_false rfl))).trans fy1)) dX13_protest_66 ?_
                  refine lv_iload_n hx hb dX13_protest_69 rfl (lv_at hl 2 rfl) ?_
                  have n41 : vp_in y1 30 := (iv_in (n := 30) i13 (by decide))
                  refine th_iast hx hb hK hP (WX_D hD) hS hI 47 (Nat.le_of_ble_eq_true rfl) rfl rfl n41 (okI rfl f17) dX13_protest_70 (fun H locs E42 pw43 hI hP hS => ?_)
                  have hKp := hKp.pw pw43 rfl
                  obtain ⟨g44, eg44⟩ : ∃ z : Nat → Int32, z = upd g3 y1.toNatClampNeg a1 := ⟨_, rfl⟩
                  have hg44 : xi (E42 47) = g44 := by rw [pw43.eu, ((pw39.ef 47 (Nat.ne_of_beq_eq_false rfl)).trans ((pw8.ef 47 (Nat.ne_of_beq_eq_false rfl)).trans hg3)), eg44]
                  refine lv_aload_n hx hb dX13_protest_71 rfl (lv_at hl 0 rfl) ?_
                  refine th_get (ci := 14) (C := RX13) (T := TX13) (N := 97) (v := .ref (ad 48)) hx hb hts hinX13 hown hK hP hI 0 (Nat.le_of_ble_eq_true rfl) rfl rfl 66 (Nat.le_of_ble_eq_true rfl) (hts _ (vA_in _ _ (in_25 _ (zs4 (zs1 (zs1 (zs0))))))) (fun _ h9 => h9) (hI.fr 0 (Nat.le_of_ble_eq_true rfl) rfl (Nat.le_of_ble_eq_true rfl) 48 rfl) dX13_protest_72 ?_
                  refine lv_aload_n hx hb dX13_protest_75 rfl (lv_at hl 0 rfl) ?_
                  refine th_get (ci := 14) (C := RX13) (T := TX13) (N := 97) (v := .int y1) hx hb hts hinX13 hown hK hP hI 0 (Nat.le_of_ble_eq_true rfl) rfl rfl 75 (Nat.le_of_ble_eq_true rfl) (hts _ (vA_in _ _ (in_25 _ (zs1 (zs0))))) (fun _ h9 => h9) ((pw43.2 0 75 (fun q9 => absurd q9.1 (Nat.ne_of_beq_eq_false rfl))).trans ((pw39.2 0 75 (fun q9 => absurd q9.1 (Nat.ne_of_beq_eq_false rfl))).trans ((pw8.2 0 75 (fun q9 => absurd q9.2 (Nat.ne_of_beq_eq_false rfl))).trans fy1))) dX13_protest_76 ?_
                  refine lv_iload_n hx hb dX13_protest_79 rfl (lv_at hl 3 rfl) ?_
                  have n45 : vp_in y1 30 := (iv_in (n := 30) i13 (by decide))
                  refine th_iast hx hb hK hP (WX_D hD) hS hI 48 (Nat.le_of_ble_eq_true rfl) rfl rfl n45 (okI rfl f25) dX13_protest_80 (fun H locs E46 pw47 hI hP hS => ?_)
                  have hKp := hKp.pw pw47 rfl
                  obtain ⟨g48, eg48⟩ : ∃ z : Nat → Int32, z = upd g4 y1.toNatClampNeg a2 := ⟨_, rfl⟩
                  have hg48 : xi (E46 48) = g48 := by rw [pw47.eu, ((pw43.ef 48 (Nat.ne_of_beq_eq_false rfl)).trans ((pw39.ef 48 (Nat.ne_of_beq_eq_false rfl)).trans ((pw8.ef 48 (Nat.ne_of_beq_eq_false rfl)).trans hg4))), eg48]
                  refine lv_aload_n hx hb dX13_protest_81 rfl (lv_at hl 0 rfl) ?_
                  refine th_get (ci := 14) (C := RX13) (T := TX13) (N := 97) (v := .ref (ad 49)) hx hb hts hinX13 hown hK hP hI 0 (Nat.le_of_ble_eq_true rfl) rfl rfl 67 (Nat.le_of_ble_eq_true rfl) (hts _ (vA_in _ _ (in_25 _ (zs4 (zs1 (zs0)))))) (fun _ h9 => h9) (hI.fr 0 (Nat.le_of_ble_eq_true rfl) rfl (Nat.le_of_ble_eq_true rfl) 49 rfl) dX13_protest_82 ?_
                  refine lv_aload_n hx hb dX13_protest_85 rfl (lv_at hl 0 rfl) ?_
                  refine th_get (ci := 14) (C := RX13) (T := TX13) (N := 97) (v := .int y1) hx hb hts hinX13 hown hK hP hI 0 (Nat.le_of_ble_eq_true rfl) rfl rfl 75 (Nat.le_of_ble_eq_true rfl) (hts _ (vA_in _ _ (in_25 _ (zs1 (zs0))))) (fun _ h9 => h9) ((pw47.2 0 75 (fun q9 => absurd q9.1 (Nat.ne_of_beq_eq_false rfl))).trans ((pw43.2 0 75 (fun q9 => absurd q9.1 (Nat.ne_of_beq_eq_false rfl))).trans ((pw39.2 0 75 (fun q9 => absurd q9.1 (Nat.ne_of_beq_eq_false rfl))).trans ((pw8.2 0 75 (fun q9 => absurd q9.2 (Nat.ne_of_beq_eq_false rfl))).trans fy1)))) dX13_protest_86 ?_
                  refine lv_iload hx hb dX13_protest_89 (lv_at hl 4 rfl) ?_
                  have n49 : vp_in y1 30 := (iv_in (n := 30) i13 (by decide))
                  refine th_iast hx hb hK hP (WX_D hD) hS hI 49 (Nat.le_of_ble_eq_true rfl) rfl rfl n49 (okI rfl i35) dX13_protest_91 (fun H locs E50 pw51 hI hP hS => ?_)
                  have hKp := hKp.pw pw51 rfl
                  obtain ⟨g52, eg52⟩ : ∃ z : Nat → Int32, z = upd g5 y1.toNatClampNeg a3 := ⟨_, rfl⟩
                  have hg52 : xi (E50 49) = g52 := by rw [pw51.eu, ((pw47.ef 49 (Nat.ne_of_beq_eq_false rfl)).trans ((pw43.ef 49 (Nat.ne_of_beq_eq_false rfl)).trans ((pw39.ef 49 (Nat.ne_of_beq_eq_false rfl)).trans ((pw8.ef 49 (Nat.ne_of_beq_eq_false rfl)).trans hg5)))), eg52]
                  refine lv_aload_n hx hb dX13_protest_92 rfl (lv_at hl 0 rfl) ?_
                  refine th_get (ci := 14) (C := RX13) (T := TX13) (N := 97) (v := .ref (ad 50)) hx hb hts hinX13 hown hK hP hI 0 (Nat.le_of_ble_eq_true rfl) rfl rfl 68 (Nat.le_of_ble_eq_true rfl) (hts _ (vA_in _ _ (in_25 _ (zs1 (zs1 (zs0)))))) (fun _ h9 => h9) (hI.fr 0 (Nat.le_of_ble_eq_true rfl) rfl (Nat.le_of_ble_eq_true rfl) 50 rfl) dX13_protest_93 ?_
                  refine lv_aload_n hx hb dX13_protest_96 rfl (lv_at hl 0 rfl) ?_
                  refine th_get (ci := 14) (C := RX13) (T := TX13) (N := 97) (v := .int y1) hx hb hts hinX13 hown hK hP hI 0 (Nat.le_of_ble_eq_true rfl) rfl rfl 75 (Nat.le_of_ble_eq_true rfl) (hts _ (vA_in _ _ (in_25 _ (zs1 (zs0))))) (fun _ h9 => h9) ((pw51.2 0 75 (fun q9 => absurd q9.1 (Nat.ne_of_beq_eq_false rfl))).trans ((pw47.2 0 75 (fun q9 => absurd q9.1 (Nat.ne_of_beq_eq_false rfl))).trans ((pw43.2 0 75 (fun q9 => absurd q9.1 (Nat.ne_of_beq_eq_false rfl))).trans ((pw39.2 0 75 (fun q9 => absurd q9.1 (Nat.ne_of_beq_eq_false rfl))).trans ((pw8.2 0 75 (fun q9 => absurd q9.2 (Nat.ne_of_beq_eq_false rfl))).trans fy1))))) dX13_protest_97 ?_
                  refine lv_aload_n hx hb dX13_protest_100 rfl (lv_at hl 0 rfl) ?_
                  refine th_get (ci := 14) (C := RX13) (T := TX13) (N := 97) (v := .int (xi (E 0) 1)) hx hb hts hinX13 hown hK hP hI 0 (Nat.le_of_ble_eq_true rfl) rfl rfl 1 (Nat.le_of_ble_eq_true rfl) (hts _ (vA_in _ _ (in_24 _ (zs16 (zs4 (zs4 (zs1 (zs1 (zs1 (zs0)))))))))) (fun _ h9 => h9) (th_v0 hKp hI0 0 (Nat.le_of_ble_eq_true rfl) rfl (Nat.le_of_ble_eq_true rfl) rfl rfl) dX13_protest_101 ?_
                  have n53 : vp_in y1 30 := (iv_in (n := 30) i13 (by decide))
                  refine th_iast hx hb hK hP (WX_D hD) hS hI 50 (Nat.le_of_ble_eq_true rfl) rfl rfl n53 (okI rfl i20) dX13_protest_104 (fun H locs E54 pw55 hI hP hS => ?_)
                  have hKp := hKp.pw pw55 rfl
                  obtain ⟨g56, eg56⟩ : ∃ z : Nat → Int32, z = upd g6 y1.toNatClampNeg (xi (E 0) 1) := ⟨_, rfl⟩
                  have hg56 : xi (E54 50) = g56 := by rw [pw55.eu, ((pw51.ef 50 (Nat.ne_of_beq_eq_false rfl)).trans ((pw47.ef 50 (Nat.ne_of_beq_eq_false rfl)).trans ((pw43.ef 50 (Nat.ne_of_beq_eq_false rfl)).trans ((pw39.ef 50 (Nat.ne_of_beq_eq_false rfl)).trans ((pw8.ef 50 (Nat.ne_of_beq_eq_false rfl)).trans hg6))))), eg56]
                  refine lv_aload_n hx hb dX13_protest_105 rfl (lv_at hl 0 rfl) ?_
                  refine lv_dup hx hb dX13_protest_106 rfl ?_
                  refine th_get (ci := 14) (C := RX13) (T := TX13) (N := 97) (v := .int y1) hx hb hts hinX13 hown hK hP hI 0 (Nat.le_of_ble_eq_true rfl) rfl rfl 75 (Nat.le_of_ble_eq_true rfl) (hts _ (vA_in _ _ (in_25 _ (zs1 (zs0))))) (fun _ h9 => h9) ((pw55.2 0 75 (fun q9 => absurd q9.1 (Nat.ne_of_beq_eq_false rfl))).trans ((pw51.2 0 75 (fun q9 => absurd q9.1 (Nat.ne_of_beq_eq_false rfl))).trans ((pw47.2 0 75 (fun q9 => absurd q9.1 (Nat.ne_of_beq_eq_false rfl))).trans ((pw43.2 0 75 (fun q9 => absurd q9.1 (Nat.ne_of_beq_eq_false rfl))).trans ((pw39.2 0 75 (fun q9 => absurd q9.1 (Nat.ne_of_beq_eq_false rfl))).trans ((pw8.2 0 75 (fun q9 => absurd q9.2 (Nat.ne_of_beq_eq_false rfl))).trans fy1)))))) dX13_protest_107 ?_
                  refine lv_iconst (v := 1) hx hb dX13_protest_110 (by decide) ?_
                  refine lv_iadd hx hb dX13_protest_111 ?_
                  refine lv_topi (fun y57 ey57 => ?_)
                  obtain ⟨ty57, iy57⟩ := ti_add (e := 1) (f := 30) i13 ln_1 ey57 (by decide)
                  have ty57 : y57.toInt = y1.toInt + 1 := ty57
                  have iy57 : 1 ≤ y57.toInt ∧ y57.toInt ≤ 30 := iy57
                  refine th_put (ci := 14) (C := RX13) (T := TX13) (N := 97) (v := .int y57) (ty := .int) hx hb hts hinX13 tyX13 tyX13_ok nmX13 hown hK hP (WX_D hD) hS hI 0 (Nat.le_of_ble_eq_true rfl) rfl rfl 75 (Nat.le_of_ble_eq_true rfl) (hts _ (vA_in _ _ (in_25 _ (zs1 (zs0))))) (fun _ h9 => h9) rfl (by decide +kernel) rfl rfl (okI rfl (iv_w iy57 (by decide))) dX13_protest_112 (fun H locs E58 pw59 hI hP hS => ?_)
                  have hKp := hKp.pw pw59 rfl
                  refine lv_aload_n hx hb dX13_protest_115 rfl (lv_at hl 0 rfl) ?_
                  refine th_get (ci := 14) (C := RX13) (T := TX13) (N := 97) (v := .int y57) hx hb hts hinX13 hown hK hP hI 0 (Nat.le_of_ble_eq_true rfl) rfl rfl 75 (Nat.le_of_ble_eq_true rfl) (hts _ (vA_in _ _ (in_25 _ (zs1 (zs0))))) (fun _ h9 => h9) pw59.1 dX13_protest_116 ?_
                  refine lv_iconst (v := 1) hx hb dX13_protest_119 (by decide) ?_
                  refine lv_isub hx hb dX13_protest_120 ?_
                  refine lv_topi (fun y60 ey60 => ?_)
                  obtain ⟨ty60, iy60⟩ := ti_sub (e := 0) (f := 29) iy57 ln_1 ey60 (by decide)
                  have ty60 : y60.toInt = y57.toInt - 1 := ty60
                  have iy60 : 0 ≤ y60.toInt ∧ y60.toInt ≤ 29 := iy60
                  rw [hQ]
                  exact W.iret (v := y60) hx hb hr (fun t ht hW => ⟨⟨y60, E58, rfl, ⟨hI, hKp, ⟨by (try rw [(show xi (E58 0) 75 = y57 from vi_e pw59.1)]); (try rw [ey1]); all_goals omega, ⟨fun _ => ⟨(show xi (E58 46) = g40 from ((pw59.ef 46 (Nat.ne_of_beq_eq_false rfl)).trans ((pw55.ef 46 (Nat.ne_of_beq_eq_false rfl)).trans ((pw51.ef 46 (Nat.ne_of_beq_eq_false rfl)).trans ((pw47.ef 46 (Nat.ne_of_beq_eq_false rfl)).trans ((pw43.ef 46 (Nat.ne_of_beq_eq_false rfl)).trans hg40)))))).trans (by rw [eg40, show xi (E 46) = g2 from hg2, ey1]), (show xi (E58 47) = g44 from ((pw59.ef 47 (Nat.ne_of_beq_eq_false rfl)).trans ((pw55.ef 47 (Nat.ne_of_beq_eq_false rfl)).trans ((pw51.ef 47 (Nat.ne_of_beq_eq_false rfl)).trans ((pw47.ef 47 (Nat.ne_of_beq_eq_false rfl)).trans hg44))))).trans (by rw [eg44, show xi (E 47) = g3 from hg3, ey1]), (show xi (E58 48) = g48 from ((pw59.ef 48 (Nat.ne_of_beq_eq_false rfl)).trans ((pw55.ef 48 (Nat.ne_of_beq_eq_false rfl)).trans ((pw51.ef 48 (Nat.ne_of_beq_eq_false rfl)).trans hg48)))).trans (by rw [eg48, show xi (E 48) = g4 from hg4, ey1]), (show xi (E58 49) = g52 from ((pw59.ef 49 (Nat.ne_of_beq_eq_false rfl)).trans ((pw55.ef 49 (Nat.ne_of_beq_eq_false rfl)).trans hg52))).trans (by rw [eg52, show xi (E 49) = g5 from hg5, ey1]), (show xi (E58 50) = g56 from ((pw59.ef 50 (Nat.ne_of_beq_eq_false rfl)).trans hg56)).trans (by rw [eg56, show xi (E 50) = g6 from hg6, ey1])⟩, fun g9 => by exfalso; exact g9 (by (try rw [ey1]); omega)⟩⟩⟩, by show va_P (dC, dI) vwCl (WX 72 ad E58) t.heap; rw [ht]; exact hP⟩, hS.F ht⟩) hS.2.2 dX13_protest_121
                · --46 not
                  exact absurd c36 (by decide)
              · -- isIn, case 1
                obtain ⟨rfl, f61⟩ := hw
                have t62 : ¬ ((0 : Int) ≤ a3.toInt ∧ a3.toInt ≤ 100000) := f61
                refine lv_if_ne (tgt := 51) hx hb dX13_protest_46 (by decide) (fun c63 => ?_) (fun c63 => ?_)
                · --46 taken
                  exact absurd c63 (by decide)
                · --46 not
                  refine lv_iconst (v := -1) hx hb dX13_protest_49 (by decide) ?_
                  rw [hQ]
                  exact W.iret (v := (-1)) hx hb hr (fun t ht hW => ⟨⟨(-1), E7, rfl, ⟨hI, hKp, ⟨by have h8 := ln_m1; (try rw [(show xi (E7 0) 75 = y1 from vi_e ((pw8.2 0 75 (fun q9 => absurd q9.2 (Nat.ne_of_beq_eq_false rfl))).trans fy1))]); (try rw [ey1]); all_goals omega, ⟨fun g9 => by exfalso; (try rw [ey1] at g9); omega, fun _ => ⟨(show xi (E7 46) = g2 from ((pw8.ef 46 (Nat.ne_of_beq_eq_false rfl)).trans hg2)).trans (show xi (E 46) = g2 from hg2).symm, (show xi (E7 47) = g3 from ((pw8.ef 47 (Nat.ne_of_beq_eq_false rfl)).trans hg3)).trans (show xi (E 47) = g3 from hg3).symm, (show xi (E7 48) = g4 from ((pw8.ef 48 (Nat.ne_of_beq_eq_false rfl)).trans hg4)).trans (show xi (E 48) = g4 from hg4).symm, (show xi (E7 49) = g5 from ((pw8.ef 49 (Nat.ne_of_beq_eq_false rfl)).trans hg5)).trans (show xi (E 49) = g5 from hg5).symm, (show xi (E7 50) = g6 from ((pw8.ef 50 (Nat.ne_of_beq_eq_false rfl)).trans hg6)).trans (show xi (E 50) = g6 from hg6).symm⟩⟩⟩⟩, by show va_P (dC, dI) vwCl (WX 72 ad E7) t.heap; rw [ht]; exact hP⟩, hS.F ht⟩) hS.2.2 dX13_protest_50
        · -- isEntry, case 1
          obtain ⟨rfl, f64⟩ := hw
          try rw [hKp.ei 0 46 rfl] at f64
          try rw [hKp.ei 0 8 rfl] at f64
          try rw [hKp.ei 0 1 rfl] at f64
          try rw [hKp.ef 21 (fun _ => rfl)] at f64
          refine lv_if_eq (tgt := 49) hx hb dX13_protest_29 (by decide) (fun c65 => ?_) (fun c65 => ?_)
          · --29 taken
            refine lv_iconst (v := -1) hx hb dX13_protest_49 (by decide) ?_
            rw [hQ]
            exact W.iret (v := (-1)) hx hb hr (fun t ht hW => ⟨⟨(-1), E7, rfl, ⟨hI, hKp, ⟨by have h8 := ln_m1; (try rw [(show xi (E7 0) 75 = y1 from vi_e ((pw8.2 0 75 (fun q9 => absurd q9.2 (Nat.ne_of_beq_eq_false rfl))).trans fy1))]); (try rw [ey1]); all_goals omega, ⟨fun g9 => by exfalso; (try rw [ey1] at g9); omega, fun _ => ⟨(show xi (E7 46) = g2 from ((pw8.ef 46 (Nat.ne_of_beq_eq_false rfl)).trans hg2)).trans (show xi (E 46) = g2 from hg2).symm, (show xi (E7 47) = g3 from ((pw8.ef 47 (Nat.ne_of_beq_eq_false rfl)).trans hg3)).trans (show xi (E 47) = g3 from hg3).symm, (show xi (E7 48) = g4 from ((pw8.ef 48 (Nat.ne_of_beq_eq_false rfl)).trans hg4)).trans (show xi (E 48) = g4 from hg4).symm, (show xi (E7 49) = g5 from ((pw8.ef 49 (Nat.ne_of_beq_eq_false rfl)).trans hg5)).trans (show xi (E 49) = g5 from hg5).symm, (show xi (E7 50) = g6 from ((pw8.ef 50 (Nat.ne_of_beq_eq_false rfl)).trans hg6)).trans (show xi (E 50) = g6 from hg6).symm⟩⟩⟩⟩, by show va_P (dC, dI) vwCl (WX 72 ad E7) t.heap; rw [ht]; exact hP⟩, hS.F ht⟩) hS.2.2 dX13_protest_50
          · --29 not
            exact absurd c65 (by decide)
    · -- isEntry, case 1
      obtain ⟨rfl, f66⟩ := hw
      have i67 : 0 ≤ (xi (E 0) 46).toInt ∧ (xi (E 0) 46).toInt ≤ 20 := (show 0 ≤ (xi (E 0) 46).toInt ∧ (xi (E 0) 46).toInt ≤ 20 from hI0.iv 0 (Nat.le_of_ble_eq_true rfl) rfl (Nat.le_of_ble_eq_true rfl) rfl)
      have i68 : 0 ≤ (xi (E 0) 8).toInt ∧ (xi (E 0) 8).toInt ≤ 16 := (show 0 ≤ (xi (E 0) 8).toInt ∧ (xi (E 0) 8).toInt ≤ 16 from hI0.iv 0 (Nat.le_of_ble_eq_true rfl) rfl (Nat.le_of_ble_eq_true rfl) rfl)
      have i69 : 0 ≤ (xi (E 0) 1).toInt ∧ (xi (E 0) 1).toInt ≤ 400 := (show 0 ≤ (xi (E 0) 1).toInt ∧ (xi (E 0) 1).toInt ≤ 400 from hI0.iv 0 (Nat.le_of_ble_eq_true rfl) rfl (Nat.le_of_ble_eq_true rfl) rfl)
      try rw [hKp.ei 0 46 rfl] at f66
      try rw [hKp.ei 0 8 rfl] at f66
      try rw [hKp.ei 0 1 rfl] at f66
      try rw [hKp.ef 21 (fun _ => rfl)] at f66
      refine lv_if_eq (tgt := 49) hx hb dX13_protest_20 (by decide) (fun c70 => ?_) (fun c70 => ?_)
      · --20 taken
        refine lv_iconst (v := -1) hx hb dX13_protest_49 (by decide) ?_
        rw [hQ]
        exact W.iret (v := (-1)) hx hb hr (fun t ht hW => ⟨⟨(-1), E7, rfl, ⟨hI, hKp, ⟨by have h8 := ln_m1; (try rw [(show xi (E7 0) 75 = y1 from vi_e ((pw8.2 0 75 (fun q9 => absurd q9.2 (Nat.ne_of_beq_eq_false rfl))).trans fy1))]); (try rw [ey1]); all_goals omega, ⟨fun g9 => by exfalso; (try rw [ey1] at g9); omega, fun _ => ⟨(show xi (E7 46) = g2 from ((pw8.ef 46 (Nat.ne_of_beq_eq_false rfl)).trans hg2)).trans (show xi (E 46) = g2 from hg2).symm, (show xi (E7 47) = g3 from ((pw8.ef 47 (Nat.ne_of_beq_eq_false rfl)).trans hg3)).trans (show xi (E 47) = g3 from hg3).symm, (show xi (E7 48) = g4 from ((pw8.ef 48 (Nat.ne_of_beq_eq_false rfl)).trans hg4)).trans (show xi (E 48) = g4 from hg4).symm, (show xi (E7 49) = g5 from ((pw8.ef 49 (Nat.ne_of_beq_eq_false rfl)).trans hg5)).trans (show xi (E 49) = g5 from hg5).symm, (show xi (E7 50) = g6 from ((pw8.ef 50 (Nat.ne_of_beq_eq_false rfl)).trans hg6)).trans (show xi (E 50) = g6 from hg6).symm⟩⟩⟩⟩, by show va_P (dC, dI) vwCl (WX 72 ad E7) t.heap; rw [ht]; exact hP⟩, hS.F ht⟩) hS.2.2 dX13_protest_50
      · --20 not
        exact absurd c70 (by decide)
def v_hasRedressX : List Cond := .code yX13_hasRedress cX13_hasRedress 5 (some .boolean) :: vA
abbrev rm_hasRedressX : Room := { frames := 0, cells := 0, slots := 0, locals := 0 }
set_option maxHeartbeats 4000000 in
set_option maxRecDepth 100000 in
theorem q_hasRedressX (l : Launch) (dC : Nat → ClassId) (dI : Nat → Nat → Nat) (cT : Nat → ClassId) (ad : Nat → Nat) (E : Nat → va_E) (sz : Nat) (a0 : Int32) (a1 : Int32) (a2 : Int32) (hI0 : IX cT shM spM 72 ad E)  : Met l yX13_hasRedress v_hasRedressX rm_hasRedressX (va_Pc [.ref (ad 0), .int a0, .int a1, .int a2] (HW dC dI (TYM cT) 72 ad E sz)) (va_Qi (S := Unit) (fun r _ => (r = 1 ∧ (∃ k : Nat, (k : Int) < (xi (E 0) 48).toInt ∧ (xi (E 29) k).toInt = a0.toInt ∧ (xi (E 30) k).toInt = a1.toInt ∧ (xi (E 31) k).toInt ≤ a2.toInt)) ∨ (r = 0 ∧ (∀ k : Nat, (k : Int) < (xi (E 0) 48).toInt → ¬ ((xi (E 29) k).toInt = a0.toInt ∧ (xi (E 30) k).toInt = a1.toInt ∧ (xi (E 31) k).toInt ≤ a2.toInt)))) (fun _ _ => True) (fun _ => False)) 0 0 (fun _ => False) := by
  refine Met.ofW (cc := cX13_hasRedress) (maxL := 5) (ret := (some .boolean)) (by decide) rfl ?_
  intro p e s m args below meth c s₁ B hml hv
  obtain ⟨hargs, hsz, hP, hK, hD0, hEV⟩ := hv
  subst hsz
  have hx := B.exec
  have hb := B.bytes
  have hr := B.returns
  have hts := atoms_spec (ws := v_hasRedressX) B.pre
  have hown : s.vm.findClass RX13 = some m.cls := findClass_of_methodNamed B.named
  have hlocks := B.notSynchronized
  have hinX13 : ∀ w ∈ u_ws RX13 TX13 97, w ∈ v_hasRedressX := fun w h => vA_in _ w (in_X13 w h)
  have hS : va_S (fun _ : Nat => False) s.heap s.heap [] := va_S.rf
  have hD := hD0
  have hI := hI0
  have hKp : Kp (wl [] []) E E := Kp.rf
  have hl := lv_entry ([.ref (ad 0), .int a0, .int a1, .int a2]) (n := 5) (Nat.le_of_ble_eq_true rfl)
  obtain ⟨Q, hQ⟩ : ∃ Q, Q = MQ below (va_Qi (S := Unit) (fun r _ => (r = 1 ∧ (∃ k : Nat, (k : Int) < (xi (E 0) 48).toInt ∧ (xi (E 29) k).toInt = a0.toInt ∧ (xi (E 30) k).toInt = a1.toInt ∧ (xi (E 31) k).toInt ≤ a2.toInt)) ∨ (r = 0 ∧ (∀ k : Nat, (k : Int) < (xi (E 0) 48).toInt → ¬ ((xi (E 29) k).toInt = a0.toInt ∧ (xi (E 30) k).toInt = a1.toInt ∧ (xi (E 31) k).toInt ≤ a2.toInt)))) (fun _ _ => True) (fun _ => False)) args s 0 0 (fun _ => False) := ⟨_, rfl⟩
  rw [← hQ, show entryFrame m args 5 = _ from (congrArg (fun z => entryFrame m z 5) hargs).trans (lg_entry_eq _ _ _)]
  generalize (lg_sl ([.ref (ad 0), .int a0, .int a1, .int a2]) ++ List.replicate (5 - (lg_sl ([.ref (ad 0), .int a0, .int a1, .int a2])).length) Slot.unset).toArray = ls at hl ⊢
  have hl : lv_has ls 5 [(0, .ref (ad 0)), (1, .int a0), (2, .int a1), (3, .int a2)] := hl
  refine lv_iconst (v := 0) hx hb dX13_hasRedress_0 (by decide) ?_
  refine lv_istore (lv' := [(4, .int 0), (0, .ref (ad 0)), (1, .int a0), (2, .int a1), (3, .int a2)]) hx hb dX13_hasRedress_1 hl (by decide) rfl (fun ls hl => ?_)
  have hL3 : ∀ d : Nat, ∀ (v3_4 : Int32) (H : Heap) (locs : List Loc) (ls : Array Slot), 0 ≤ v3_4.toInt ∧ v3_4.toInt ≤ 20 → (∀ k : Nat, (k : Int) < v3_4.toInt → ¬ ((xi (E 29) k).toInt = a0.toInt ∧ (xi (E 30) k).toInt = a1.toInt ∧ (xi (E 31) k).toInt ≤ a2.toInt)) → 20 - v3_4.toInt < (d : Int) → va_P (dC, dI) vwCl (WX 72 ad E) H → va_S (fun _ : Nat => False) s.heap H locs → lv_has ls 5 [(4, .int v3_4), (0, .ref (ad 0)), (1, .int a0), (2, .int a1), (3, .int a2)] → W p l e (headSpec v_hasRedressX rm_hasRedressX).room s m args below meth c H locs 0 0 Q (F0 m 3 ls []) := by
    intro d
    induction d with
    | zero =>
      intro v3_4 H locs ls hv3_4 hx3_0 hx3_1 hP hS hl
      exact absurd hx3_1 (by first | exact ms_zu hv3_4.2 | omega)
    | succ d ih3 =>
      intro v3_4 H locs ls hv3_4 hx3_0 hx3_1 hP hS hl
      refine lv_iload hx hb dX13_hasRedress_3 (lv_at hl 0 rfl) ?_
      refine lv_aload_n hx hb dX13_hasRedress_5 rfl (lv_at hl 1 rfl) ?_
      have i1 : 0 ≤ (xi (E 0) 48).toInt ∧ (xi (E 0) 48).toInt ≤ 20 := hI0.iv 0 (Nat.le_of_ble_eq_true rfl) rfl (Nat.le_of_ble_eq_true rfl) rfl
      refine th_get (ci := 14) (C := RX13) (T := TX13) (N := 97) (v := .int (xi (E 0) 48)) hx hb hts hinX13 hown hK hP hI 0 (Nat.le_of_ble_eq_true rfl) rfl rfl 48 (Nat.le_of_ble_eq_true rfl) (hts _ (vA_in _ _ (in_30 _ (zs16 (zs4 (zs1 (zs0))))))) (fun _ h9 => h9) (th_v0 hKp hI0 0 (Nat.le_of_ble_eq_true rfl) rfl (Nat.le_of_ble_eq_true rfl) rfl rfl) dX13_hasRedress_6 ?_
      refine lv_icmp_ge (tgt := 53) hx hb dX13_hasRedress_9 (by decide) (fun c2 => ?_) (fun c2 => ?_)
      · --9 taken
        have t3 : (xi (E 0) 48).toInt ≤ v3_4.toInt := ti_le c2
        refine lv_iconst (v := 0) hx hb dX13_hasRedress_53 (by decide) ?_
        rw [hQ]
        exact W.zret (v := 0) hx hb hr rfl (fun t ht hW => ⟨⟨0, (), rfl, Or.inr (⟨rfl, fun k h9 => hx3_0 k (by omega)⟩), trivial⟩, hS.F ht⟩) hS.2.2 dX13_hasRedress_54
      · --9 not
        have t4 : v3_4.toInt < (xi (E 0) 48).toInt := ti_nle c2
        have i5 : 0 ≤ v3_4.toInt ∧ v3_4.toInt ≤ 19 := iv_lt_l t4 hv3_4 i1 (by decide)
        have i6 : 1 ≤ (xi (E 0) 48).toInt ∧ (xi (E 0) 48).toInt ≤ 20 := iv_lt_r t4 hv3_4 i1 (by decide)
        refine lv_aload_n hx hb dX13_hasRedress_12 rfl (lv_at hl 1 rfl) ?_
        refine th_get (ci := 14) (C := RX13) (T := TX13) (N := 97) (v := .ref (ad 29)) hx hb hts hinX13 hown hK hP hI 0 (Nat.le_of_ble_eq_true rfl) rfl rfl 43 (Nat.le_of_ble_eq_true rfl) (hts _ (vA_in _ _ (in_32 _ (zs1 (zs0))))) (fun _ h9 => h9) (hI.fr 0 (Nat.le_of_ble_eq_true rfl) rfl (Nat.le_of_ble_eq_true rfl) 29 rfl) dX13_hasRedress_13 ?_
        refine lv_iload hx hb dX13_hasRedress_16 (lv_at hl 0 rfl) ?_
        have n8 : vp_in v3_4 20 := (iv_in (n := 20) i5 (by decide))
        refine th_iald hx hb hK hP hI 29 (Nat.le_of_ble_eq_true rfl) rfl rfl n8 dX13_hasRedress_18 (fun y7 ey7 => ?_)
        have iy7 : 0 ≤ y7.toInt ∧ y7.toInt ≤ 19 := hI.el 29 (Nat.le_of_ble_eq_true rfl) rfl n8 (fun _ => rfl) ey7
        have ey7 := ey7.trans (hKp.ei 29 _ rfl)
        refine lv_iload_n hx hb dX13_hasRedress_19 rfl (lv_at hl 2 rfl) ?_
        refine lv_icmp_ne (tgt := 47) hx hb dX13_hasRedress_20 (by decide) (fun c9 => ?_) (fun c9 => ?_)
        · --20 taken
          have t10 : ¬ y7.toInt = a0.toInt := ti_ne c9
          obtain ⟨y11, ey11⟩ : ∃ y : Int32, y = v3_4 + (1 : Int32) := ⟨_, rfl⟩
          obtain ⟨ty11, iy11⟩ := ti_add (e := 1) (f := 20) i5 ln_1 ey11 (by decide)
          have ty11 : y11.toInt = v3_4.toInt + 1 := ty11
          have iy11 : 1 ≤ y11.toInt ∧ y11.toInt ≤ 20 := iy11
          refine lv_iinc (v := y11) (lv' := [(4, .int y11), (0, .ref (ad 0)), (1, .int a0), (2, .int a1), (3, .int a2)]) hx hb dX13_hasRedress_47 hl (k := 0) rfl (by rw [ey11]; rfl) (by decide) rfl (fun ls hl => ?_)
          refine lv_goto (tgt := 3) hx hb dX13_hasRedress_50 (by decide) ?_
          exact ih3 y11 _ _ _ (iv_w iy11 (by decide)) (fun k h9 => dite (k = v3_4.toNatClampNeg) (fun q9 => by subst q9; intro hm; have gy7 := congrArg Int32.toInt ey7; omega) (fun q9 => hx3_0 k (by rw [tn_] at q9; have z1 := ln_1; omega))) (by first | exact ms_su hx3_1 ty11 (by decide) | omega) hP hS (lv_sub hl [0, 1, 2, 3, 4] rfl)
        · --20 not
          have t12 : y7.toInt = a0.toInt := ti_eq c9
          have i13 : 0 ≤ a0.toInt ∧ a0.toInt ≤ 19 := iv_eqi t12.symm (iv_all _) iy7 (by decide)
          refine lv_aload_n hx hb dX13_hasRedress_23 rfl (lv_at hl 1 rfl) ?_
          refine th_get (ci := 14) (C := RX13) (T := TX13) (N := 97) (v := .ref (ad 30)) hx hb hts hinX13 hown hK hP hI 0 (Nat.le_of_ble_eq_true rfl) rfl rfl 44 (Nat.le_of_ble_eq_true rfl) (hts _ (vA_in _ _ (in_32 _ (zs1 (zs1 (zs0)))))) (fun _ h9 => h9) (hI.fr 0 (Nat.le_of_ble_eq_true rfl) rfl (Nat.le_of_ble_eq_true rfl) 30 rfl) dX13_hasRedress_24 ?_
          refine lv_iload hx hb dX13_hasRedress_27 (lv_at hl 0 rfl) ?_
          have n15 : vp_in v3_4 20 := (iv_in (n := 20) i5 (by decide))
          refine th_iald hx hb hK hP hI 30 (Nat.le_of_ble_eq_true rfl) rfl rfl n15 dX13_hasRedress_29 (fun y14 ey14 => ?_)
          have iy14 : 0 ≤ y14.toInt ∧ y14.toInt ≤ 15 := hI.el 30 (Nat.le_of_ble_eq_true rfl) rfl n15 (fun _ => rfl) ey14
          have ey14 := ey14.trans (hKp.ei 30 _ rfl)
          refine lv_iload_n hx hb dX13_hasRedress_30 rfl (lv_at hl 3 rfl) ?_
          refine lv_icmp_ne (tgt := 47) hx hb dX13_hasRedress_31 (by decide) (fun c16 => ?_) (fun c16 => ?_)
          · --31 taken
            have t17 : ¬ y14.toInt = a1.toInt := ti_ne c16
            obtain ⟨y18, ey18⟩ : ∃ y : Int32, y = v3_4 + (1 : Int32) := ⟨_, rfl⟩
            obtain ⟨ty18, iy18⟩ := ti_add (e := 1) (f := 20) i5 ln_1 ey18 (by decide)
            have ty18 : y18.toInt = v3_4.toInt + 1 := ty18
            have iy18 : 1 ≤ y18.toInt ∧ y18.toInt ≤ 20 := iy18
            refine lv_iinc (v := y18) (lv' := [(4, .int y18), (0, .ref (ad 0)), (1, .int a0), (2, .int a1), (3, .int a2)]) hx hb dX13_hasRedress_47 hl (k := 0) rfl (by rw [ey18]; rfl) (by decide) rfl (fun ls hl => ?_)
            refine lv_goto (tgt := 3) hx hb dX13_hasRedress_50 (by decide) ?_
            exact ih3 y18 _ _ _ (iv_w iy18 (by decide)) (fun k h9 => dite (k = v3_4.toNatClampNeg) (fun q9 => by subst q9; intro hm; have gy7 := congrArg Int32.toInt ey7; have gy14 := congrArg Int32.toInt ey14; omega) (fun q9 => hx3_0 k (by rw [tn_] at q9; have z1 := ln_1; omega))) (by first | exact ms_su hx3_1 ty18 (by decide) | omega) hP hS (lv_sub hl [0, 1, 2, 3, 4] rfl)
          · --31 not
            have t19 : y14.toInt = a1.toInt := ti_eq c16
            have i20 : 0 ≤ a1.toInt ∧ a1.toInt ≤ 15 := iv_eqi t19.symm (iv_all _) iy14 (by decide)
            refine lv_aload_n hx hb dX13_hasRedress_34 rfl (lv_at hl 1 rfl) ?_
            refine th_get (ci := 14) (C := RX13) (T := TX13) (N := 97) (v := .ref (ad 31)) hx hb hts hinX13 hown hK hP hI 0 (Nat.le_of_ble_eq_true rfl) rfl rfl 45 (Nat.le_of_ble_eq_true rfl) (hts _ (vA_in _ _ (in_32 _ (zs1 (zs1 (zs1 (zs0))))))) (fun _ h9 => h9) (hI.fr 0 (Nat.le_of_ble_eq_true rfl) rfl (Nat.le_of_ble_eq_true rfl) 31 rfl) dX13_hasRedress_35 ?_
            refine lv_iload hx hb dX13_hasRedress_38 (lv_at hl 0 rfl) ?_
            have n22 : vp_in v3_4 20 := (iv_in (n := 20) i5 (by decide))
            refine th_iald hx hb hK hP hI 31 (Nat.le_of_ble_eq_true rfl) rfl rfl n22 dX13_hasRedress_40 (fun y21 ey21 => ?_)
            have iy21 : 0 ≤ y21.toInt ∧ y21.toInt ≤ 400 := hI.el 31 (Nat.le_of_ble_eq_true rfl) rfl n22 (fun _ => rfl) ey21
            have ey21 := ey21.trans (hKp.ei 31 _ rfl)
            refine lv_iload_n hx hb dX13_hasRedress_41 rfl (lv_at hl 4 rfl) ?_
            refine lv_icmp_gt (tgt := 47) hx hb dX13_hasRedress_42 (by decide) (fun c23 => ?_) (fun c23 => ?_)
            · --42 taken
              have t24 : a2.toInt < y21.toInt := ti_lt c23
              have i25 : -2147483648 ≤ a2.toInt ∧ a2.toInt ≤ 399 := iv_lt_l t24 (iv_all _) iy21 (by decide)
              obtain ⟨y26, ey26⟩ : ∃ y : Int32, y = v3_4 + (1 : Int32) := ⟨_, rfl⟩
              obtain ⟨ty26, iy26⟩ := ti_add (e := 1) (f := 20) i5 ln_1 ey26 (by decide)
              have ty26 : y26.toInt = v3_4.toInt + 1 := ty26
              have iy26 : 1 ≤ y26.toInt ∧ y26.toInt ≤ 20 := iy26
              refine lv_iinc (v := y26) (lv' := [(4, .int y26), (0, .ref (ad 0)), (1, .int a0), (2, .int a1), (3, .int a2)]) hx hb dX13_hasRedress_47 hl (k := 0) rfl (by rw [ey26]; rfl) (by decide) rfl (fun ls hl => ?_)
              refine lv_goto (tgt := 3) hx hb dX13_hasRedress_50 (by decide) ?_
              exact ih3 y26 _ _ _ (iv_w iy26 (by decide)) (fun k h9 => dite (k = v3_4.toNatClampNeg) (fun q9 => by subst q9; intro hm; have gy7 := congrArg Int32.toInt ey7; have gy14 := congrArg Int32.toInt ey14; have gy21 := congrArg Int32.toInt ey21; omega) (fun q9 => hx3_0 k (by rw [tn_] at q9; have z1 := ln_1; omega))) (by first | exact ms_su hx3_1 ty26 (by decide) | omega) hP hS (lv_sub hl [0, 1, 2, 3, 4] rfl)
            · --42 not
              have t27 : y21.toInt ≤ a2.toInt := ti_nlt c23
              have i28 : 0 ≤ a2.toInt ∧ a2.toInt ≤ 2147483647 := iv_le_r t27 iy21 (iv_all _) (by decide)
              refine lv_iconst (v := 1) hx hb dX13_hasRedress_45 (by decide) ?_
              rw [hQ]
              exact W.zret (v := 1) hx hb hr rfl (fun t ht hW => ⟨⟨1, (), rfl, Or.inl ⟨rfl, ⟨v3_4.toNatClampNeg, by rw [tn_]; omega, by rw [← ey7]; omega, by rw [← ey14]; omega, by rw [← ey21]; omega⟩⟩, trivial⟩, hS.F ht⟩) hS.2.2 dX13_hasRedress_46
  exact hL3 (21) (0 : Int32) _ _ _ (iv_w ln_0 (by decide)) (fun k h9 => by exfalso; have z0 := ln_0; omega) (by have h9 := ln_0; first | exact ms_bu h9.1 (by decide) | omega) hP hS (lv_sub hl [0, 1, 2, 3, 4] rfl)
def v_u_swiftR : List Cond := .code yX12_swift cX12_swift 3 (some .boolean) :: vA
abbrev rm_u_swiftR : Room := { frames := 3, cells := 0, slots := 0, locals := 120 }
set_option maxHeartbeats 4000000 in
set_option maxRecDepth 100000 in
theorem q_u_swiftR (l : Launch) (dC : Nat → ClassId) (dI : Nat → Nat → Nat) (cT : Nat → ClassId) (cf : Nat → Nat) (hC : CF cf) (ad : Nat → Nat) (E : Nat → va_E) (sz : Nat) (a0 : Int32) (a1 : Int32) (hI0 : IXL cT (shC cf) (spC cf) (LC cf) ad E)  : Met l yX12_swift v_u_swiftR rm_u_swiftR (va_Pc [.ref (ad 0), .int a0, .int a1] (HWL dC dI (TYC cT) cf ad E sz)) (va_Qi (S := Nat → va_E) (fun r u => IXL cT (shC cf) (spC cf) (LC cf) ad u ∧ Kp (wl [64 * (a0.toNatClampNeg + 1) + 11] []) E u ∧ ((r = 1 ∧ ((0 ≤ a0.toInt ∧ a0.toInt < ((cf 2 : Nat) : Int)) ∧ (1 ≤ a1.toInt ∧ a1.toInt ≤ 9)) ∧ (xi (u (64 * (a0.toNatClampNeg + 1) + 11)) = upd (xi (E (64 * (a0.toNatClampNeg + 1) + 11))) (xi (E 1) 0).toNatClampNeg a1)) ∨ (r = 0 ∧ (¬ ((0 ≤ a0.toInt ∧ a0.toInt < ((cf 2 : Nat) : Int)) ∧ (1 ≤ a1.toInt ∧ a1.toInt ≤ 9))) ∧ (xi (u (64 * (a0.toNatClampNeg + 1) + 11)) = xi (E (64 * (a0.toNatClampNeg + 1) + 11)))))) (HBL dC dI (LC cf) ad) (va_A (WL (LC cf) ad E) sz)) 0 0 (va_A (WL (LC cf) ad E) sz) := by
  obtain ⟨⟨hc0, hc1, hc2, hc3, hc4, hc5⟩, hcr⟩ := id hC
  refine Met.ofW (cc := cX12_swift) (maxL := 3) (ret := (some .boolean)) (by decide) rfl ?_
  intro p e s m args below meth c s₁ B hml hv
  obtain ⟨hargs, hsz, hP, hK, hD0, hEV⟩ := hv
  subst hsz
  have hx := B.exec
  have hb := B.bytes
  have hr := B.returns
  have hts := atoms_spec (ws := v_u_swiftR) B.pre
  have hown : s.vm.findClass RX12 = some m.cls := findClass_of_methodNamed B.named
  have hlocks := B.notSynchronized
  have hinX0 : ∀ w ∈ u_ws RX0 TX0 11, w ∈ v_u_swiftR := fun w h => vA_in _ w (in_X0 w h)
  have hinX12 : ∀ w ∈ u_ws RX12 TX12 6, w ∈ v_u_swiftR := fun w h => vA_in _ w (in_X12 w h)
  have hinX5 : ∀ w ∈ u_ws RX5 TX5 12, w ∈ v_u_swiftR := fun w h => vA_in _ w (in_X5 w h)
  generalize hAe : va_A (WL (LC cf) ad E) s.heap.size = A at hEV ⊢
  have hA : ∀ q : Nat, s.heap.size ≤ q → A q := fun q h => by rw [← hAe]; exact Or.inr h
  have hD : va_D A (WL (LC cf) ad E) := by rw [← hAe]; exact hD0.self
  have hS : va_S A s.heap s.heap [] := va_S.rf
  have hI := hI0
  have hKp : Kp (wl [64 * (a0.toNatClampNeg + 1) + 11] []) E E := Kp.rf
  have hl := lv_entry ([.ref (ad 0), .int a0, .int a1]) (n := 3) (Nat.le_of_ble_eq_true rfl)
  obtain ⟨Q, hQ⟩ : ∃ Q, Q = MQ below (va_Qi (S := Nat → va_E) (fun r u => IXL cT (shC cf) (spC cf) (LC cf) ad u ∧ Kp (wl [64 * (a0.toNatClampNeg + 1) + 11] []) E u ∧ ((r = 1 ∧ ((0 ≤ a0.toInt ∧ a0.toInt < ((cf 2 : Nat) : Int)) ∧ (1 ≤ a1.toInt ∧ a1.toInt ≤ 9)) ∧ (xi (u (64 * (a0.toNatClampNeg + 1) + 11)) = upd (xi (E (64 * (a0.toNatClampNeg + 1) + 11))) (xi (E 1) 0).toNatClampNeg a1)) ∨ (r = 0 ∧ (¬ ((0 ≤ a0.toInt ∧ a0.toInt < ((cf 2 : Nat) : Int)) ∧ (1 ≤ a1.toInt ∧ a1.toInt ≤ 9))) ∧ (xi (u (64 * (a0.toNatClampNeg + 1) + 11)) = xi (E (64 * (a0.toNatClampNeg + 1) + 11)))))) (HBL dC dI (LC cf) ad) (A)) args s 0 0 (A) := ⟨_, rfl⟩
  rw [← hQ, show entryFrame m args 3 = _ from (congrArg (fun z => entryFrame m z 3) hargs).trans (lg_entry_eq _ _ _)]
  generalize (lg_sl ([.ref (ad 0), .int a0, .int a1]) ++ List.replicate (3 - (lg_sl ([.ref (ad 0), .int a0, .int a1])).length) Slot.unset).toArray = ls at hl ⊢
  have hl : lv_has ls 3 [(0, .ref (ad 0)), (1, .int a0), (2, .int a1)] := hl
  refine lv_aload_n hx hb dX12_swift_0 rfl (lv_at hl 0 rfl) ?_
  refine th_getL (ci := 13) (C := RX12) (T := TX12) (N := 6) (v := .ref (ad 1)) hx hb hts hinX12 hown hK hP hI 0 (mF 0 rfl) rfl rfl 0 (Nat.le_of_ble_eq_true rfl) (hts _ (vA_in _ _ (in_10 _ (zs16 (zs1 (zs0)))))) (fun _ h9 => h9) (hI.fr 0 (mF 0 rfl) rfl (Nat.le_of_ble_eq_true rfl) 1 rfl) dX12_swift_1 ?_
  refine lv_iload_n hx hb dX12_swift_4 rfl (lv_at hl 1 rfl) ?_
  refine th_riL (va_runV (As := [.int a0]) (rest := []) ⟨hx, hb, hml, hown, hts⟩ (q_isRaceC l dC dI cT cf hC ad E s.heap.size a0 hI) (cwV 1 hts (gi_V (in_18 _ zs0) (in_6 _ (zs4 (zs1 (zs1 (zs1 (zs0)))))) (in_6 _ (zs4 (zs4 (zs0)))) (in_5 _ (zs4 (zs1 (zs1 (zs0))))) (in_6 _ (zs4 (zs4 (zs1 (zs0)))))) rfl rfl rfl ⟨rfl, hz_yX0_isRace_1⟩ ⟨Nat.le_of_ble_eq_true rfl, Nat.le_of_ble_eq_true rfl⟩) ⟨HWL_bl, va_recv hK hP (ci := 1) (q0 := posL 1 (LC cf)) rfl (hI.ob 1 (mF 1 rfl) rfl), (HWL_wi hP hK (WL_D hD) hS hA hEV)⟩ rfl rfl hl.1 rfl (lv_room (Nat.le_of_ble_eq_true rfl)) dX12_swift_5 ⟨Nat.le_of_ble_eq_true rfl, Nat.le_of_ble_eq_true rfl⟩) hS hP (fun r1 H locs hw hP hS => ?_)
  rcases hw with hw | hw
  · -- isRaceC, case 0
    obtain ⟨rfl, f2, f3⟩ := hw
    refine lv_if_eq (tgt := 21) hx hb dX12_swift_8 (by decide) (fun c4 => ?_) (fun c4 => ?_)
    · --8 taken
      exact absurd c4 (by decide)
    · --8 not
      refine lv_iload_n hx hb dX12_swift_11 rfl (lv_at hl 2 rfl) ?_
      refine lv_iconst (v := 1) hx hb dX12_swift_12 (by decide) ?_
      refine lv_bipush (v := 9) hx hb dX12_swift_13 (by decide) ?_
      refine th_pi (va_runS (As := [.int a1, .int 1, .int 9]) (rest := []) ⟨hx, hb, hml, hown, hts⟩ (q_cwithin l a1 (1 : Int32) (9 : Int32)) (va_cwS 3 hts (gi_S (in_10 _ (zs16 (zs4 (zs4 (zs4 (zs1 (zs1 (zs1 (zs0))))))))) (in_4 _ (zs16 (zs4 (zs1 (zs1 (zs0)))))) (in_4 _ (zs16 (zs4 (zs1 (zs1 (zs1 (zs0))))))) (in_4 _ (zs16 (zs4 (zs4 (zs0)))))) rfl rfl rfl hz_yX12_within_3 ⟨Nat.le_of_ble_eq_true rfl, Nat.le_of_ble_eq_true rfl⟩) ⟨fun _ _ _ _ q => q, fun _ _ _ => ⟨rfl, trivial⟩⟩ rfl rfl hl.1 rfl (lv_room (Nat.le_of_ble_eq_true rfl)) dX12_swift_15 ⟨Nat.le_of_ble_eq_true rfl, Nat.le_of_ble_eq_true rfl⟩) hS (fun r5 H1 locs1 hw hk1 hS => ?_)
      have hP := ub_keep hP hk1
      generalize H1 = H at hP hS ⊢
      generalize locs1 = locs at hS ⊢
      rcases hw with hw | hw
      · -- cwithin, case 0
        obtain ⟨rfl, f6⟩ := hw
        have t7 : (1 : Int) ≤ a1.toInt := f6.1
        have t8 : a1.toInt ≤ 9 := f6.2
        have i9 : 1 ≤ a1.toInt ∧ a1.toInt ≤ 2147483647 := iv_le_r t7 (il_ 1) (iv_all _) (by decide)
        have i10 : 1 ≤ a1.toInt ∧ a1.toInt ≤ 9 := iv_le_l t8 i9 (il_ 9) (by decide)
        refine lv_if_ne (tgt := 23) hx hb dX12_swift_18 (by decide) (fun c11 => ?_) (fun c11 => ?_)
        · --18 taken
          refine lv_aload_n hx hb dX12_swift_23 rfl (lv_at hl 0 rfl) ?_
          refine th_getL (ci := 13) (C := RX12) (T := TX12) (N := 6) (v := .ref (ad 1)) hx hb hts hinX12 hown hK hP hI 0 (mF 0 rfl) rfl rfl 0 (Nat.le_of_ble_eq_true rfl) (hts _ (vA_in _ _ (in_10 _ (zs16 (zs1 (zs0)))))) (fun _ h9 => h9) (hI.fr 0 (mF 0 rfl) rfl (Nat.le_of_ble_eq_true rfl) 1 rfl) dX12_swift_24 ?_
          refine th_getL (ci := 1) (C := RX0) (T := TX0) (N := 11) (v := .ref (ad 9)) hx hb hts hinX0 hown hK hP hI 1 (mF 1 rfl) rfl rfl 5 (Nat.le_of_ble_eq_true rfl) (hts _ (vA_in _ _ (in_14 _ (zs4 (zs1 (zs1 (zs1 (zs0)))))))) (fun _ h9 => h9) (hI.fr 1 (mF 1 rfl) rfl (Nat.le_of_ble_eq_true rfl) 9 rfl) dX12_swift_27 ?_
          refine lv_iload_n hx hb dX12_swift_30 rfl (lv_at hl 1 rfl) ?_
          refine th_rrL (va_runV (As := [.int a0]) (rest := []) ⟨hx, hb, hml, hown, hts⟩ (q_get2 l dC dI cT cf hC ad E H.size a0 hI (by omega)) (cwV 1 hts (gi_V (in_14 _ (zs16 (zs4 (zs4 (zs0))))) (in_4 _ (zs16 (zs16 (zs4 (zs1 (zs1 (zs0))))))) (in_4 _ (zs16 (zs16 (zs4 (zs1 (zs1 (zs1 (zs0)))))))) (in_3 _ (zs16 (zs1 (zs1 (zs0))))) (in_3 _ (zs16 (zs16 (zs4 (zs1 (zs1 (zs1 (zs0))))))))) rfl rfl rfl ⟨rfl, hz_yJx4a65c_get_915e3_1⟩ ⟨Nat.le_of_ble_eq_true rfl, Nat.le_of_ble_eq_true rfl⟩) ⟨HWL_bl, va_recv hK hP (ci := 0) (q0 := posL 9 (LC cf)) rfl (hI.ob 9 (mF 9 rfl) rfl), (HWL_wi hP hK (WL_D hD) hS hA hEV)⟩ rfl rfl hl.1 rfl (lv_room (Nat.le_of_ble_eq_true rfl)) dX12_swift_31 ⟨Nat.le_of_ble_eq_true rfl, Nat.le_of_ble_eq_true rfl⟩) hS hP (fun r12 H locs hw hP hS => ?_)
          obtain rfl := hw
          have lv13 : a0.toNatClampNeg < cf 2 := by rw [tn_]; omega
          refine va_castS (cC := dC 6) hx hb hown (hts _ (vA_in _ _ (in_17 _ (zs16 (zs16 (zs4 (zs1 (zs1 (zs0))))))))) (hK.1 6 _ rfl).2 (va_recv hK hP (ci := 6) (q0 := posL (64 * (a0.toNatClampNeg + 1) + 6) (LC cf)) rfl (hI.ob (64 * (a0.toNatClampNeg + 1) + 6) (mP 6 a0.toNatClampNeg (by decide) lv13 (kl_le hC 2 (by decide))) (shC_p 6 a0.toNatClampNeg (by decide)))) dX12_swift_34 ?_
          refine th_getL (ci := 6) (C := RX5) (T := TX5) (N := 12) (v := .ref (ad (64 * (a0.toNatClampNeg + 1) + 11))) hx hb hts hinX5 hown hK hP hI (64 * (a0.toNatClampNeg + 1) + 6) (mP 6 a0.toNatClampNeg (by decide) lv13 (kl_le hC 2 (by decide))) (shC_p 6 a0.toNatClampNeg (by decide)) rfl 11 (Nat.le_of_ble_eq_true rfl) (hts _ (vA_in _ _ (in_23 _ (zs16 (zs4 (zs1 (zs0))))))) (fun _ h9 => h9) (hI.fr (64 * (a0.toNatClampNeg + 1) + 6) (mP 6 a0.toNatClampNeg (by decide) lv13 (kl_le hC 2 (by decide))) (shC_p 6 a0.toNatClampNeg (by decide)) (Nat.le_of_ble_eq_true rfl) (64 * (a0.toNatClampNeg + 1) + 11) (spC_p 6 a0.toNatClampNeg (by decide) 11)) dX12_swift_37 ?_
          refine lv_aload_n hx hb dX12_swift_40 rfl (lv_at hl 0 rfl) ?_
          refine th_getL (ci := 13) (C := RX12) (T := TX12) (N := 6) (v := .ref (ad 1)) hx hb hts hinX12 hown hK hP hI 0 (mF 0 rfl) rfl rfl 0 (Nat.le_of_ble_eq_true rfl) (hts _ (vA_in _ _ (in_10 _ (zs16 (zs1 (zs0)))))) (fun _ h9 => h9) (hI.fr 0 (mF 0 rfl) rfl (Nat.le_of_ble_eq_true rfl) 1 rfl) dX12_swift_41 ?_
          have i14 : 0 ≤ (xi (E 1) 0).toInt ∧ (xi (E 1) 0).toInt ≤ 400 := hI0.iv 1 (mF 1 rfl) rfl (Nat.le_of_ble_eq_true rfl) rfl
          refine th_getL (ci := 1) (C := RX0) (T := TX0) (N := 11) (v := .int (xi (E 1) 0)) hx hb hts hinX0 hown hK hP hI 1 (mF 1 rfl) rfl rfl 0 (Nat.le_of_ble_eq_true rfl) (hts _ (vA_in _ _ (in_10 _ (zs16 (zs4 (zs4 (zs1 (zs1 (zs0))))))))) (fun _ h9 => h9) (th_v0L hKp hI0 1 (mF 1 rfl) rfl (Nat.le_of_ble_eq_true rfl) rfl rfl) dX12_swift_44 ?_
          refine lv_iload_n hx hb dX12_swift_47 rfl (lv_at hl 2 rfl) ?_
          have n15 : vp_in (xi (E 1) 0) 401 := (iv_in (n := 401) i14 (by decide))
          refine th_iastL hx hb hK hP (WL_D hD) hS hI (64 * (a0.toNatClampNeg + 1) + 11) (mP 11 a0.toNatClampNeg (by decide) lv13 (kl_le hC 2 (by decide))) (shC_p 11 a0.toNatClampNeg (by decide)) rfl n15 (okI (spC_p 11 a0.toNatClampNeg (by decide) _) (iv_w i10 (by decide))) dX12_swift_48 (fun H locs E16 pw17 hI hP hS => ?_)
          have hKp := hKp.pw pw17 (by simp [wl])
          refine lv_iconst (v := 1) hx hb dX12_swift_49 (by decide) ?_
          rw [hQ]
          exact W.zret (v := 1) hx hb hr rfl (fun t ht hW => ⟨⟨1, E16, rfl, ⟨hI, hKp, Or.inl ⟨rfl, by have h8 := ln_1; all_goals omega, pw17.eu⟩⟩, by show va_P (dC, dI) vwCl (WL (LC cf) ad E16) t.heap; rw [ht]; exact hP⟩, hS.F ht⟩) hS.2.2 dX12_swift_50
        · --18 not
          exact absurd c11 (by decide)
      · -- cwithin, case 1
        obtain ⟨rfl, f18⟩ := hw
        have t19 : ¬ ((1 : Int) ≤ a1.toInt ∧ a1.toInt ≤ 9) := f18
        refine lv_if_ne (tgt := 23) hx hb dX12_swift_18 (by decide) (fun c20 => ?_) (fun c20 => ?_)
        · --18 taken
          exact absurd c20 (by decide)
        · --18 not
          refine lv_iconst (v := 0) hx hb dX12_swift_21 (by decide) ?_
          rw [hQ]
          exact W.zret (v := 0) hx hb hr rfl (fun t ht hW => ⟨⟨0, E, rfl, ⟨hI, hKp, Or.inr (⟨rfl, by have h8 := ln_0; all_goals omega, rfl⟩)⟩, by show va_P (dC, dI) vwCl (WL (LC cf) ad E) t.heap; rw [ht]; exact hP⟩, hS.F ht⟩) hS.2.2 dX12_swift_22
  · -- isRaceC, case 1
    obtain ⟨rfl, f21⟩ := hw
    refine lv_if_eq (tgt := 21) hx hb dX12_swift_8 (by decide) (fun c22 => ?_) (fun c22 => ?_)
    · --8 taken
      refine lv_iconst (v := 0) hx hb dX12_swift_21 (by decide) ?_
      rw [hQ]
      exact W.zret (v := 0) hx hb hr rfl (fun t ht hW => ⟨⟨0, E, rfl, ⟨hI, hKp, Or.inr (⟨rfl, by have h8 := ln_0; all_goals omega, rfl⟩)⟩, by show va_P (dC, dI) vwCl (WL (LC cf) ad E) t.heap; rw [ht]; exact hP⟩, hS.F ht⟩) hS.2.2 dX12_swift_22
    · --8 not
      exact absurd c22 (by decide)
