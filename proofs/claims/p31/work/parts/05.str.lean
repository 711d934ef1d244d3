set_option maxRecDepth 100000 in
theorem zh_dJ0_length_8abf5_0_0 : zc cJ0_length_8abf5 0 [42, 180, 0, 9, 190, 42, 182, 1, 79, 122, 172] = true := by decide +kernel
set_option maxRecDepth 100000 in
theorem zh_dJ0_indexOf_0f7a4_0_0 : zc cJ0_indexOf_0f7a4 0 [42, 27, 3, 182, 2, 121, 172] = true := by decide +kernel
set_option maxRecDepth 100000 in
theorem zh_dJ0_indexOf_7cf53_0_0 : zc cJ0_indexOf_7cf53 0 [42, 182, 1, 236, 153, 0, 19, 42, 180, 0, 9, 27, 28, 42, 182, 1] = true := by decide +kernel
set_option maxRecDepth 100000 in
theorem zh_dJ0_indexOf_7cf53_14_16 : zc cJ0_indexOf_7cf53 16 [249, 184, 2, 125, 167, 0, 16, 42, 180, 0, 9, 27, 28, 42, 182, 1] = true := by decide +kernel
set_option maxRecDepth 100000 in
theorem zh_dJ0_indexOf_7cf53_36_32 : zc cJ0_indexOf_7cf53 32 [249, 184, 2, 128, 172] = true := by decide +kernel
set_option maxRecDepth 100000 in
theorem zh_dJ0_coder_7d493_0_0 : zc cJ0_coder_7d493 0 [178, 0, 38, 153, 0, 10, 42, 180, 0, 15, 167, 0, 4, 4, 172] = true := by decide +kernel
set_option maxRecDepth 100000 in
theorem zh_dJ0_isLatin1_aae02_0_0 : zc cJ0_isLatin1_aae02 0 [178, 0, 38, 153, 0, 14, 42, 180, 0, 15, 154, 0, 7, 4, 167, 0] = true := by decide +kernel
set_option maxRecDepth 100000 in
theorem zh_dJ0_isLatin1_aae02_14_16 : zc cJ0_isLatin1_aae02 16 [4, 3, 172] = true := by decide +kernel
set_option maxRecDepth 100000 in
theorem zh_dJ1_canEncode_9a6ad_0_0 : zc cJ1_canEncode_9a6ad 0 [26, 155, 0, 14, 26, 17, 0, 255, 163, 0, 7, 4, 167, 0, 4, 3] = true := by decide +kernel
set_option maxRecDepth 100000 in
theorem zh_dJ1_canEncode_9a6ad_16_16 : zc cJ1_canEncode_9a6ad 16 [172] = true := by decide +kernel
set_option maxRecDepth 100000 in
theorem zh_dJ1_indexOf_4cfef_0_0 : zc cJ1_indexOf_4cfef 0 [27, 184, 0, 88, 154, 0, 5, 2, 172, 28, 3, 184, 0, 92, 61, 29] = true := by decide +kernel
set_option maxRecDepth 100000 in
theorem zh_dJ1_indexOf_4cfef_16_16 : zc cJ1_indexOf_4cfef 16 [42, 190, 184, 0, 38, 62, 28, 29, 161, 0, 5, 2, 172, 42, 27, 28] = true := by decide +kernel
set_option maxRecDepth 100000 in
theorem zh_dJ1_indexOf_4cfef_32_32 : zc cJ1_indexOf_4cfef 32 [29, 184, 0, 95, 172] = true := by decide +kernel
set_option maxRecDepth 100000 in
theorem zh_dJ1_indexOfChar_4cfef_0_0 : zc cJ1_indexOfChar_4cfef 0 [27, 145, 54, 4, 28, 54, 5, 21, 5, 29, 162, 0, 21, 42, 21, 5] = true := by decide +kernel
set_option maxRecDepth 100000 in
theorem zh_dJ1_indexOfChar_4cfef_16_16 : zc cJ1_indexOfChar_4cfef 16 [51, 21, 4, 160, 0, 6, 21, 5, 172, 132, 5, 1, 167, 255, 235, 2] = true := by decide +kernel
set_option maxRecDepth 100000 in
theorem zh_dJ1_indexOfChar_4cfef_32_32 : zc cJ1_indexOfChar_4cfef 32 [172] = true := by decide +kernel
theorem dJ0_length_8abf5_0 : decode cJ0_length_8abf5 0 = .ok (.aload_n 0, 1) := zo_42 (zi_at zh_dJ0_length_8abf5_0_0 0 rfl)
theorem dJ0_length_8abf5_1 : decode cJ0_length_8abf5 1 = .ok (.getfield 9, 3) := zo_180 (zi_at zh_dJ0_length_8abf5_0_0 1 rfl) (zi_at zh_dJ0_length_8abf5_0_0 2 rfl) (zi_at zh_dJ0_length_8abf5_0_0 3 rfl) rfl
theorem dJ0_length_8abf5_4 : decode cJ0_length_8abf5 4 = .ok (.arraylength, 1) := zo_190 (zi_at zh_dJ0_length_8abf5_0_0 4 rfl)
theorem dJ0_length_8abf5_5 : decode cJ0_length_8abf5 5 = .ok (.aload_n 0, 1) := zo_42 (zi_at zh_dJ0_length_8abf5_0_0 5 rfl)
theorem dJ0_length_8abf5_6 : decode cJ0_length_8abf5 6 = .ok (.invokevirtual 335, 3) := zo_182 (zi_at zh_dJ0_length_8abf5_0_0 6 rfl) (zi_at zh_dJ0_length_8abf5_0_0 7 rfl) (zi_at zh_dJ0_length_8abf5_0_0 8 rfl) rfl
theorem dJ0_length_8abf5_9 : decode cJ0_length_8abf5 9 = .ok (.ishr, 1) := zo_122 (zi_at zh_dJ0_length_8abf5_0_0 9 rfl)
theorem dJ0_length_8abf5_10 : decode cJ0_length_8abf5 10 = .ok (.ireturn, 1) := zo_172 (zi_at zh_dJ0_length_8abf5_0_0 10 rfl)
theorem dJ0_indexOf_0f7a4_0 : decode cJ0_indexOf_0f7a4 0 = .ok (.aload_n 0, 1) := zo_42 (zi_at zh_dJ0_indexOf_0f7a4_0_0 0 rfl)
theorem dJ0_indexOf_0f7a4_1 : decode cJ0_indexOf_0f7a4 1 = .ok (.iload_n 1, 1) := zo_27 (zi_at zh_dJ0_indexOf_0f7a4_0_0 1 rfl)
theorem dJ0_indexOf_0f7a4_2 : decode cJ0_indexOf_0f7a4 2 = .ok (.iconst 0, 1) := zo_3 (zi_at zh_dJ0_indexOf_0f7a4_0_0 2 rfl)
theorem dJ0_indexOf_0f7a4_3 : decode cJ0_indexOf_0f7a4 3 = .ok (.invokevirtual 633, 3) := zo_182 (zi_at zh_dJ0_indexOf_0f7a4_0_0 3 rfl) (zi_at zh_dJ0_indexOf_0f7a4_0_0 4 rfl) (zi_at zh_dJ0_indexOf_0f7a4_0_0 5 rfl) rfl
theorem dJ0_indexOf_0f7a4_6 : decode cJ0_indexOf_0f7a4 6 = .ok (.ireturn, 1) := zo_172 (zi_at zh_dJ0_indexOf_0f7a4_0_0 6 rfl)
theorem dJ0_indexOf_7cf53_0 : decode cJ0_indexOf_7cf53 0 = .ok (.aload_n 0, 1) := zo_42 (zi_at zh_dJ0_indexOf_7cf53_0_0 0 rfl)
theorem dJ0_indexOf_7cf53_1 : decode cJ0_indexOf_7cf53 1 = .ok (.invokevirtual 492, 3) := zo_182 (zi_at zh_dJ0_indexOf_7cf53_0_0 1 rfl) (zi_at zh_dJ0_indexOf_7cf53_0_0 2 rfl) (zi_at zh_dJ0_indexOf_7cf53_0_0 3 rfl) rfl
theorem dJ0_indexOf_7cf53_4 : decode cJ0_indexOf_7cf53 4 = .ok (.ifCond .eq 19, 3) := zo_153 (zi_at zh_dJ0_indexOf_7cf53_0_0 4 rfl) (zi_at zh_dJ0_indexOf_7cf53_0_0 5 rfl) (zi_at zh_dJ0_indexOf_7cf53_0_0 6 rfl) rfl
theorem dJ0_indexOf_7cf53_7 : decode cJ0_indexOf_7cf53 7 = .ok (.aload_n 0, 1) := zo_42 (zi_at zh_dJ0_indexOf_7cf53_0_0 7 rfl)
theorem dJ0_indexOf_7cf53_8 : decode cJ0_indexOf_7cf53 8 = .ok (.getfield 9, 3) := zo_180 (zi_at zh_dJ0_indexOf_7cf53_0_0 8 rfl) (zi_at zh_dJ0_indexOf_7cf53_0_0 9 rfl) (zi_at zh_dJ0_indexOf_7cf53_0_0 10 rfl) rfl
theorem dJ0_indexOf_7cf53_11 : decode cJ0_indexOf_7cf53 11 = .ok (.iload_n 1, 1) := zo_27 (zi_at zh_dJ0_indexOf_7cf53_0_0 11 rfl)
theorem dJ0_indexOf_7cf53_12 : decode cJ0_indexOf_7cf53 12 = .ok (.iload_n 2, 1) := zo_28 (zi_at zh_dJ0_indexOf_7cf53_0_0 12 rfl)
theorem dJ0_indexOf_7cf53_13 : decode cJ0_indexOf_7cf53 13 = .ok (.aload_n 0, 1) := zo_42 (zi_at zh_dJ0_indexOf_7cf53_0_0 13 rfl)
theorem dJ0_indexOf_7cf53_14 : decode cJ0_indexOf_7cf53 14 = .ok (.invokevirtual 505, 3) := zo_182 (zi_at zh_dJ0_indexOf_7cf53_0_0 14 rfl) (zi_at zh_dJ0_indexOf_7cf53_0_0 15 rfl) (zi_at zh_dJ0_indexOf_7cf53_14_16 0 rfl) rfl
theorem dJ0_indexOf_7cf53_17 : decode cJ0_indexOf_7cf53 17 = .ok (.invokestatic 637, 3) := zo_184 (zi_at zh_dJ0_indexOf_7cf53_14_16 1 rfl) (zi_at zh_dJ0_indexOf_7cf53_14_16 2 rfl) (zi_at zh_dJ0_indexOf_7cf53_14_16 3 rfl) rfl
theorem dJ0_indexOf_7cf53_20 : decode cJ0_indexOf_7cf53 20 = .ok (.goto 16, 3) := zo_167 (zi_at zh_dJ0_indexOf_7cf53_14_16 4 rfl) (zi_at zh_dJ0_indexOf_7cf53_14_16 5 rfl) (zi_at zh_dJ0_indexOf_7cf53_14_16 6 rfl) rfl
theorem dJ0_indexOf_7cf53_36 : decode cJ0_indexOf_7cf53 36 = .ok (.ireturn, 1) := zo_172 (zi_at zh_dJ0_indexOf_7cf53_36_32 4 rfl)
theorem dJ0_coder_7d493_0 : decode cJ0_coder_7d493 0 = .ok (.getstatic 38, 3) := zo_178 (zi_at zh_dJ0_coder_7d493_0_0 0 rfl) (zi_at zh_dJ0_coder_7d493_0_0 1 rfl) (zi_at zh_dJ0_coder_7d493_0_0 2 rfl) rfl
theorem dJ0_coder_7d493_3 : decode cJ0_coder_7d493 3 = .ok (.ifCond .eq 10, 3) := zo_153 (zi_at zh_dJ0_coder_7d493_0_0 3 rfl) (zi_at zh_dJ0_coder_7d493_0_0 4 rfl) (zi_at zh_dJ0_coder_7d493_0_0 5 rfl) rfl
theorem dJ0_coder_7d493_6 : decode cJ0_coder_7d493 6 = .ok (.aload_n 0, 1) := zo_42 (zi_at zh_dJ0_coder_7d493_0_0 6 rfl)
theorem dJ0_coder_7d493_7 : decode cJ0_coder_7d493 7 = .ok (.getfield 15, 3) := zo_180 (zi_at zh_dJ0_coder_7d493_0_0 7 rfl) (zi_at zh_dJ0_coder_7d493_0_0 8 rfl) (zi_at zh_dJ0_coder_7d493_0_0 9 rfl) rfl
theorem dJ0_coder_7d493_10 : decode cJ0_coder_7d493 10 = .ok (.goto 4, 3) := zo_167 (zi_at zh_dJ0_coder_7d493_0_0 10 rfl) (zi_at zh_dJ0_coder_7d493_0_0 11 rfl) (zi_at zh_dJ0_coder_7d493_0_0 12 rfl) rfl
theorem dJ0_coder_7d493_14 : decode cJ0_coder_7d493 14 = .ok (.ireturn, 1) := zo_172 (zi_at zh_dJ0_coder_7d493_0_0 14 rfl)
theorem dJ0_isLatin1_aae02_0 : decode cJ0_isLatin1_aae02 0 = .ok (.getstatic 38, 3) := zo_178 (zi_at zh_dJ0_isLatin1_aae02_0_0 0 rfl) (zi_at zh_dJ0_isLatin1_aae02_0_0 1 rfl) (zi_at zh_dJ0_isLatin1_aae02_0_0 2 rfl) rfl
theorem dJ0_isLatin1_aae02_3 : decode cJ0_isLatin1_aae02 3 = .ok (.ifCond .eq 14, 3) := zo_153 (zi_at zh_dJ0_isLatin1_aae02_0_0 3 rfl) (zi_at zh_dJ0_isLatin1_aae02_0_0 4 rfl) (zi_at zh_dJ0_isLatin1_aae02_0_0 5 rfl) rfl
theorem dJ0_isLatin1_aae02_6 : decode cJ0_isLatin1_aae02 6 = .ok (.aload_n 0, 1) := zo_42 (zi_at zh_dJ0_isLatin1_aae02_0_0 6 rfl)
theorem dJ0_isLatin1_aae02_7 : decode cJ0_isLatin1_aae02 7 = .ok (.getfield 15, 3) := zo_180 (zi_at zh_dJ0_isLatin1_aae02_0_0 7 rfl) (zi_at zh_dJ0_isLatin1_aae02_0_0 8 rfl) (zi_at zh_dJ0_isLatin1_aae02_0_0 9 rfl) rfl
theorem dJ0_isLatin1_aae02_10 : decode cJ0_isLatin1_aae02 10 = .ok (.ifCond .ne 7, 3) := zo_154 (zi_at zh_dJ0_isLatin1_aae02_0_0 10 rfl) (zi_at zh_dJ0_isLatin1_aae02_0_0 11 rfl) (zi_at zh_dJ0_isLatin1_aae02_0_0 12 rfl) rfl
theorem dJ0_isLatin1_aae02_13 : decode cJ0_isLatin1_aae02 13 = .ok (.iconst 1, 1) := zo_4 (zi_at zh_dJ0_isLatin1_aae02_0_0 13 rfl)
theorem dJ0_isLatin1_aae02_14 : decode cJ0_isLatin1_aae02 14 = .ok (.goto 4, 3) := zo_167 (zi_at zh_dJ0_isLatin1_aae02_0_0 14 rfl) (zi_at zh_dJ0_isLatin1_aae02_0_0 15 rfl) (zi_at zh_dJ0_isLatin1_aae02_14_16 0 rfl) rfl
theorem dJ0_isLatin1_aae02_18 : decode cJ0_isLatin1_aae02 18 = .ok (.ireturn, 1) := zo_172 (zi_at zh_dJ0_isLatin1_aae02_14_16 2 rfl)
theorem dJ1_canEncode_9a6ad_0 : decode cJ1_canEncode_9a6ad 0 = .ok (.iload_n 0, 1) := zo_26 (zi_at zh_dJ1_canEncode_9a6ad_0_0 0 rfl)
theorem dJ1_canEncode_9a6ad_1 : decode cJ1_canEncode_9a6ad 1 = .ok (.ifCond .lt 14, 3) := zo_155 (zi_at zh_dJ1_canEncode_9a6ad_0_0 1 rfl) (zi_at zh_dJ1_canEncode_9a6ad_0_0 2 rfl) (zi_at zh_dJ1_canEncode_9a6ad_0_0 3 rfl) rfl
theorem dJ1_canEncode_9a6ad_4 : decode cJ1_canEncode_9a6ad 4 = .ok (.iload_n 0, 1) := zo_26 (zi_at zh_dJ1_canEncode_9a6ad_0_0 4 rfl)
theorem dJ1_canEncode_9a6ad_5 : decode cJ1_canEncode_9a6ad 5 = .ok (.sipush 255, 3) := zo_17 (zi_at zh_dJ1_canEncode_9a6ad_0_0 5 rfl) (zi_at zh_dJ1_canEncode_9a6ad_0_0 6 rfl) (zi_at zh_dJ1_canEncode_9a6ad_0_0 7 rfl) rfl
theorem dJ1_canEncode_9a6ad_8 : decode cJ1_canEncode_9a6ad 8 = .ok (.if_icmp .gt 7, 3) := zo_163 (zi_at zh_dJ1_canEncode_9a6ad_0_0 8 rfl) (zi_at zh_dJ1_canEncode_9a6ad_0_0 9 rfl) (zi_at zh_dJ1_canEncode_9a6ad_0_0 10 rfl) rfl
theorem dJ1_canEncode_9a6ad_11 : decode cJ1_canEncode_9a6ad 11 = .ok (.iconst 1, 1) := zo_4 (zi_at zh_dJ1_canEncode_9a6ad_0_0 11 rfl)
theorem dJ1_canEncode_9a6ad_12 : decode cJ1_canEncode_9a6ad 12 = .ok (.goto 4, 3) := zo_167 (zi_at zh_dJ1_canEncode_9a6ad_0_0 12 rfl) (zi_at zh_dJ1_canEncode_9a6ad_0_0 13 rfl) (zi_at zh_dJ1_canEncode_9a6ad_0_0 14 rfl) rfl
theorem dJ1_canEncode_9a6ad_15 : decode cJ1_canEncode_9a6ad 15 = .ok (.iconst 0, 1) := zo_3 (zi_at zh_dJ1_canEncode_9a6ad_0_0 15 rfl)
theorem dJ1_canEncode_9a6ad_16 : decode cJ1_canEncode_9a6ad 16 = .ok (.ireturn, 1) := zo_172 (zi_at zh_dJ1_canEncode_9a6ad_16_16 0 rfl)
theorem dJ1_indexOf_4cfef_0 : decode cJ1_indexOf_4cfef 0 = .ok (.iload_n 1, 1) := zo_27 (zi_at zh_dJ1_indexOf_4cfef_0_0 0 rfl)
theorem dJ1_indexOf_4cfef_1 : decode cJ1_indexOf_4cfef 1 = .ok (.invokestatic 88, 3) := zo_184 (zi_at zh_dJ1_indexOf_4cfef_0_0 1 rfl) (zi_at zh_dJ1_indexOf_4cfef_0_0 2 rfl) (zi_at zh_dJ1_indexOf_4cfef_0_0 3 rfl) rfl
theorem dJ1_indexOf_4cfef_4 : decode cJ1_indexOf_4cfef 4 = .ok (.ifCond .ne 5, 3) := zo_154 (zi_at zh_dJ1_indexOf_4cfef_0_0 4 rfl) (zi_at zh_dJ1_indexOf_4cfef_0_0 5 rfl) (zi_at zh_dJ1_indexOf_4cfef_0_0 6 rfl) rfl
theorem dJ1_indexOf_4cfef_7 : decode cJ1_indexOf_4cfef 7 = .ok (.iconst (-1), 1) := zo_2 (zi_at zh_dJ1_indexOf_4cfef_0_0 7 rfl)
theorem dJ1_indexOf_4cfef_8 : decode cJ1_indexOf_4cfef 8 = .ok (.ireturn, 1) := zo_172 (zi_at zh_dJ1_indexOf_4cfef_0_0 8 rfl)
theorem dJ1_indexOf_4cfef_9 : decode cJ1_indexOf_4cfef 9 = .ok (.iload_n 2, 1) := zo_28 (zi_at zh_dJ1_indexOf_4cfef_0_0 9 rfl)
theorem dJ1_indexOf_4cfef_10 : decode cJ1_indexOf_4cfef 10 = .ok (.iconst 0, 1) := zo_3 (zi_at zh_dJ1_indexOf_4cfef_0_0 10 rfl)
theorem dJ1_indexOf_4cfef_11 : decode cJ1_indexOf_4cfef 11 = .ok (.invokestatic 92, 3) := zo_184 (zi_at zh_dJ1_indexOf_4cfef_0_0 11 rfl) (zi_at zh_dJ1_indexOf_4cfef_0_0 12 rfl) (zi_at zh_dJ1_indexOf_4cfef_0_0 13 rfl) rfl
theorem dJ1_indexOf_4cfef_14 : decode cJ1_indexOf_4cfef 14 = .ok (.istore_n 2, 1) := zo_61 (zi_at zh_dJ1_indexOf_4cfef_0_0 14 rfl)
theorem dJ1_indexOf_4cfef_15 : decode cJ1_indexOf_4cfef 15 = .ok (.iload_n 3, 1) := zo_29 (zi_at zh_dJ1_indexOf_4cfef_0_0 15 rfl)
theorem dJ1_indexOf_4cfef_16 : decode cJ1_indexOf_4cfef 16 = .ok (.aload_n 0, 1) := zo_42 (zi_at zh_dJ1_indexOf_4cfef_16_16 0 rfl)
theorem dJ1_indexOf_4cfef_17 : decode cJ1_indexOf_4cfef 17 = .ok (.arraylength, 1) := zo_190 (zi_at zh_dJ1_indexOf_4cfef_16_16 1 rfl)
theorem dJ1_indexOf_4cfef_18 : decode cJ1_indexOf_4cfef 18 = .ok (.invokestatic 38, 3) := zo_184 (zi_at zh_dJ1_indexOf_4cfef_16_16 2 rfl) (zi_at zh_dJ1_indexOf_4cfef_16_16 3 rfl) (zi_at zh_dJ1_indexOf_4cfef_16_16 4 rfl) rfl
theorem dJ1_indexOf_4cfef_21 : decode cJ1_indexOf_4cfef 21 = .ok (.istore_n 3, 1) := zo_62 (zi_at zh_dJ1_indexOf_4cfef_16_16 5 rfl)
theorem dJ1_indexOf_4cfef_22 : decode cJ1_indexOf_4cfef 22 = .ok (.iload_n 2, 1) := zo_28 (zi_at zh_dJ1_indexOf_4cfef_16_16 6 rfl)
theorem dJ1_indexOf_4cfef_23 : decode cJ1_indexOf_4cfef 23 = .ok (.iload_n 3, 1) := zo_29 (zi_at zh_dJ1_indexOf_4cfef_16_16 7 rfl)
theorem dJ1_indexOf_4cfef_24 : decode cJ1_indexOf_4cfef 24 = .ok (.if_icmp .lt 5, 3) := zo_161 (zi_at zh_dJ1_indexOf_4cfef_16_16 8 rfl) (zi_at zh_dJ1_indexOf_4cfef_16_16 9 rfl) (zi_at zh_dJ1_indexOf_4cfef_16_16 10 rfl) rfl
theorem dJ1_indexOf_4cfef_27 : decode cJ1_indexOf_4cfef 27 = .ok (.iconst (-1), 1) := zo_2 (zi_at zh_dJ1_indexOf_4cfef_16_16 11 rfl)
theorem dJ1_indexOf_4cfef_28 : decode cJ1_indexOf_4cfef 28 = .ok (.ireturn, 1) := zo_172 (zi_at zh_dJ1_indexOf_4cfef_16_16 12 rfl)
theorem dJ1_indexOf_4cfef_29 : decode cJ1_indexOf_4cfef 29 = .ok (.aload_n 0, 1) := zo_42 (zi_at zh_dJ1_indexOf_4cfef_16_16 13 rfl)
theorem dJ1_indexOf_4cfef_30 : decode cJ1_indexOf_4cfef 30 = .ok (.iload_n 1, 1) := zo_27 (zi_at zh_dJ1_indexOf_4cfef_16_16 14 rfl)
theorem dJ1_indexOf_4cfef_31 : decode cJ1_indexOf_4cfef 31 = .ok (.iload_n 2, 1) := zo_28 (zi_at zh_dJ1_indexOf_4cfef_16_16 15 rfl)
theorem dJ1_indexOf_4cfef_32 : decode cJ1_indexOf_4cfef 32 = .ok (.iload_n 3, 1) := zo_29 (zi_at zh_dJ1_indexOf_4cfef_32_32 0 rfl)
theorem dJ1_indexOf_4cfef_33 : decode cJ1_indexOf_4cfef 33 = .ok (.invokestatic 95, 3) := zo_184 (zi_at zh_dJ1_indexOf_4cfef_32_32 1 rfl) (zi_at zh_dJ1_indexOf_4cfef_32_32 2 rfl) (zi_at zh_dJ1_indexOf_4cfef_32_32 3 rfl) rfl
theorem dJ1_indexOf_4cfef_36 : decode cJ1_indexOf_4cfef 36 = .ok (.ireturn, 1) := zo_172 (zi_at zh_dJ1_indexOf_4cfef_32_32 4 rfl)
theorem dJ1_indexOfChar_4cfef_0 : decode cJ1_indexOfChar_4cfef 0 = .ok (.iload_n 1, 1) := zo_27 (zi_at zh_dJ1_indexOfChar_4cfef_0_0 0 rfl)
theorem dJ1_indexOfChar_4cfef_1 : decode cJ1_indexOfChar_4cfef 1 = .ok (.i2b, 1) := zo_145 (zi_at zh_dJ1_indexOfChar_4cfef_0_0 1 rfl)
theorem dJ1_indexOfChar_4cfef_2 : decode cJ1_indexOfChar_4cfef 2 = .ok (.istore 4, 2) := zo_54 (zi_at zh_dJ1_indexOfChar_4cfef_0_0 2 rfl) (zi_at zh_dJ1_indexOfChar_4cfef_0_0 3 rfl)
theorem dJ1_indexOfChar_4cfef_4 : decode cJ1_indexOfChar_4cfef 4 = .ok (.iload_n 2, 1) := zo_28 (zi_at zh_dJ1_indexOfChar_4cfef_0_0 4 rfl)
theorem dJ1_indexOfChar_4cfef_5 : decode cJ1_indexOfChar_4cfef 5 = .ok (.istore 5, 2) := zo_54 (zi_at zh_dJ1_indexOfChar_4cfef_0_0 5 rfl) (zi_at zh_dJ1_indexOfChar_4cfef_0_0 6 rfl)
theorem dJ1_indexOfChar_4cfef_7 : decode cJ1_indexOfChar_4cfef 7 = .ok (.iload 5, 2) := zo_21 (zi_at zh_dJ1_indexOfChar_4cfef_0_0 7 rfl) (zi_at zh_dJ1_indexOfChar_4cfef_0_0 8 rfl)
theorem dJ1_indexOfChar_4cfef_9 : decode cJ1_indexOfChar_4cfef 9 = .ok (.iload_n 3, 1) := zo_29 (zi_at zh_dJ1_indexOfChar_4cfef_0_0 9 rfl)
theorem dJ1_indexOfChar_4cfef_10 : decode cJ1_indexOfChar_4cfef 10 = .ok (.if_icmp .ge 21, 3) := zo_162 (zi_at zh_dJ1_indexOfChar_4cfef_0_0 10 rfl) (zi_at zh_dJ1_indexOfChar_4cfef_0_0 11 rfl) (zi_at zh_dJ1_indexOfChar_4cfef_0_0 12 rfl) rfl
theorem dJ1_indexOfChar_4cfef_13 : decode cJ1_indexOfChar_4cfef 13 = .ok (.aload_n 0, 1) := zo_42 (zi_at zh_dJ1_indexOfChar_4cfef_0_0 13 rfl)
theorem dJ1_indexOfChar_4cfef_14 : decode cJ1_indexOfChar_4cfef 14 = .ok (.iload 5, 2) := zo_21 (zi_at zh_dJ1_indexOfChar_4cfef_0_0 14 rfl) (zi_at zh_dJ1_indexOfChar_4cfef_0_0 15 rfl)
theorem dJ1_indexOfChar_4cfef_16 : decode cJ1_indexOfChar_4cfef 16 = .ok (.baload, 1) := zo_51 (zi_at zh_dJ1_indexOfChar_4cfef_16_16 0 rfl)
theorem dJ1_indexOfChar_4cfef_17 : decode cJ1_indexOfChar_4cfef 17 = .ok (.iload 4, 2) := zo_21 (zi_at zh_dJ1_indexOfChar_4cfef_16_16 1 rfl) (zi_at zh_dJ1_indexOfChar_4cfef_16_16 2 rfl)
theorem dJ1_indexOfChar_4cfef_19 : decode cJ1_indexOfChar_4cfef 19 = .ok (.if_icmp .ne 6, 3) := zo_160 (zi_at zh_dJ1_indexOfChar_4cfef_16_16 3 rfl) (zi_at zh_dJ1_indexOfChar_4cfef_16_16 4 rfl) (zi_at zh_dJ1_indexOfChar_4cfef_16_16 5 rfl) rfl
theorem dJ1_indexOfChar_4cfef_22 : decode cJ1_indexOfChar_4cfef 22 = .ok (.iload 5, 2) := zo_21 (zi_at zh_dJ1_indexOfChar_4cfef_16_16 6 rfl) (zi_at zh_dJ1_indexOfChar_4cfef_16_16 7 rfl)
theorem dJ1_indexOfChar_4cfef_24 : decode cJ1_indexOfChar_4cfef 24 = .ok (.ireturn, 1) := zo_172 (zi_at zh_dJ1_indexOfChar_4cfef_16_16 8 rfl)
theorem dJ1_indexOfChar_4cfef_25 : decode cJ1_indexOfChar_4cfef 25 = .ok (.iinc 5 1, 3) := zo_132 (zi_at zh_dJ1_indexOfChar_4cfef_16_16 9 rfl) (zi_at zh_dJ1_indexOfChar_4cfef_16_16 10 rfl) (zi_at zh_dJ1_indexOfChar_4cfef_16_16 11 rfl) rfl
theorem dJ1_indexOfChar_4cfef_28 : decode cJ1_indexOfChar_4cfef 28 = .ok (.goto (-21), 3) := zo_167 (zi_at zh_dJ1_indexOfChar_4cfef_16_16 12 rfl) (zi_at zh_dJ1_indexOfChar_4cfef_16_16 13 rfl) (zi_at zh_dJ1_indexOfChar_4cfef_16_16 14 rfl) rfl
theorem dJ1_indexOfChar_4cfef_31 : decode cJ1_indexOfChar_4cfef 31 = .ok (.iconst (-1), 1) := zo_2 (zi_at zh_dJ1_indexOfChar_4cfef_16_16 15 rfl)
theorem dJ1_indexOfChar_4cfef_32 : decode cJ1_indexOfChar_4cfef 32 = .ok (.ireturn, 1) := zo_172 (zi_at zh_dJ1_indexOfChar_4cfef_32_32 0 rfl)
theorem hz_yJ0_coder_7d493_0 : yJ0_coder_7d493.cls ≠ "java/lang/invoke/MethodHandle" ∧ yJ0_coder_7d493.cls ≠ "java/lang/invoke/VarHandle" ∧ (parseMethodDescriptor yJ0_coder_7d493.desc).map (fun d => d.parameters.length) = some 0 := by decide +kernel
theorem hz_yJ1_canEncode_9a6ad_1 : yJ1_canEncode_9a6ad.cls ≠ "java/lang/invoke/MethodHandle" ∧ yJ1_canEncode_9a6ad.cls ≠ "java/lang/invoke/VarHandle" ∧ (parseMethodDescriptor yJ1_canEncode_9a6ad.desc).map (fun d => d.parameters.length) = some 1 := by decide +kernel
theorem hz_yJ1_indexOfChar_4cfef_4 : yJ1_indexOfChar_4cfef.cls ≠ "java/lang/invoke/MethodHandle" ∧ yJ1_indexOfChar_4cfef.cls ≠ "java/lang/invoke/VarHandle" ∧ (parseMethodDescriptor yJ1_indexOfChar_4cfef.desc).map (fun d => d.parameters.length) = some 4 := by decide +kernel
theorem hz_yJ0_isLatin1_aae02_0 : yJ0_isLatin1_aae02.cls ≠ "java/lang/invoke/MethodHandle" ∧ yJ0_isLatin1_aae02.cls ≠ "java/lang/invoke/VarHandle" ∧ (parseMethodDescriptor yJ0_isLatin1_aae02.desc).map (fun d => d.parameters.length) = some 0 := by decide +kernel
theorem hz_yJ0_length_8abf5_0 : yJ0_length_8abf5.cls ≠ "java/lang/invoke/MethodHandle" ∧ yJ0_length_8abf5.cls ≠ "java/lang/invoke/VarHandle" ∧ (parseMethodDescriptor yJ0_length_8abf5.desc).map (fun d => d.parameters.length) = some 0 := by decide +kernel
theorem hz_yJ1_indexOf_4cfef_4 : yJ1_indexOf_4cfef.cls ≠ "java/lang/invoke/MethodHandle" ∧ yJ1_indexOf_4cfef.cls ≠ "java/lang/invoke/VarHandle" ∧ (parseMethodDescriptor yJ1_indexOf_4cfef.desc).map (fun d => d.parameters.length) = some 4 := by decide +kernel
theorem hz_yJ0_indexOf_7cf53_2 : yJ0_indexOf_7cf53.cls ≠ "java/lang/invoke/MethodHandle" ∧ yJ0_indexOf_7cf53.cls ≠ "java/lang/invoke/VarHandle" ∧ (parseMethodDescriptor yJ0_indexOf_7cf53.desc).map (fun d => d.parameters.length) = some 2 := by decide +kernel

theorem ln_m2147483648 : (-2147483648 : Int) ≤ ((-2147483648) : Int32).toInt ∧ ((-2147483648) : Int32).toInt ≤ (-2147483648 : Int) := by decide
theorem ln_m1000000000 : (-1000000000 : Int) ≤ ((-1000000000) : Int32).toInt ∧ ((-1000000000) : Int32).toInt ≤ (-1000000000 : Int) := by decide
theorem ln_m100 : (-100 : Int) ≤ ((-100) : Int32).toInt ∧ ((-100) : Int32).toInt ≤ (-100 : Int) := by decide
theorem ln_m3 : (-3 : Int) ≤ ((-3) : Int32).toInt ∧ ((-3) : Int32).toInt ≤ (-3 : Int) := by decide
theorem ln_m2 : (-2 : Int) ≤ ((-2) : Int32).toInt ∧ ((-2) : Int32).toInt ≤ (-2 : Int) := by decide
theorem ln_m1 : (-1 : Int) ≤ ((-1) : Int32).toInt ∧ ((-1) : Int32).toInt ≤ (-1 : Int) := by decide
theorem ln_0 : (0 : Int) ≤ (0 : Int32).toInt ∧ (0 : Int32).toInt ≤ (0 : Int) := by decide
theorem ln_1 : (1 : Int) ≤ (1 : Int32).toInt ∧ (1 : Int32).toInt ≤ (1 : Int) := by decide
theorem ln_2 : (2 : Int) ≤ (2 : Int32).toInt ∧ (2 : Int32).toInt ≤ (2 : Int) := by decide
theorem ln_3 : (3 : Int) ≤ (3 : Int32).toInt ∧ (3 : Int32).toInt ≤ (3 : Int) := by decide
theorem ln_4 : (4 : Int) ≤ (4 : Int32).toInt ∧ (4 : Int32).toInt ≤ (4 : Int) := by decide
theorem ln_5 : (5 : Int) ≤ (5 : Int32).toInt ∧ (5 : Int32).toInt ≤ (5 : Int) := by decide
theorem ln_6 : (6 : Int) ≤ (6 : Int32).toInt ∧ (6 : Int32).toInt ≤ (6 : Int) := by decide
theorem ln_7 : (7 : Int) ≤ (7 : Int32).toInt ∧ (7 : Int32).toInt ≤ (7 : Int) := by decide
theorem ln_8 : (8 : Int) ≤ (8 : Int32).toInt ∧ (8 : Int32).toInt ≤ (8 : Int) := by decide
theorem ln_9 : (9 : Int) ≤ (9 : Int32).toInt ∧ (9 : Int32).toInt ≤ (9 : Int) := by decide
theorem ln_10 : (10 : Int) ≤ (10 : Int32).toInt ∧ (10 : Int32).toInt ≤ (10 : Int) := by decide
theorem ln_11 : (11 : Int) ≤ (11 : Int32).toInt ∧ (11 : Int32).toInt ≤ (11 : Int) := by decide
theorem ln_12 : (12 : Int) ≤ (12 : Int32).toInt ∧ (12 : Int32).toInt ≤ (12 : Int) := by decide
theorem ln_13 : (13 : Int) ≤ (13 : Int32).toInt ∧ (13 : Int32).toInt ≤ (13 : Int) := by decide
theorem ln_16 : (16 : Int) ≤ (16 : Int32).toInt ∧ (16 : Int32).toInt ≤ (16 : Int) := by decide
theorem ln_33 : (33 : Int) ≤ (33 : Int32).toInt ∧ (33 : Int32).toInt ≤ (33 : Int) := by decide
theorem ln_38 : (38 : Int) ≤ (38 : Int32).toInt ∧ (38 : Int32).toInt ≤ (38 : Int) := by decide
theorem ln_41 : (41 : Int) ≤ (41 : Int32).toInt ∧ (41 : Int32).toInt ≤ (41 : Int) := by decide
theorem ln_58 : (58 : Int) ≤ (58 : Int32).toInt ∧ (58 : Int32).toInt ≤ (58 : Int) := by decide
theorem ln_63 : (63 : Int) ≤ (63 : Int32).toInt ∧ (63 : Int32).toInt ≤ (63 : Int) := by decide
theorem ln_93 : (93 : Int) ≤ (93 : Int32).toInt ∧ (93 : Int32).toInt ≤ (93 : Int) := by decide
theorem ln_97 : (97 : Int) ≤ (97 : Int32).toInt ∧ (97 : Int32).toInt ≤ (97 : Int) := by decide
theorem ln_98 : (98 : Int) ≤ (98 : Int32).toInt ∧ (98 : Int32).toInt ≤ (98 : Int) := by decide
theorem ln_99 : (99 : Int) ≤ (99 : Int32).toInt ∧ (99 : Int32).toInt ≤ (99 : Int) := by decide
theorem ln_100 : (100 : Int) ≤ (100 : Int32).toInt ∧ (100 : Int32).toInt ≤ (100 : Int) := by decide
theorem ln_101 : (101 : Int) ≤ (101 : Int32).toInt ∧ (101 : Int32).toInt ≤ (101 : Int) := by decide
theorem ln_102 : (102 : Int) ≤ (102 : Int32).toInt ∧ (102 : Int32).toInt ≤ (102 : Int) := by decide
theorem ln_103 : (103 : Int) ≤ (103 : Int32).toInt ∧ (103 : Int32).toInt ≤ (103 : Int) := by decide
theorem ln_104 : (104 : Int) ≤ (104 : Int32).toInt ∧ (104 : Int32).toInt ≤ (104 : Int) := by decide
theorem ln_107 : (107 : Int) ≤ (107 : Int32).toInt ∧ (107 : Int32).toInt ≤ (107 : Int) := by decide
theorem ln_108 : (108 : Int) ≤ (108 : Int32).toInt ∧ (108 : Int32).toInt ≤ (108 : Int) := by decide
theorem ln_109 : (109 : Int) ≤ (109 : Int32).toInt ∧ (109 : Int32).toInt ≤ (109 : Int) := by decide
theorem ln_110 : (110 : Int) ≤ (110 : Int32).toInt ∧ (110 : Int32).toInt ≤ (110 : Int) := by decide
theorem ln_111 : (111 : Int) ≤ (111 : Int32).toInt ∧ (111 : Int32).toInt ≤ (111 : Int) := by decide
theorem ln_112 : (112 : Int) ≤ (112 : Int32).toInt ∧ (112 : Int32).toInt ≤ (112 : Int) := by decide
theorem ln_114 : (114 : Int) ≤ (114 : Int32).toInt ∧ (114 : Int32).toInt ≤ (114 : Int) := by decide
theorem ln_115 : (115 : Int) ≤ (115 : Int32).toInt ∧ (115 : Int32).toInt ≤ (115 : Int) := by decide
theorem ln_116 : (116 : Int) ≤ (116 : Int32).toInt ∧ (116 : Int32).toInt ≤ (116 : Int) := by decide
theorem ln_117 : (117 : Int) ≤ (117 : Int32).toInt ∧ (117 : Int32).toInt ≤ (117 : Int) := by decide
theorem ln_119 : (119 : Int) ≤ (119 : Int32).toInt ∧ (119 : Int32).toInt ≤ (119 : Int) := by decide
theorem ln_124 : (124 : Int) ≤ (124 : Int32).toInt ∧ (124 : Int32).toInt ≤ (124 : Int) := by decide
theorem ln_128 : (128 : Int) ≤ (128 : Int32).toInt ∧ (128 : Int32).toInt ≤ (128 : Int) := by decide
theorem ln_200 : (200 : Int) ≤ (200 : Int32).toInt ∧ (200 : Int32).toInt ≤ (200 : Int) := by decide
theorem ln_255 : (255 : Int) ≤ (255 : Int32).toInt ∧ (255 : Int32).toInt ≤ (255 : Int) := by decide
theorem ln_400 : (400 : Int) ≤ (400 : Int32).toInt ∧ (400 : Int32).toInt ≤ (400 : Int) := by decide
theorem ln_500 : (500 : Int) ≤ (500 : Int32).toInt ∧ (500 : Int32).toInt ≤ (500 : Int) := by decide
theorem ln_1000 : (1000 : Int) ≤ (1000 : Int32).toInt ∧ (1000 : Int32).toInt ≤ (1000 : Int) := by decide
theorem ln_2000 : (2000 : Int) ≤ (2000 : Int32).toInt ∧ (2000 : Int32).toInt ≤ (2000 : Int) := by decide
theorem ln_10000 : (10000 : Int) ≤ (10000 : Int32).toInt ∧ (10000 : Int32).toInt ≤ (10000 : Int) := by decide
theorem ln_2147483647 : (2147483647 : Int) ≤ (2147483647 : Int32).toInt ∧ (2147483647 : Int32).toInt ≤ (2147483647 : Int) := by decide
def v_isLatin1 : List Cond := .code yJ0_isLatin1_aae02 cJ0_isLatin1_aae02 1 (some .boolean) :: vA
abbrev rm_isLatin1 : Room := { frames := 0, cells := 0, slots := 0, locals := 0 }
set_option maxHeartbeats 4000000 in
set_option maxRecDepth 100000 in
theorem q_isLatin1 (l : Launch) (qs vs : Nat) (bs : List Int32)   : Met l yJ0_isLatin1_aae02 v_isLatin1 rm_isLatin1 (va_Pc [.ref (qs)] (fun U => SS qs vs bs (fun _ => False) U U.heap)) (va_Qi (S := Unit) (fun r _ => r = 1) (fun _ _ => True) (fun _ => False)) 0 0 (fun _ => False) := by
  refine Met.ofW (cc := cJ0_isLatin1_aae02) (maxL := 1) (ret := (some .boolean)) (by decide) rfl ?_
  intro p e s m args below meth c s₁ B hml hv
  obtain ⟨hargs, hSS⟩ := hv
  have hSS : SS qs vs bs (fun _ => False) s s.heap := hSS
  have hx := B.exec
  have hb := B.bytes
  have hr := B.returns
  have hts := atoms_spec (ws := v_isLatin1) B.pre
  have hown : s.vm.findClass RJ0 = some m.cls := findClass_of_methodNamed B.named
  have hlocks := B.notSynchronized
  have hS : va_S (fun _ : Nat => False) s.heap s.heap [] := va_S.rf
  have hl := lv_entry ([.ref (qs)]) (n := 1) (Nat.le_of_ble_eq_true rfl)
  obtain ⟨Q, hQ⟩ : ∃ Q, Q = MQ below (va_Qi (S := Unit) (fun r _ => r = 1) (fun _ _ => True) (fun _ => False)) args s 0 0 (fun _ => False) := ⟨_, rfl⟩
  rw [← hQ, show entryFrame m args 1 = _ from (congrArg (fun z => entryFrame m z 1) hargs).trans (lg_entry_eq _ _ _)]
  generalize (lg_sl ([.ref (qs)]) ++ List.replicate (1 - (lg_sl ([.ref (qs)])).length) Slot.unset).toArray = ls at hl ⊢
  have hl : lv_has ls 1 [(0, .ref qs)] := hl
  refine va_gets hx hb hSS.2.2.2.2 hS hown (hts _ (vA_in _ _ (in_0 _ (zs4 (zs1 (zs1 (zs1 (zs0)))))))) (fun _ h9 => h9) dJ0_isLatin1_aae02_0 ?_
  refine lv_if_eq (tgt := 17) hx hb dJ0_isLatin1_aae02_3 (by decide) (fun c1 => ?_) (fun c1 => ?_)
  · --3 taken
    exact absurd c1 (by decide)
  · --3 not
    refine lv_aload_n hx hb dJ0_isLatin1_aae02_6 rfl (lv_at hl 0 rfl) ?_
    refine vk_getf hx hb hSS.2.1 hS hown (hts _ (vA_in _ _ (in_0 _ (zs4 (zs4 (zs0)))))) (fun _ h9 => h9) dJ0_isLatin1_aae02_7 ?_
    refine lv_if_ne (tgt := 17) hx hb dJ0_isLatin1_aae02_10 (by decide) (fun c2 => ?_) (fun c2 => ?_)
    · --10 taken
      exact absurd c2 (by decide)
    · --10 not
      refine lv_iconst (v := 1) hx hb dJ0_isLatin1_aae02_13 (by decide) ?_
      refine lv_goto (tgt := 18) hx hb dJ0_isLatin1_aae02_14 (by decide) ?_
      rw [hQ]
      exact W.zret (v := 1) hx hb hr rfl (fun t ht hW => ⟨⟨1, (), rfl, rfl, trivial⟩, hS.F ht⟩) hS.2.2 dJ0_isLatin1_aae02_18
def v_coder : List Cond := .code yJ0_coder_7d493 cJ0_coder_7d493 1 (some .byte) :: vA
abbrev rm_coder : Room := { frames := 0, cells := 0, slots := 0, locals := 0 }
set_option maxHeartbeats 4000000 in
set_option maxRecDepth 100000 in
theorem q_coder (l : Launch) (qs vs : Nat) (bs : List Int32)   : Met l yJ0_coder_7d493 v_coder rm_coder (va_Pc [.ref (qs)] (fun U => SS qs vs bs (fun _ => False) U U.heap)) (va_Qi (S := Unit) (fun r _ => r = 0) (fun _ _ => True) (fun _ => False)) 0 0 (fun _ => False) := by
  refine Met.ofW (cc := cJ0_coder_7d493) (maxL := 1) (ret := (some .byte)) (by decide) rfl ?_
  intro p e s m args below meth c s₁ B hml hv
  obtain ⟨hargs, hSS⟩ := hv
  have hSS : SS qs vs bs (fun _ => False) s s.heap := hSS
  have hx := B.exec
  have hb := B.bytes
  have hr := B.returns
  have hts := atoms_spec (ws := v_coder) B.pre
  have hown : s.vm.findClass RJ0 = some m.cls := findClass_of_methodNamed B.named
  have hlocks := B.notSynchronized
  have hS : va_S (fun _ : Nat => False) s.heap s.heap [] := va_S.rf
  have hl := lv_entry ([.ref (qs)]) (n := 1) (Nat.le_of_ble_eq_true rfl)
  obtain ⟨Q, hQ⟩ : ∃ Q, Q = MQ below (va_Qi (S := Unit) (fun r _ => r = 0) (fun _ _ => True) (fun _ => False)) args s 0 0 (fun _ => False) := ⟨_, rfl⟩
  rw [← hQ, show entryFrame m args 1 = _ from (congrArg (fun z => entryFrame m z 1) hargs).trans (lg_entry_eq _ _ _)]
  generalize (lg_sl ([.ref (qs)]) ++ List.replicate (1 - (lg_sl ([.ref (qs)])).length) Slot.unset).toArray = ls at hl ⊢
  have hl : lv_has ls 1 [(0, .ref qs)] := hl
  refine va_gets hx hb hSS.2.2.2.2 hS hown (hts _ (vA_in _ _ (in_0 _ (zs4 (zs1 (zs1 (zs1 (zs0)))))))) (fun _ h9 => h9) dJ0_coder_7d493_0 ?_
  refine lv_if_eq (tgt := 13) hx hb dJ0_coder_7d493_3 (by decide) (fun c1 => ?_) (fun c1 => ?_)
  · --3 taken
    exact absurd c1 (by decide)
  · --3 not
    refine lv_aload_n hx hb dJ0_coder_7d493_6 rfl (lv_at hl 0 rfl) ?_
    refine vk_getf hx hb hSS.2.1 hS hown (hts _ (vA_in _ _ (in_0 _ (zs4 (zs4 (zs0)))))) (fun _ h9 => h9) dJ0_coder_7d493_7 ?_
    refine lv_goto (tgt := 14) hx hb dJ0_coder_7d493_10 (by decide) ?_
    rw [hQ]
    exact W.zret (v := 0) hx hb hr rfl (fun t ht hW => ⟨⟨0, (), rfl, rfl, trivial⟩, hS.F ht⟩) hS.2.2 dJ0_coder_7d493_14
def v_strlen : List Cond := .code yJ0_length_8abf5 cJ0_length_8abf5 1 (some .int) :: vA
abbrev rm_strlen : Room := { frames := 1, cells := 0, slots := 0, locals := 40 }
set_option maxHeartbeats 4000000 in
set_option maxRecDepth 100000 in
theorem q_strlen (l : Launch) (qs vs : Nat) (bs : List Int32)  (hh0 : bs.length ≤ 1000) : Met l yJ0_length_8abf5 v_strlen rm_strlen (va_Pc [.ref (qs)] (fun U => SS qs vs bs (fun _ => False) U U.heap)) (va_Qi (S := Unit) (fun r _ => (0 ≤ r.toInt ∧ r.toInt ≤ 1000) ∧ (r.toInt = (bs.length : Int))) (fun _ _ => True) (fun _ => False)) 0 0 (fun _ => False) := by
  refine Met.ofW (cc := cJ0_length_8abf5) (maxL := 1) (ret := (some .int)) (by decide) rfl ?_
  intro p e s m args below meth c s₁ B hml hv
  obtain ⟨hargs, hSS⟩ := hv
  have hSS : SS qs vs bs (fun _ => False) s s.heap := hSS
  have hx := B.exec
  have hb := B.bytes
  have hr := B.returns
  have hts := atoms_spec (ws := v_strlen) B.pre
  have hown : s.vm.findClass RJ0 = some m.cls := findClass_of_methodNamed B.named
  have hlocks := B.notSynchronized
  have hS : va_S (fun _ : Nat => False) s.heap s.heap [] := va_S.rf
  have hl := lv_entry ([.ref (qs)]) (n := 1) (Nat.le_of_ble_eq_true rfl)
  obtain ⟨Q, hQ⟩ : ∃ Q, Q = MQ below (va_Qi (S := Unit) (fun r _ => (0 ≤ r.toInt ∧ r.toInt ≤ 1000) ∧ (r.toInt = (bs.length : Int))) (fun _ _ => True) (fun _ => False)) args s 0 0 (fun _ => False) := ⟨_, rfl⟩
  rw [← hQ, show entryFrame m args 1 = _ from (congrArg (fun z => entryFrame m z 1) hargs).trans (lg_entry_eq _ _ _)]
  generalize (lg_sl ([.ref (qs)]) ++ List.replicate (1 - (lg_sl ([.ref (qs)])).length) Slot.unset).toArray = ls at hl ⊢
  have hl : lv_has ls 1 [(0, .ref qs)] := hl
  refine lv_aload_n hx hb dJ0_length_8abf5_0 rfl (lv_at hl 0 rfl) ?_
  refine vk_getf hx hb hSS.2.2.1 hS hown (hts _ (vA_in _ _ (in_0 _ (zs4 (zs4 (zs4 (zs1 (zs1 (zs1 (zs0)))))))))) (fun _ h9 => h9) dJ0_length_8abf5_1 ?_
  refine va_tlen (v := nI bs.length) hx hb hSS.2.2.2.1 hS rfl dJ0_length_8abf5_4 ?_
  refine lv_topi (fun y1 ey1 => ?_)
  have ty1 : y1.toInt = (bs.length : Int) := by rw [ey1]; exact nI_toInt (by omega)
  have iy1 : 0 ≤ y1.toInt ∧ y1.toInt ≤ 1000 := by omega
  refine lv_aload_n hx hb dJ0_length_8abf5_5 rfl (lv_at hl 0 rfl) ?_
  refine th_pi (va_runV (As := []) (rest := [.int y1]) ⟨hx, hb, hml, hown, hts⟩ (q_coder l qs vs bs) (cwV 0 hts (gi_V (in_0 _ (zs16 (zs4 (zs4 (zs0))))) (in_0 _ (zs16 (zs4 (zs4 (zs1 (zs0)))))) (in_0 _ (zs16 (zs4 (zs4 (zs1 (zs1 (zs0))))))) (in_0 _ (zs4 (zs4 (zs4 (zs1 (zs0)))))) (in_0 _ (zs4 (zs1 (zs1 (zs0)))))) rfl rfl rfl ⟨rfl, hz_yJ0_coder_7d493_0⟩ ⟨Nat.le_of_ble_eq_true rfl, Nat.le_of_ble_eq_true rfl⟩) ⟨fun a U g mk q => ⟨q.1, SS_c q.2⟩, va_Orecv hSS.1 hS, fun U hU hW => ⟨rfl, SS_w hU hW hS (fun _ h => h) hSS⟩⟩ rfl rfl hl.1 rfl (lv_room (Nat.le_of_ble_eq_true rfl)) dJ0_length_8abf5_6 ⟨Nat.le_of_ble_eq_true rfl, Nat.le_of_ble_eq_true rfl⟩) hS (fun r2 H1 locs1 hw hk1 hS => ?_)
  generalize H1 = H at hS ⊢
  generalize locs1 = locs at hS ⊢
  obtain rfl := hw
  refine lv_ishr hx hb dJ0_length_8abf5_9 ?_
  refine lv_topi (fun y3 ey3 => ?_)
  have ty3 : y3.toInt = y1.toInt := by rw [ey3, ey1]; exact congrArg Int32.toInt (sc_shr0 (by omega))
  have iy3 : 0 ≤ y3.toInt ∧ y3.toInt ≤ 1000 := by omega
  rw [hQ]
  exact W.iret (v := y3) hx hb hr (fun t ht hW => ⟨⟨y3, (), rfl, ⟨iy3, by all_goals omega⟩, trivial⟩, hS.F ht⟩) hS.2.2 dJ0_length_8abf5_10
def v_canEncode : List Cond := .code yJ1_canEncode_9a6ad cJ1_canEncode_9a6ad 1 (some .boolean) :: vA
abbrev rm_canEncode : Room := { frames := 0, cells := 0, slots := 0, locals := 0 }
set_option maxHeartbeats 4000000 in
set_option maxRecDepth 100000 in
theorem q_canEncode (l : Launch) (a0 : Int32)  : Met l yJ1_canEncode_9a6ad v_canEncode rm_canEncode (va_Pc [.int a0] (fun _ => True)) (va_Qi (S := Unit) (fun r _ => (r = 1 ∧ (0 ≤ a0.toInt ∧ a0.toInt ≤ 255)) ∨ (r = 0 ∧ (a0.toInt < 0 ∨ 255 < a0.toInt))) (fun _ _ => True) (fun _ => False)) 0 0 (fun _ => False) := by
  refine Met.ofW (cc := cJ1_canEncode_9a6ad) (maxL := 1) (ret := (some .boolean)) (by decide) rfl ?_
  intro p e s m args below meth c s₁ B hml hv
  obtain ⟨hargs, -⟩ := hv
  have hx := B.exec
  have hb := B.bytes
  have hr := B.returns
  have hts := atoms_spec (ws := v_canEncode) B.pre
  have hown : s.vm.findClass RJ1 = some m.cls := findClass_of_methodNamed B.named
  have hlocks := B.notSynchronized
  have hS : va_S (fun _ : Nat => False) s.heap s.heap [] := va_S.rf
  have hl := lv_entry ([.int a0]) (n := 1) (Nat.le_of_ble_eq_true rfl)
  obtain ⟨Q, hQ⟩ : ∃ Q, Q = MQ below (va_Qi (S := Unit) (fun r _ => (r = 1 ∧ (0 ≤ a0.toInt ∧ a0.toInt ≤ 255)) ∨ (r = 0 ∧ (a0.toInt < 0 ∨ 255 < a0.toInt))) (fun _ _ => True) (fun _ => False)) args s 0 0 (fun _ => False) := ⟨_, rfl⟩
  rw [← hQ, show entryFrame m args 1 = _ from (congrArg (fun z => entryFrame m z 1) hargs).trans (lg_entry_eq _ _ _)]
  generalize (lg_sl ([.int a0]) ++ List.replicate (1 - (lg_sl ([.int a0])).length) Slot.unset).toArray = ls at hl ⊢
  have hl : lv_has ls 1 [(0, .int a0)] := hl
  refine lv_iload_n hx hb dJ1_canEncode_9a6ad_0 rfl (lv_at hl 0 rfl) ?_
  refine lv_if_lt (tgt := 15) hx hb dJ1_canEncode_9a6ad_1 (by decide) (fun c1 => ?_) (fun c1 => ?_)
  · --1 taken
    have t2 : a0.toInt < 0 := ti_lt c1
    have i3 : -2147483648 ≤ a0.toInt ∧ a0.toInt ≤ -1 := iv_lt_l t2 (iv_all _) (il_ 0) (by decide)
    refine lv_iconst (v := 0) hx hb dJ1_canEncode_9a6ad_15 (by decide) ?_
    rw [hQ]
    exact W.zret (v := 0) hx hb hr rfl (fun t ht hW => ⟨⟨0, (), rfl, Or.inr (⟨rfl, by have h8 := ln_0; all_goals omega⟩), trivial⟩, hS.F ht⟩) hS.2.2 dJ1_canEncode_9a6ad_16
  · --1 not
    have t4 : (0 : Int) ≤ a0.toInt := ti_nlt c1
    have i5 : 0 ≤ a0.toInt ∧ a0.toInt ≤ 2147483647 := iv_le_r t4 (il_ 0) (iv_all _) (by decide)
    refine lv_iload_n hx hb dJ1_canEncode_9a6ad_4 rfl (lv_at hl 0 rfl) ?_
    refine lv_sipush (v := 255) hx hb dJ1_canEncode_9a6ad_5 (by decide) ?_
    refine lv_icmp_gt (tgt := 15) hx hb dJ1_canEncode_9a6ad_8 (by decide) (fun c6 => ?_) (fun c6 => ?_)
    · --8 taken
      have t7 : (255 : Int) < a0.toInt := ti_lt c6
      have i8 : 256 ≤ a0.toInt ∧ a0.toInt ≤ 2147483647 := iv_lt_r t7 (il_ 255) i5 (by decide)
      refine lv_iconst (v := 0) hx hb dJ1_canEncode_9a6ad_15 (by decide) ?_
      rw [hQ]
      exact W.zret (v := 0) hx hb hr rfl (fun t ht hW => ⟨⟨0, (), rfl, Or.inr (⟨rfl, by have h8 := ln_0; all_goals omega⟩), trivial⟩, hS.F ht⟩) hS.2.2 dJ1_canEncode_9a6ad_16
    · --8 not
      have t9 : a0.toInt ≤ 255 := ti_nlt c6
      have i10 : 0 ≤ a0.toInt ∧ a0.toInt ≤ 255 := iv_le_l t9 i5 (il_ 255) (by decide)
      refine lv_iconst (v := 1) hx hb dJ1_canEncode_9a6ad_11 (by decide) ?_
      refine lv_goto (tgt := 16) hx hb dJ1_canEncode_9a6ad_12 (by decide) ?_
      rw [hQ]
      exact W.zret (v := 1) hx hb hr rfl (fun t ht hW => ⟨⟨1, (), rfl, Or.inl ⟨rfl, i10⟩, trivial⟩, hS.F ht⟩) hS.2.2 dJ1_canEncode_9a6ad_16
def v_indexOfChar : List Cond := .code yJ1_indexOfChar_4cfef cJ1_indexOfChar_4cfef 6 (some .int) :: vA
abbrev rm_indexOfChar : Room := { frames := 0, cells := 0, slots := 0, locals := 0 }
set_option maxHeartbeats 4000000 in
set_option maxRecDepth 100000 in
theorem q_indexOfChar (l : Launch) (qs vs : Nat) (bs : List Int32) (a0 : Int32) (a2 : Int32) (hh0 : bs.length ≤ 1000) (hh1 : ∀ b ∈ bs, 0 ≤ b.toInt ∧ b.toInt < 128) (hh2 : 0 ≤ a0.toInt ∧ a0.toInt ≤ 255) (hh3 : a2.toInt = (bs.length : Int)) (hh4 : 0 ≤ a2.toInt ∧ a2.toInt ≤ 1000) : Met l yJ1_indexOfChar_4cfef v_indexOfChar rm_indexOfChar (va_Pc [.ref (vs), .int a0, .int 0, .int a2] (fun U => SS qs vs bs (fun _ => False) U U.heap)) (va_Qi (S := Unit) (fun r _ => (-1 ≤ r.toInt ∧ r.toInt ≤ 1000) ∧ (r = ixF a0 bs 0)) (fun _ _ => True) (fun _ => False)) 0 0 (fun _ => False) := by
  refine Met.ofW (cc := cJ1_indexOfChar_4cfef) (maxL := 6) (ret := (some .int)) (by decide) rfl ?_
  intro p e s m args below meth c s₁ B hml hv
  obtain ⟨hargs, hSS⟩ := hv
  have hSS : SS qs vs bs (fun _ => False) s s.heap := hSS
  have hx := B.exec
  have hb := B.bytes
  have hr := B.returns
  have hts := atoms_spec (ws := v_indexOfChar) B.pre
  have hown : s.vm.findClass RJ1 = some m.cls := findClass_of_methodNamed B.named
  have hlocks := B.notSynchronized
  have hS : va_S (fun _ : Nat => False) s.heap s.heap [] := va_S.rf
  have hl := lv_entry ([.ref (vs), .int a0, .int 0, .int a2]) (n := 6) (Nat.le_of_ble_eq_true rfl)
  obtain ⟨Q, hQ⟩ : ∃ Q, Q = MQ below (va_Qi (S := Unit) (fun r _ => (-1 ≤ r.toInt ∧ r.toInt ≤ 1000) ∧ (r = ixF a0 bs 0)) (fun _ _ => True) (fun _ => False)) args s 0 0 (fun _ => False) := ⟨_, rfl⟩
  rw [← hQ, show entryFrame m args 6 = _ from (congrArg (fun z => entryFrame m z 6) hargs).trans (lg_entry_eq _ _ _)]
  generalize (lg_sl ([.ref (vs), .int a0, .int 0, .int a2]) ++ List.replicate (6 - (lg_sl ([.ref (vs), .int a0, .int 0, .int a2])).length) Slot.unset).toArray = ls at hl ⊢
  have hl : lv_has ls 6 [(0, .ref vs), (1, .int a0), (2, .int 0), (3, .int a2)] := hl
  refine lv_iload_n hx hb dJ1_indexOfChar_4cfef_0 rfl (lv_at hl 1 rfl) ?_
  refine lv_i2b hx hb dJ1_indexOfChar_4cfef_1 rfl ?_
  refine lv_topi (fun y1 ey1 => ?_)
  have iy1 : -128 ≤ y1.toInt ∧ y1.toInt ≤ 127 := iv_i2b ey1
  refine lv_istore (lv' := [(4, .int y1), (0, .ref vs), (1, .int a0), (2, .int 0), (3, .int a2)]) hx hb dJ1_indexOfChar_4cfef_2 hl (by decide) rfl (fun ls hl => ?_)
  refine lv_iload_n hx hb dJ1_indexOfChar_4cfef_4 rfl (lv_at hl 3 rfl) ?_
  refine lv_istore (lv' := [(5, .int 0), (4, .int y1), (0, .ref vs), (1, .int a0), (2, .int 0), (3, .int a2)]) hx hb dJ1_indexOfChar_4cfef_5 hl (by decide) rfl (fun ls hl => ?_)
  have hL7 : ∀ d : Nat, ∀ (v7_5 : Int32) (H : Heap) (locs : List Loc) (ls : Array Slot), 0 ≤ v7_5.toInt ∧ v7_5.toInt ≤ 1000 → ixF a0 bs 0 = ixF a0 (bs.drop v7_5.toNatClampNeg) v7_5.toNatClampNeg → v7_5.toInt ≤ (bs.length : Int) → 1000 - v7_5.toInt < (d : Int) → va_S (fun _ : Nat => False) s.heap H locs → lv_has ls 6 [(5, .int v7_5), (4, .int y1), (0, .ref vs), (1, .int a0), (2, .int 0), (3, .int a2)] → W p l e (headSpec v_indexOfChar rm_indexOfChar).room s m args below meth c H locs 0 0 Q (F0 m 7 ls []) := by
    intro d
    induction d with
    | zero =>
      intro v7_5 H locs ls hv7_5 hx7_0 hx7_1 hx7_2 hS hl
      exact absurd hx7_2 (by first | exact ms_zu hv7_5.2 | omega)
    | succ d ih7 =>
      intro v7_5 H locs ls hv7_5 hx7_0 hx7_1 hx7_2 hS hl
      refine lv_iload hx hb dJ1_indexOfChar_4cfef_7 (lv_at hl 0 rfl) ?_
      refine lv_iload_n hx hb dJ1_indexOfChar_4cfef_9 rfl (lv_at hl 5 rfl) ?_
      refine lv_icmp_ge (tgt := 31) hx hb dJ1_indexOfChar_4cfef_10 (by decide) (fun c2 => ?_) (fun c2 => ?_)
      · --10 taken
        have t3 : a2.toInt ≤ v7_5.toInt := ti_le c2
        refine lv_iconst (v := -1) hx hb dJ1_indexOfChar_4cfef_31 (by decide) ?_
        rw [hQ]
        exact W.iret (v := (-1)) hx hb hr (fun t ht hW => ⟨⟨(-1), (), rfl, ⟨(iv_w ln_m1 (by decide)), ixF_end (x := v7_5) (by omega) hx7_0⟩, trivial⟩, hS.F ht⟩) hS.2.2 dJ1_indexOfChar_4cfef_32
      · --10 not
        have t4 : v7_5.toInt < a2.toInt := ti_nle c2
        have i5 : 0 ≤ v7_5.toInt ∧ v7_5.toInt ≤ 999 := iv_lt_l t4 hv7_5 hh4 (by decide)
        have i6 : 1 ≤ a2.toInt ∧ a2.toInt ≤ 1000 := iv_lt_r t4 hv7_5 hh4 (by decide)
        refine lv_aload_n hx hb dJ1_indexOfChar_4cfef_13 rfl (lv_at hl 2 rfl) ?_
        refine lv_iload hx hb dJ1_indexOfChar_4cfef_14 (lv_at hl 0 rfl) ?_
        refine va_tb hx hb hSS.2.2.2.1 hS (i := v7_5) (vp_in_iff.mpr ⟨by omega, by omega⟩) rfl dJ1_indexOfChar_4cfef_16 ?_
        refine lv_topi (fun y7 ey7 => ?_)
        refine lv_iload hx hb dJ1_indexOfChar_4cfef_17 (lv_at hl 1 rfl) ?_
        refine lv_icmp_ne (tgt := 25) hx hb dJ1_indexOfChar_4cfef_19 (by decide) (fun c8 => ?_) (fun c8 => ?_)
        · --19 taken
          have t9 : ¬ y7.toInt = y1.toInt := ti_ne c8
          obtain ⟨y10, ey10⟩ : ∃ y : Int32, y = v7_5 + (1 : Int32) := ⟨_, rfl⟩
          obtain ⟨ty10, iy10⟩ := ti_add (e := 1) (f := 1000) i5 ln_1 ey10 (by decide)
          have ty10 : y10.toInt = v7_5.toInt + 1 := ty10
          have iy10 : 1 ≤ y10.toInt ∧ y10.toInt ≤ 1000 := iy10
          refine lv_iinc (v := y10) (lv' := [(5, .int y10), (4, .int y1), (0, .ref vs), (1, .int a0), (2, .int 0), (3, .int a2)]) hx hb dJ1_indexOfChar_4cfef_25 hl (k := 0) rfl (by rw [ey10]; rfl) (by decide) rfl (fun ls hl => ?_)
          refine lv_goto (tgt := 7) hx hb dJ1_indexOfChar_4cfef_28 (by decide) ?_
          exact ih7 y10 _ _ _ (iv_w iy10 (by decide)) (ixF_next (x := v7_5) (by omega) (by omega) ty10 hx7_0 (fun h9 => c8 (ey7.trans ((i2b_small hh2 (hh1 _ (by rw [gd_ (show v7_5.toNatClampNeg < bs.length by show v7_5.toInt.toNat < _; omega)]; exact List.getElem_mem _)) ey1).mpr h9).symm))) (by omega) (by first | exact ms_su hx7_2 ty10 (by decide) | omega) hS (lv_sub hl [0, 1, 2, 3, 4, 5] rfl)
        · --19 not
          have t11 : y7.toInt = y1.toInt := ti_eq c8
          have i12 : -128 ≤ y7.toInt ∧ y7.toInt ≤ 127 := iv_eqi t11 (iv_all _) iy1 (by decide)
          refine lv_iload hx hb dJ1_indexOfChar_4cfef_22 (lv_at hl 0 rfl) ?_
          rw [hQ]
          exact W.iret (v := v7_5) hx hb hr (fun t ht hW => ⟨⟨v7_5, (), rfl, ⟨(iv_w i5 (by decide)), ixF_hit (x := v7_5) (by omega) (by omega) hx7_0 ((i2b_small hh2 (hh1 _ (by rw [gd_ (show v7_5.toNatClampNeg < bs.length by show v7_5.toInt.toNat < _; omega)]; exact List.getElem_mem _)) ey1).mp (c8.symm.trans ey7))⟩, trivial⟩, hS.F ht⟩) hS.2.2 dJ1_indexOfChar_4cfef_24
  exact hL7 (1001) (0 : Int32) _ _ _ (iv_w ln_0 (by decide)) rfl (by have h9 := ln_0; omega) (by have h9 := ln_0; first | exact ms_bu h9.1 (by decide) | omega) hS (lv_sub hl [0, 1, 2, 3, 4, 5] rfl)
def v_L1indexOf : List Cond := .code yJ1_indexOf_4cfef cJ1_indexOf_4cfef 4 (some .int) :: vA
abbrev rm_L1indexOf : Room := { frames := 1, cells := 0, slots := 0, locals := 40 }
set_option maxHeartbeats 4000000 in
set_option maxRecDepth 100000 in
theorem q_L1indexOf (l : Launch) (qs vs : Nat) (bs : List Int32) (a0 : Int32) (a2 : Int32) (hh0 : bs.length ≤ 1000) (hh1 : ∀ b ∈ bs, 0 ≤ b.toInt ∧ b.toInt < 128) (hh2 : a2.toInt = (bs.length : Int)) (hh3 : 0 ≤ a2.toInt ∧ a2.toInt ≤ 1000) : Met l yJ1_indexOf_4cfef v_L1indexOf rm_L1indexOf (va_Pc [.ref (vs), .int a0, .int 0, .int a2] (fun U => SS qs vs bs (fun _ => False) U U.heap)) (va_Qi (S := Unit) (fun r _ => (-1 ≤ r.toInt ∧ r.toInt ≤ 1000) ∧ (r = ixF a0 bs 0)) (fun _ _ => True) (fun _ => False)) 0 0 (fun _ => False) := by
  refine Met.ofW (cc := cJ1_indexOf_4cfef) (maxL := 4) (ret := (some .int)) (by decide) rfl ?_
  intro p e s m args below meth c s₁ B hml hv
  obtain ⟨hargs, hSS⟩ := hv
  have hSS : SS qs vs bs (fun _ => False) s s.heap := hSS
  have hx := B.exec
  have hb := B.bytes
  have hr := B.returns
  have hts := atoms_spec (ws := v_L1indexOf) B.pre
  have hown : s.vm.findClass RJ1 = some m.cls := findClass_of_methodNamed B.named
  have hlocks := B.notSynchronized
  have hS : va_S (fun _ : Nat => False) s.heap s.heap [] := va_S.rf
  have hl := lv_entry ([.ref (vs), .int a0, .int 0, .int a2]) (n := 4) (Nat.le_of_ble_eq_true rfl)
  obtain ⟨Q, hQ⟩ : ∃ Q, Q = MQ below (va_Qi (S := Unit) (fun r _ => (-1 ≤ r.toInt ∧ r.toInt ≤ 1000) ∧ (r = ixF a0 bs 0)) (fun _ _ => True) (fun _ => False)) args s 0 0 (fun _ => False) := ⟨_, rfl⟩
  rw [← hQ, show entryFrame m args 4 = _ from (congrArg (fun z => entryFrame m z 4) hargs).trans (lg_entry_eq _ _ _)]
  generalize (lg_sl ([.ref (vs), .int a0, .int 0, .int a2]) ++ List.replicate (4 - (lg_sl ([.ref (vs), .int a0, .int 0, .int a2])).length) Slot.unset).toArray = ls at hl ⊢
  have hl : lv_has ls 4 [(0, .ref vs), (1, .int a0), (2, .int 0), (3, .int a2)] := hl
  refine lv_iload_n hx hb dJ1_indexOf_4cfef_0 rfl (lv_at hl 1 rfl) ?_
  refine th_pi (va_runS (As := [.int a0]) (rest := []) ⟨hx, hb, hml, hown, hts⟩ (q_canEncode l a0) (va_cwS 1 hts (gi_S (in_0 _ (zs16 (zs16 (zs4 (zs1 (zs1 (zs0))))))) (in_0 _ (zs16 (zs16 (zs4 (zs1 (zs1 (zs1 (zs0)))))))) (in_0 _ (zs16 (zs4 (zs4 (zs4 (zs1 (zs0))))))) (in_1 _ zs0)) rfl rfl rfl hz_yJ1_canEncode_9a6ad_1 ⟨Nat.le_of_ble_eq_true rfl, Nat.le_of_ble_eq_true rfl⟩) ⟨fun _ _ _ _ q => q, fun _ _ _ => ⟨rfl, trivial⟩⟩ rfl rfl hl.1 rfl (lv_room (Nat.le_of_ble_eq_true rfl)) dJ1_indexOf_4cfef_1 ⟨Nat.le_of_ble_eq_true rfl, Nat.le_of_ble_eq_true rfl⟩) hS (fun r1 H1 locs1 hw hk1 hS => ?_)
  generalize H1 = H at hS ⊢
  generalize locs1 = locs at hS ⊢
  rcases hw with hw | hw
  · -- canEncode, case 0
    obtain ⟨rfl, f2⟩ := hw
    refine lv_if_ne (tgt := 9) hx hb dJ1_indexOf_4cfef_4 (by decide) (fun c3 => ?_) (fun c3 => ?_)
    · --4 taken
      refine lv_iload_n hx hb dJ1_indexOf_4cfef_9 rfl (lv_at hl 2 rfl) ?_
      refine lv_iconst (v := 0) hx hb dJ1_indexOf_4cfef_10 (by decide) ?_
      refine va_mmax hx hb (by rw [hml]; exact hl.1.symm) hown (hts _ (vA_in _ _ (in_0 _ (zs16 (zs4 (zs4 (zs4 (zs1 (zs1 (zs1 (zs0))))))))))) (hts _ (vA_in _ _ (in_0 _ (zs16 (zs16 (zs0)))))) (hts _ (vA_in _ _ (in_0 _ (zs16 (zs16 (zs1 (zs0))))))) (hts _ (vA_in _ _ (in_0 _ (zs16 (zs16 (zs1 (zs1 (zs0)))))))) (Nat.le_of_ble_eq_true rfl) (Nat.le_of_ble_eq_true rfl) (Nat.le_of_ble_eq_true rfl) (Nat.le_of_ble_eq_true rfl) dJ1_indexOf_4cfef_11 ?_
      refine lv_topi (fun y4 ey4 => ?_)
      obtain rfl : (0 : Int32) = y4 := (ey4.trans (by decide)).symm
      refine lv_istore_n (lv' := [(2, .int 0), (0, .ref vs), (1, .int a0), (3, .int a2)]) hx hb dJ1_indexOf_4cfef_14 rfl hl (by decide) rfl (fun ls hl => ?_)
      refine lv_iload_n hx hb dJ1_indexOf_4cfef_15 rfl (lv_at hl 3 rfl) ?_
      refine lv_aload_n hx hb dJ1_indexOf_4cfef_16 rfl (lv_at hl 1 rfl) ?_
      refine va_tlen (v := nI bs.length) hx hb hSS.2.2.2.1 hS rfl dJ1_indexOf_4cfef_17 ?_
      refine lv_topi (fun y5 ey5 => ?_)
      have ty5 : y5.toInt = (bs.length : Int) := by rw [ey5]; exact nI_toInt (by omega)
      have iy5 : 0 ≤ y5.toInt ∧ y5.toInt ≤ 1000 := by omega
      refine va_mmin hx hb (by rw [hml]; exact hl.1.symm) hown (hts _ (vA_in _ _ (in_0 _ (zs16 (zs16 (zs1 (zs1 (zs1 (zs0))))))))) (hts _ (vA_in _ _ (in_0 _ (zs16 (zs16 (zs4 (zs0))))))) (hts _ (vA_in _ _ (in_0 _ (zs16 (zs16 (zs1 (zs0))))))) (hts _ (vA_in _ _ (in_0 _ (zs16 (zs16 (zs4 (zs1 (zs0)))))))) (Nat.le_of_ble_eq_true rfl) (Nat.le_of_ble_eq_true rfl) (Nat.le_of_ble_eq_true rfl) (Nat.le_of_ble_eq_true rfl) dJ1_indexOf_4cfef_18 ?_
      refine lv_topi (fun y6 ey6 => ?_)
      obtain ⟨ty6, iy6⟩ := ti_min (e := 0) (f := 1000) hh3 iy5 ey6 (by decide)
      have iy6 : 0 ≤ y6.toInt ∧ y6.toInt ≤ 1000 := iy6
      refine lv_istore_n (lv' := [(3, .int y6), (2, .int 0), (0, .ref vs), (1, .int a0)]) hx hb dJ1_indexOf_4cfef_21 rfl hl (by decide) rfl (fun ls hl => ?_)
      refine lv_iload_n hx hb dJ1_indexOf_4cfef_22 rfl (lv_at hl 1 rfl) ?_
      refine lv_iload_n hx hb dJ1_indexOf_4cfef_23 rfl (lv_at hl 0 rfl) ?_
      refine lv_icmp_lt (tgt := 29) hx hb dJ1_indexOf_4cfef_24 (by decide) (fun c7 => ?_) (fun c7 => ?_)
      · --24 taken
        have t8 : (0 : Int) < y6.toInt := ti_lt c7
        have i9 : 1 ≤ y6.toInt ∧ y6.toInt ≤ 1000 := iv_lt_r t8 (il_ 0) iy6 (by decide)
        refine lv_aload_n hx hb dJ1_indexOf_4cfef_29 rfl (lv_at hl 2 rfl) ?_
        refine lv_iload_n hx hb dJ1_indexOf_4cfef_30 rfl (lv_at hl 3 rfl) ?_
        refine lv_iload_n hx hb dJ1_indexOf_4cfef_31 rfl (lv_at hl 1 rfl) ?_
        refine lv_iload_n hx hb dJ1_indexOf_4cfef_32 rfl (lv_at hl 0 rfl) ?_
        have z0 := ln_0
        refine th_pi (va_runS (As := [.ref vs, .int a0, .int 0, .int y6]) (rest := []) ⟨hx, hb, hml, hown, hts⟩ (q_indexOfChar l qs vs bs a0 y6 (by exact hh0) (by exact hh1) f2 (by omega) (iv_w i9 (by decide))) (va_cwS 4 hts (gi_S (in_1 _ (zs1 (zs0))) (in_1 _ (zs1 (zs1 (zs0)))) (in_0 _ (zs16 (zs4 (zs4 (zs4 (zs1 (zs0))))))) (in_1 _ (zs1 (zs1 (zs1 (zs0)))))) rfl rfl rfl hz_yJ1_indexOfChar_4cfef_4 ⟨Nat.le_of_ble_eq_true rfl, Nat.le_of_ble_eq_true rfl⟩) ⟨fun a U g mk q => ⟨q.1, SS_c q.2⟩, fun U hU hW => ⟨rfl, SS_w hU hW hS (fun _ h => h) hSS⟩⟩ rfl rfl hl.1 rfl (lv_room (Nat.le_of_ble_eq_true rfl)) dJ1_indexOf_4cfef_33 ⟨Nat.le_of_ble_eq_true rfl, Nat.le_of_ble_eq_true rfl⟩) hS (fun r10 H1 locs1 hw hk1 hS => ?_)
        generalize H1 = H at hS ⊢
        generalize locs1 = locs at hS ⊢
        obtain ⟨f11, f12⟩ := hw
        rw [hQ]
        exact W.iret (v := r10) hx hb hr (fun t ht hW => ⟨⟨r10, (), rfl, ⟨f11, f12⟩, trivial⟩, hS.F ht⟩) hS.2.2 dJ1_indexOf_4cfef_36
      · --24 not
        have t13 : y6.toInt ≤ 0 := ti_nlt c7
        have i14 : 0 ≤ y6.toInt ∧ y6.toInt ≤ 0 := iv_le_l t13 iy6 (il_ 0) (by decide)
        refine lv_iconst (v := -1) hx hb dJ1_indexOf_4cfef_27 (by decide) ?_
        rw [hQ]
        exact W.iret (v := (-1)) hx hb hr (fun t ht hW => ⟨⟨(-1), (), rfl, ⟨(iv_w ln_m1 (by decide)), by have h9 : bs = [] := (by apply List.length_eq_zero_iff.mp; omega); rw [h9]; rfl⟩, trivial⟩, hS.F ht⟩) hS.2.2 dJ1_indexOf_4cfef_28
    · --4 not
      exact absurd c3 (by decide)
  · -- canEncode, case 1
    obtain ⟨rfl, f15⟩ := hw
    refine lv_if_ne (tgt := 9) hx hb dJ1_indexOf_4cfef_4 (by decide) (fun c16 => ?_) (fun c16 => ?_)
    · --4 taken
      exact absurd c16 (by decide)
    · --4 not
      refine lv_iconst (v := -1) hx hb dJ1_indexOf_4cfef_7 (by decide) ?_
      rw [hQ]
      exact W.iret (v := (-1)) hx hb hr (fun t ht hW => ⟨⟨(-1), (), rfl, ⟨(iv_w ln_m1 (by decide)), by rw [ixF_none f15 bs 0 hh1]⟩, trivial⟩, hS.F ht⟩) hS.2.2 dJ1_indexOf_4cfef_8
def v_indexOf2 : List Cond := .code yJ0_indexOf_7cf53 cJ0_indexOf_7cf53 3 (some .int) :: vA
abbrev rm_indexOf2 : Room := { frames := 2, cells := 0, slots := 0, locals := 80 }
set_option maxHeartbeats 4000000 in
set_option maxRecDepth 100000 in
theorem q_indexOf2 (l : Launch) (qs vs : Nat) (bs : List Int32) (a0 : Int32) (hh0 : bs.length ≤ 1000) (hh1 : ∀ b ∈ bs, 0 ≤ b.toInt ∧ b.toInt < 128) : Met l yJ0_indexOf_7cf53 v_indexOf2 rm_indexOf2 (va_Pc [.ref (qs), .int a0, .int 0] (fun U => SS qs vs bs (fun _ => False) U U.heap)) (va_Qi (S := Unit) (fun r _ => (-1 ≤ r.toInt ∧ r.toInt ≤ 1000) ∧ (r = ixF a0 bs 0)) (fun _ _ => True) (fun _ => False)) 0 0 (fun _ => False) := by
  refine Met.ofW (cc := cJ0_indexOf_7cf53) (maxL := 3) (ret := (some .int)) (by decide) rfl ?_
  intro p e s m args below meth c s₁ B hml hv
  obtain ⟨hargs, hSS⟩ := hv
  have hSS : SS qs vs bs (fun _ => False) s s.heap := hSS
  have hx := B.exec
  have hb := B.bytes
  have hr := B.returns
  have hts := atoms_spec (ws := v_indexOf2) B.pre
  have hown : s.vm.findClass RJ0 = some m.cls := findClass_of_methodNamed B.named
  have hlocks := B.notSynchronized
  have hS : va_S (fun _ : Nat => False) s.heap s.heap [] := va_S.rf
  have hl := lv_entry ([.ref (qs), .int a0, .int 0]) (n := 3) (Nat.le_of_ble_eq_true rfl)
  obtain ⟨Q, hQ⟩ : ∃ Q, Q = MQ below (va_Qi (S := Unit) (fun r _ => (-1 ≤ r.toInt ∧ r.toInt ≤ 1000) ∧ (r = ixF a0 bs 0)) (fun _ _ => True) (fun _ => False)) args s 0 0 (fun _ => False) := ⟨_, rfl⟩
  rw [← hQ, show entryFrame m args 3 = _ from (congrArg (fun z => entryFrame m z 3) hargs).trans (lg_entry_eq _ _ _)]
  generalize (lg_sl ([.ref (qs), .int a0, .int 0]) ++ List.replicate (3 - (lg_sl ([.ref (qs), .int a0, .int 0])).length) Slot.unset).toArray = ls at hl ⊢
  have hl : lv_has ls 3 [(0, .ref qs), (1, .int a0), (2, .int 0)] := hl
  refine lv_aload_n hx hb dJ0_indexOf_7cf53_0 rfl (lv_at hl 0 rfl) ?_
  refine th_pi (va_runV (As := []) (rest := []) ⟨hx, hb, hml, hown, hts⟩ (q_isLatin1 l qs vs bs) (cwV 0 hts (gi_V (in_0 _ (zs16 (zs0))) (in_0 _ (zs16 (zs1 (zs0)))) (in_0 _ (zs16 (zs1 (zs1 (zs0))))) (in_0 _ (zs4 (zs4 (zs4 (zs1 (zs0)))))) (in_0 _ (zs16 (zs1 (zs1 (zs1 (zs0))))))) rfl rfl rfl ⟨rfl, hz_yJ0_isLatin1_aae02_0⟩ ⟨Nat.le_of_ble_eq_true rfl, Nat.le_of_ble_eq_true rfl⟩) ⟨fun a U g mk q => ⟨q.1, SS_c q.2⟩, va_Orecv hSS.1 hS, fun U hU hW => ⟨rfl, SS_w hU hW hS (fun _ h => h) hSS⟩⟩ rfl rfl hl.1 rfl (lv_room (Nat.le_of_ble_eq_true rfl)) dJ0_indexOf_7cf53_1 ⟨Nat.le_of_ble_eq_true rfl, Nat.le_of_ble_eq_true rfl⟩) hS (fun r1 H1 locs1 hw hk1 hS => ?_)
  generalize H1 = H at hS ⊢
  generalize locs1 = locs at hS ⊢
  obtain rfl := hw
  refine lv_if_eq (tgt := 23) hx hb dJ0_indexOf_7cf53_4 (by decide) (fun c2 => ?_) (fun c2 => ?_)
  · --4 taken
    exact absurd c2 (by decide)
  · --4 not
    refine lv_aload_n hx hb dJ0_indexOf_7cf53_7 rfl (lv_at hl 0 rfl) ?_
    refine vk_getf hx hb hSS.2.2.1 hS hown (hts _ (vA_in _ _ (in_0 _ (zs4 (zs4 (zs4 (zs1 (zs1 (zs1 (zs0)))))))))) (fun _ h9 => h9) dJ0_indexOf_7cf53_8 ?_
    refine lv_iload_n hx hb dJ0_indexOf_7cf53_11 rfl (lv_at hl 1 rfl) ?_
    refine lv_iload_n hx hb dJ0_indexOf_7cf53_12 rfl (lv_at hl 2 rfl) ?_
    refine lv_aload_n hx hb dJ0_indexOf_7cf53_13 rfl (lv_at hl 0 rfl) ?_
    refine th_pi (va_runV (As := []) (rest := [.int 0, .int a0, .ref vs]) ⟨hx, hb, hml, hown, hts⟩ (q_strlen l qs vs bs (by exact hh0)) (cwV 0 hts (gi_V (in_0 _ (zs16 (zs4 (zs0)))) (in_0 _ (zs16 (zs4 (zs1 (zs0))))) (in_0 _ (zs16 (zs4 (zs1 (zs1 (zs0)))))) (in_0 _ (zs4 (zs4 (zs4 (zs1 (zs0)))))) (in_0 _ (zs16 (zs4 (zs1 (zs1 (zs1 (zs0)))))))) rfl rfl rfl ⟨rfl, hz_yJ0_length_8abf5_0⟩ ⟨Nat.le_of_ble_eq_true rfl, Nat.le_of_ble_eq_true rfl⟩) ⟨fun a U g mk q => ⟨q.1, SS_c q.2⟩, va_Orecv hSS.1 hS, fun U hU hW => ⟨rfl, SS_w hU hW hS (fun _ h => h) hSS⟩⟩ rfl rfl hl.1 rfl (lv_room (Nat.le_of_ble_eq_true rfl)) dJ0_indexOf_7cf53_14 ⟨Nat.le_of_ble_eq_true rfl, Nat.le_of_ble_eq_true rfl⟩) hS (fun r3 H1 locs1 hw hk1 hS => ?_)
    generalize H1 = H at hS ⊢
    generalize locs1 = locs at hS ⊢
    obtain ⟨f4, f5⟩ := hw
    have z0 := ln_0
    refine th_pi (va_runS (As := [.ref vs, .int a0, .int 0, .int r3]) (rest := []) ⟨hx, hb, hml, hown, hts⟩ (q_L1indexOf l qs vs bs a0 r3 (by exact hh0) (by exact hh1) (by omega) f4) (va_cwS 4 hts (gi_S (in_0 _ (zs16 (zs4 (zs4 (zs1 (zs1 (zs1 (zs0)))))))) (in_0 _ (zs16 (zs4 (zs4 (zs4 (zs0)))))) (in_0 _ (zs16 (zs4 (zs4 (zs4 (zs1 (zs0))))))) (in_0 _ (zs16 (zs4 (zs4 (zs4 (zs1 (zs1 (zs0))))))))) rfl rfl rfl hz_yJ1_indexOf_4cfef_4 ⟨Nat.le_of_ble_eq_true rfl, Nat.le_of_ble_eq_true rfl⟩) ⟨fun a U g mk q => ⟨q.1, SS_c q.2⟩, fun U hU hW => ⟨rfl, SS_w hU hW hS (fun _ h => h) hSS⟩⟩ rfl rfl hl.1 rfl (lv_room (Nat.le_of_ble_eq_true rfl)) dJ0_indexOf_7cf53_17 ⟨Nat.le_of_ble_eq_true rfl, Nat.le_of_ble_eq_true rfl⟩) hS (fun r6 H1 locs1 hw hk1 hS => ?_)
    generalize H1 = H at hS ⊢
    generalize locs1 = locs at hS ⊢
    obtain ⟨f7, f8⟩ := hw
    refine lv_goto (tgt := 36) hx hb dJ0_indexOf_7cf53_20 (by decide) ?_
    rw [hQ]
    exact W.iret (v := r6) hx hb hr (fun t ht hW => ⟨⟨r6, (), rfl, ⟨f7, f8⟩, trivial⟩, hS.F ht⟩) hS.2.2 dJ0_indexOf_7cf53_36
def v_indexOf : List Cond := .code yJ0_indexOf_0f7a4 cJ0_indexOf_0f7a4 2 (some .int) :: vA
abbrev rm_indexOf : Room := { frames := 3, cells := 0, slots := 0, locals := 120 }
set_option maxHeartbeats 4000000 in
set_option maxRecDepth 100000 in
theorem q_indexOf (l : Launch) (qs vs : Nat) (bs : List Int32) (a0 : Int32) (hh0 : bs.length ≤ 1000) (hh1 : ∀ b ∈ bs, 0 ≤ b.toInt ∧ b.toInt < 128) : Met l yJ0_indexOf_0f7a4 v_indexOf rm_indexOf (va_Pc [.ref (qs), .int a0] (fun U => SS qs vs bs (fun _ => False) U U.heap)) (va_Qi (S := Unit) (fun r _ => (-1 ≤ r.toInt ∧ r.toInt ≤ 1000) ∧ (r = ixF a0 bs 0)) (fun _ _ => True) (fun _ => False)) 0 0 (fun _ => False) := by
  refine Met.ofW (cc := cJ0_indexOf_0f7a4) (maxL := 2) (ret := (some .int)) (by decide) rfl ?_
  intro p e s m args below meth c s₁ B hml hv
  obtain ⟨hargs, hSS⟩ := hv
  have hSS : SS qs vs bs (fun _ => False) s s.heap := hSS
  have hx := B.exec
  have hb := B.bytes
  have hr := B.returns
  have hts := atoms_spec (ws := v_indexOf) B.pre
  have hown : s.vm.findClass RJ0 = some m.cls := findClass_of_methodNamed B.named
  have hlocks := B.notSynchronized
  have hS : va_S (fun _ : Nat => False) s.heap s.heap [] := va_S.rf
  have hl := lv_entry ([.ref (qs), .int a0]) (n := 2) (Nat.le_of_ble_eq_true rfl)
  obtain ⟨Q, hQ⟩ : ∃ Q, Q = MQ below (va_Qi (S := Unit) (fun r _ => (-1 ≤ r.toInt ∧ r.toInt ≤ 1000) ∧ (r = ixF a0 bs 0)) (fun _ _ => True) (fun _ => False)) args s 0 0 (fun _ => False) := ⟨_, rfl⟩
  rw [← hQ, show entryFrame m args 2 = _ from (congrArg (fun z => entryFrame m z 2) hargs).trans (lg_entry_eq _ _ _)]
  generalize (lg_sl ([.ref (qs), .int a0]) ++ List.replicate (2 - (lg_sl ([.ref (qs), .int a0])).length) Slot.unset).toArray = ls at hl ⊢
  have hl : lv_has ls 2 [(0, .ref qs), (1, .int a0)] := hl
  refine lv_aload_n hx hb dJ0_indexOf_0f7a4_0 rfl (lv_at hl 0 rfl) ?_
  refine lv_iload_n hx hb dJ0_indexOf_0f7a4_1 rfl (lv_at hl 1 rfl) ?_
  refine lv_iconst (v := 0) hx hb dJ0_indexOf_0f7a4_2 (by decide) ?_
  have z0 := ln_0
  refine th_pi (va_runV (As := [.int a0, .int 0]) (rest := []) ⟨hx, hb, hml, hown, hts⟩ (q_indexOf2 l qs vs bs a0 (by exact hh0) (by exact hh1)) (cwV 2 hts (gi_V (in_0 _ (zs4 (zs4 (zs1 (zs1 (zs0)))))) (in_0 _ (zs4 (zs4 (zs1 (zs1 (zs1 (zs0))))))) (in_0 _ (zs4 (zs4 (zs4 (zs0))))) (in_0 _ (zs4 (zs4 (zs4 (zs1 (zs0)))))) (in_0 _ (zs4 (zs4 (zs4 (zs1 (zs1 (zs0)))))))) rfl rfl rfl ⟨rfl, hz_yJ0_indexOf_7cf53_2⟩ ⟨Nat.le_of_ble_eq_true rfl, Nat.le_of_ble_eq_true rfl⟩) ⟨fun a U g mk q => ⟨q.1, SS_c q.2⟩, va_Orecv hSS.1 hS, fun U hU hW => ⟨rfl, SS_w hU hW hS (fun _ h => h) hSS⟩⟩ rfl rfl hl.1 rfl (lv_room (Nat.le_of_ble_eq_true rfl)) dJ0_indexOf_0f7a4_3 ⟨Nat.le_of_ble_eq_true rfl, Nat.le_of_ble_eq_true rfl⟩) hS (fun r1 H1 locs1 hw hk1 hS => ?_)
  generalize H1 = H at hS ⊢
  generalize locs1 = locs at hS ⊢
  obtain ⟨f2, f3⟩ := hw
  rw [hQ]
  exact W.iret (v := r1) hx hb hr (fun t ht hW => ⟨⟨r1, (), rfl, ⟨f2, f3⟩, trivial⟩, hS.F ht⟩) hS.2.2 dJ0_indexOf_0f7a4_6
