set_option maxRecDepth 100000 in
theorem zh_dX8_tally_0_0 : zc cX8_tally 0 [42, 42, 180, 0, 34, 27, 182, 0, 70, 181, 0, 73, 3, 61, 28, 16] = true := by decide +kernel
set_option maxRecDepth 100000 in
theorem zh_dX8_tally_15_16 : zc cX8_tally 16 [16, 162, 0, 16, 42, 180, 0, 22, 28, 3, 84, 132, 2, 1, 167, 255] = true := by decide +kernel
set_option maxRecDepth 100000 in
theorem zh_dX8_tally_30_32 : zc cX8_tally 32 [240, 3, 61, 28, 42, 180, 0, 73, 162, 0, 75, 42, 180, 0, 38, 28] = true := by decide +kernel
set_option maxRecDepth 100000 in
theorem zh_dX8_tally_48_48 : zc cX8_tally 48 [27, 182, 0, 60, 3, 62, 29, 42, 180, 0, 34, 180, 0, 84, 162, 0] = true := by decide +kernel
set_option maxRecDepth 100000 in
theorem zh_dX8_tally_62_64 : zc cX8_tally 64 [47, 42, 180, 0, 38, 180, 0, 87, 29, 46, 2, 159, 0, 10, 42, 180] = true := by decide +kernel
set_option maxRecDepth 100000 in
theorem zh_dX8_tally_79_80 : zc cX8_tally 80 [0, 22, 29, 4, 84, 42, 180, 0, 9, 28, 29, 184, 0, 76, 42, 180] = true := by decide +kernel
set_option maxRecDepth 100000 in
theorem zh_dX8_tally_95_96 : zc cX8_tally 96 [0, 38, 29, 182, 0, 66, 79, 132, 3, 1, 167, 255, 204, 132, 2, 1] = true := by decide +kernel
set_option maxRecDepth 100000 in
theorem zh_dX8_tally_112_112 : zc cX8_tally 112 [167, 255, 179, 42, 27, 182, 0, 90, 61, 3, 62, 29, 42, 180, 0, 34] = true := by decide +kernel
set_option maxRecDepth 100000 in
theorem zh_dX8_tally_128_128 : zc cX8_tally 128 [180, 0, 84, 162, 0, 93, 3, 54, 4, 21, 4, 42, 180, 0, 73, 162] = true := by decide +kernel
set_option maxRecDepth 100000 in
theorem zh_dX8_tally_143_144 : zc cX8_tally 144 [0, 69, 42, 180, 0, 34, 180, 0, 42, 21, 4, 182, 0, 48, 192, 0] = true := by decide +kernel
set_option maxRecDepth 100000 in
theorem zh_dX8_tally_158_160 : zc cX8_tally 160 [54, 29, 27, 182, 0, 56, 54, 5, 42, 180, 0, 15, 21, 4, 29, 184] = true := by decide +kernel
set_option maxRecDepth 100000 in
theorem zh_dX8_tally_175_176 : zc cX8_tally 176 [0, 76, 21, 5, 153, 0, 14, 42, 21, 4, 29, 27, 182, 0, 80, 167] = true := by decide +kernel
set_option maxRecDepth 100000 in
theorem zh_dX8_tally_191_192 : zc cX8_tally 192 [0, 14, 42, 180, 0, 9, 21, 4, 29, 184, 0, 76, 46, 79, 132, 4] = true := by decide +kernel
set_option maxRecDepth 100000 in
theorem zh_dX8_tally_206_208 : zc cX8_tally 208 [1, 167, 255, 184, 42, 29, 28, 182, 0, 93, 132, 3, 1, 167, 255, 158] = true := by decide +kernel
set_option maxRecDepth 100000 in
theorem zh_dX8_tally_224_224 : zc cX8_tally 224 [177] = true := by decide +kernel
set_option maxRecDepth 100000 in
theorem zh_dX12_thrown_0_0 : zc cX12_thrown 0 [42, 180, 0, 10, 27, 29, 182, 0, 162, 153, 0, 14, 42, 180, 0, 10] = true := by decide +kernel
set_option maxRecDepth 100000 in
theorem zh_dX12_thrown_16_16 : zc cX12_thrown 16 [28, 182, 0, 66, 154, 0, 5, 2, 172, 42, 180, 0, 37, 29, 182, 0] = true := by decide +kernel
set_option maxRecDepth 100000 in
theorem zh_dX12_thrown_30_32 : zc cX12_thrown 32 [189, 42, 180, 0, 37, 180, 0, 192, 28, 51, 154, 0, 5, 2, 172, 42] = true := by decide +kernel
set_option maxRecDepth 100000 in
theorem zh_dX12_thrown_48_48 : zc cX12_thrown 48 [180, 0, 37, 180, 0, 196, 27, 28, 184, 0, 199, 51, 153, 0, 7, 4] = true := by decide +kernel
set_option maxRecDepth 100000 in
theorem zh_dX12_thrown_64_64 : zc cX12_thrown 64 [167, 0, 4, 3, 172] = true := by decide +kernel
set_option maxRecDepth 100000 in
theorem zh_dX12_total_0_0 : zc cX12_total 0 [42, 180, 0, 10, 27, 182, 0, 66, 153, 0, 14, 42, 180, 0, 10, 28] = true := by decide +kernel
set_option maxRecDepth 100000 in
theorem zh_dX12_total_16_16 : zc cX12_total 16 [182, 0, 92, 154, 0, 5, 2, 172, 42, 180, 0, 37, 28, 182, 0, 189] = true := by decide +kernel
set_option maxRecDepth 100000 in
theorem zh_dX12_total_32_32 : zc cX12_total 32 [42, 180, 0, 37, 180, 0, 192, 27, 51, 153, 0, 15, 42, 180, 0, 37] = true := by decide +kernel
set_option maxRecDepth 100000 in
theorem zh_dX12_total_48_48 : zc cX12_total 48 [180, 0, 202, 27, 46, 167, 0, 4, 2, 172] = true := by decide +kernel
set_option maxRecDepth 100000 in
theorem zh_dX12_ranked_0_0 : zc cX12_ranked 0 [27, 3, 16, 15, 184, 0, 59, 153, 0, 14, 42, 180, 0, 10, 28, 182] = true := by decide +kernel
set_option maxRecDepth 100000 in
theorem zh_dX12_ranked_15_16 : zc cX12_ranked 16 [0, 92, 154, 0, 5, 2, 172, 42, 180, 0, 37, 28, 182, 0, 189, 42] = true := by decide +kernel
set_option maxRecDepth 100000 in
theorem zh_dX12_ranked_32_32 : zc cX12_ranked 32 [180, 0, 37, 27, 182, 0, 205, 172] = true := by decide +kernel
theorem dX8_tally_0 : decode cX8_tally 0 = .ok (.aload_n 0, 1) := zo_42 (zi_at zh_dX8_tally_0_0 0 rfl)
theorem dX8_tally_1 : decode cX8_tally 1 = .ok (.aload_n 0, 1) := zo_42 (zi_at zh_dX8_tally_0_0 1 rfl)
theorem dX8_tally_2 : decode cX8_tally 2 = .ok (.getfield 34, 3) := zo_180 (zi_at zh_dX8_tally_0_0 2 rfl) (zi_at zh_dX8_tally_0_0 3 rfl) (zi_at zh_dX8_tally_0_0 4 rfl) rfl
theorem dX8_tally_5 : decode cX8_tally 5 = .ok (.iload_n 1, 1) := zo_27 (zi_at zh_dX8_tally_0_0 5 rfl)
theorem dX8_tally_6 : decode cX8_tally 6 = .ok (.invokevirtual 70, 3) := zo_182 (zi_at zh_dX8_tally_0_0 6 rfl) (zi_at zh_dX8_tally_0_0 7 rfl) (zi_at zh_dX8_tally_0_0 8 rfl) rfl
theorem dX8_tally_9 : decode cX8_tally 9 = .ok (.putfield 73, 3) := zo_181 (zi_at zh_dX8_tally_0_0 9 rfl) (zi_at zh_dX8_tally_0_0 10 rfl) (zi_at zh_dX8_tally_0_0 11 rfl) rfl
theorem dX8_tally_12 : decode cX8_tally 12 = .ok (.iconst 0, 1) := zo_3 (zi_at zh_dX8_tally_0_0 12 rfl)
theorem dX8_tally_13 : decode cX8_tally 13 = .ok (.istore_n 2, 1) := zo_61 (zi_at zh_dX8_tally_0_0 13 rfl)
theorem dX8_tally_14 : decode cX8_tally 14 = .ok (.iload_n 2, 1) := zo_28 (zi_at zh_dX8_tally_0_0 14 rfl)
theorem dX8_tally_15 : decode cX8_tally 15 = .ok (.bipush 16, 2) := zo_16 (zi_at zh_dX8_tally_0_0 15 rfl) (zi_at zh_dX8_tally_15_16 0 rfl) rfl
theorem dX8_tally_17 : decode cX8_tally 17 = .ok (.if_icmp .ge 16, 3) := zo_162 (zi_at zh_dX8_tally_15_16 1 rfl) (zi_at zh_dX8_tally_15_16 2 rfl) (zi_at zh_dX8_tally_15_16 3 rfl) rfl
theorem dX8_tally_20 : decode cX8_tally 20 = .ok (.aload_n 0, 1) := zo_42 (zi_at zh_dX8_tally_15_16 4 rfl)
theorem dX8_tally_21 : decode cX8_tally 21 = .ok (.getfield 22, 3) := zo_180 (zi_at zh_dX8_tally_15_16 5 rfl) (zi_at zh_dX8_tally_15_16 6 rfl) (zi_at zh_dX8_tally_15_16 7 rfl) rfl
theorem dX8_tally_24 : decode cX8_tally 24 = .ok (.iload_n 2, 1) := zo_28 (zi_at zh_dX8_tally_15_16 8 rfl)
theorem dX8_tally_25 : decode cX8_tally 25 = .ok (.iconst 0, 1) := zo_3 (zi_at zh_dX8_tally_15_16 9 rfl)
theorem dX8_tally_26 : decode cX8_tally 26 = .ok (.bastore, 1) := zo_84 (zi_at zh_dX8_tally_15_16 10 rfl)
theorem dX8_tally_27 : decode cX8_tally 27 = .ok (.iinc 2 1, 3) := zo_132 (zi_at zh_dX8_tally_15_16 11 rfl) (zi_at zh_dX8_tally_15_16 12 rfl) (zi_at zh_dX8_tally_15_16 13 rfl) rfl
theorem dX8_tally_30 : decode cX8_tally 30 = .ok (.goto (-16), 3) := zo_167 (zi_at zh_dX8_tally_15_16 14 rfl) (zi_at zh_dX8_tally_15_16 15 rfl) (zi_at zh_dX8_tally_30_32 0 rfl) rfl
theorem dX8_tally_33 : decode cX8_tally 33 = .ok (.iconst 0, 1) := zo_3 (zi_at zh_dX8_tally_30_32 1 rfl)
theorem dX8_tally_34 : decode cX8_tally 34 = .ok (.istore_n 2, 1) := zo_61 (zi_at zh_dX8_tally_30_32 2 rfl)
theorem dX8_tally_35 : decode cX8_tally 35 = .ok (.iload_n 2, 1) := zo_28 (zi_at zh_dX8_tally_30_32 3 rfl)
theorem dX8_tally_36 : decode cX8_tally 36 = .ok (.aload_n 0, 1) := zo_42 (zi_at zh_dX8_tally_30_32 4 rfl)
theorem dX8_tally_37 : decode cX8_tally 37 = .ok (.getfield 73, 3) := zo_180 (zi_at zh_dX8_tally_30_32 5 rfl) (zi_at zh_dX8_tally_30_32 6 rfl) (zi_at zh_dX8_tally_30_32 7 rfl) rfl
theorem dX8_tally_40 : decode cX8_tally 40 = .ok (.if_icmp .ge 75, 3) := zo_162 (zi_at zh_dX8_tally_30_32 8 rfl) (zi_at zh_dX8_tally_30_32 9 rfl) (zi_at zh_dX8_tally_30_32 10 rfl) rfl
theorem dX8_tally_43 : decode cX8_tally 43 = .ok (.aload_n 0, 1) := zo_42 (zi_at zh_dX8_tally_30_32 11 rfl)
theorem dX8_tally_44 : decode cX8_tally 44 = .ok (.getfield 38, 3) := zo_180 (zi_at zh_dX8_tally_30_32 12 rfl) (zi_at zh_dX8_tally_30_32 13 rfl) (zi_at zh_dX8_tally_30_32 14 rfl) rfl
theorem dX8_tally_47 : decode cX8_tally 47 = .ok (.iload_n 2, 1) := zo_28 (zi_at zh_dX8_tally_30_32 15 rfl)
theorem dX8_tally_48 : decode cX8_tally 48 = .ok (.iload_n 1, 1) := zo_27 (zi_at zh_dX8_tally_48_48 0 rfl)
theorem dX8_tally_49 : decode cX8_tally 49 = .ok (.invokevirtual 60, 3) := zo_182 (zi_at zh_dX8_tally_48_48 1 rfl) (zi_at zh_dX8_tally_48_48 2 rfl) (zi_at zh_dX8_tally_48_48 3 rfl) rfl
theorem dX8_tally_52 : decode cX8_tally 52 = .ok (.iconst 0, 1) := zo_3 (zi_at zh_dX8_tally_48_48 4 rfl)
theorem dX8_tally_53 : decode cX8_tally 53 = .ok (.istore_n 3, 1) := zo_62 (zi_at zh_dX8_tally_48_48 5 rfl)
theorem dX8_tally_54 : decode cX8_tally 54 = .ok (.iload_n 3, 1) := zo_29 (zi_at zh_dX8_tally_48_48 6 rfl)
theorem dX8_tally_55 : decode cX8_tally 55 = .ok (.aload_n 0, 1) := zo_42 (zi_at zh_dX8_tally_48_48 7 rfl)
theorem dX8_tally_56 : decode cX8_tally 56 = .ok (.getfield 34, 3) := zo_180 (zi_at zh_dX8_tally_48_48 8 rfl) (zi_at zh_dX8_tally_48_48 9 rfl) (zi_at zh_dX8_tally_48_48 10 rfl) rfl
theorem dX8_tally_59 : decode cX8_tally 59 = .ok (.getfield 84, 3) := zo_180 (zi_at zh_dX8_tally_48_48 11 rfl) (zi_at zh_dX8_tally_48_48 12 rfl) (zi_at zh_dX8_tally_48_48 13 rfl) rfl
theorem dX8_tally_62 : decode cX8_tally 62 = .ok (.if_icmp .ge 47, 3) := zo_162 (zi_at zh_dX8_tally_48_48 14 rfl) (zi_at zh_dX8_tally_48_48 15 rfl) (zi_at zh_dX8_tally_62_64 0 rfl) rfl
theorem dX8_tally_65 : decode cX8_tally 65 = .ok (.aload_n 0, 1) := zo_42 (zi_at zh_dX8_tally_62_64 1 rfl)
theorem dX8_tally_66 : decode cX8_tally 66 = .ok (.getfield 38, 3) := zo_180 (zi_at zh_dX8_tally_62_64 2 rfl) (zi_at zh_dX8_tally_62_64 3 rfl) (zi_at zh_dX8_tally_62_64 4 rfl) rfl
theorem dX8_tally_69 : decode cX8_tally 69 = .ok (.getfield 87, 3) := zo_180 (zi_at zh_dX8_tally_62_64 5 rfl) (zi_at zh_dX8_tally_62_64 6 rfl) (zi_at zh_dX8_tally_62_64 7 rfl) rfl
theorem dX8_tally_72 : decode cX8_tally 72 = .ok (.iload_n 3, 1) := zo_29 (zi_at zh_dX8_tally_62_64 8 rfl)
theorem dX8_tally_73 : decode cX8_tally 73 = .ok (.iaload, 1) := zo_46 (zi_at zh_dX8_tally_62_64 9 rfl)
theorem dX8_tally_74 : decode cX8_tally 74 = .ok (.iconst (-1), 1) := zo_2 (zi_at zh_dX8_tally_62_64 10 rfl)
theorem dX8_tally_75 : decode cX8_tally 75 = .ok (.if_icmp .eq 10, 3) := zo_159 (zi_at zh_dX8_tally_62_64 11 rfl) (zi_at zh_dX8_tally_62_64 12 rfl) (zi_at zh_dX8_tally_62_64 13 rfl) rfl
theorem dX8_tally_78 : decode cX8_tally 78 = .ok (.aload_n 0, 1) := zo_42 (zi_at zh_dX8_tally_62_64 14 rfl)
theorem dX8_tally_79 : decode cX8_tally 79 = .ok (.getfield 22, 3) := zo_180 (zi_at zh_dX8_tally_62_64 15 rfl) (zi_at zh_dX8_tally_79_80 0 rfl) (zi_at zh_dX8_tally_79_80 1 rfl) rfl
theorem dX8_tally_82 : decode cX8_tally 82 = .ok (.iload_n 3, 1) := zo_29 (zi_at zh_dX8_tally_79_80 2 rfl)
theorem dX8_tally_83 : decode cX8_tally 83 = .ok (.iconst 1, 1) := zo_4 (zi_at zh_dX8_tally_79_80 3 rfl)
theorem dX8_tally_84 : decode cX8_tally 84 = .ok (.bastore, 1) := zo_84 (zi_at zh_dX8_tally_79_80 4 rfl)
theorem dX8_tally_85 : decode cX8_tally 85 = .ok (.aload_n 0, 1) := zo_42 (zi_at zh_dX8_tally_79_80 5 rfl)
theorem dX8_tally_86 : decode cX8_tally 86 = .ok (.getfield 9, 3) := zo_180 (zi_at zh_dX8_tally_79_80 6 rfl) (zi_at zh_dX8_tally_79_80 7 rfl) (zi_at zh_dX8_tally_79_80 8 rfl) rfl
theorem dX8_tally_89 : decode cX8_tally 89 = .ok (.iload_n 2, 1) := zo_28 (zi_at zh_dX8_tally_79_80 9 rfl)
theorem dX8_tally_90 : decode cX8_tally 90 = .ok (.iload_n 3, 1) := zo_29 (zi_at zh_dX8_tally_79_80 10 rfl)
theorem dX8_tally_91 : decode cX8_tally 91 = .ok (.invokestatic 76, 3) := zo_184 (zi_at zh_dX8_tally_79_80 11 rfl) (zi_at zh_dX8_tally_79_80 12 rfl) (zi_at zh_dX8_tally_79_80 13 rfl) rfl
theorem dX8_tally_94 : decode cX8_tally 94 = .ok (.aload_n 0, 1) := zo_42 (zi_at zh_dX8_tally_79_80 14 rfl)
theorem dX8_tally_95 : decode cX8_tally 95 = .ok (.getfield 38, 3) := zo_180 (zi_at zh_dX8_tally_79_80 15 rfl) (zi_at zh_dX8_tally_95_96 0 rfl) (zi_at zh_dX8_tally_95_96 1 rfl) rfl
theorem dX8_tally_98 : decode cX8_tally 98 = .ok (.iload_n 3, 1) := zo_29 (zi_at zh_dX8_tally_95_96 2 rfl)
theorem dX8_tally_99 : decode cX8_tally 99 = .ok (.invokevirtual 66, 3) := zo_182 (zi_at zh_dX8_tally_95_96 3 rfl) (zi_at zh_dX8_tally_95_96 4 rfl) (zi_at zh_dX8_tally_95_96 5 rfl) rfl
theorem dX8_tally_102 : decode cX8_tally 102 = .ok (.iastore, 1) := zo_79 (zi_at zh_dX8_tally_95_96 6 rfl)
theorem dX8_tally_103 : decode cX8_tally 103 = .ok (.iinc 3 1, 3) := zo_132 (zi_at zh_dX8_tally_95_96 7 rfl) (zi_at zh_dX8_tally_95_96 8 rfl) (zi_at zh_dX8_tally_95_96 9 rfl) rfl
theorem dX8_tally_106 : decode cX8_tally 106 = .ok (.goto (-52), 3) := zo_167 (zi_at zh_dX8_tally_95_96 10 rfl) (zi_at zh_dX8_tally_95_96 11 rfl) (zi_at zh_dX8_tally_95_96 12 rfl) rfl
theorem dX8_tally_109 : decode cX8_tally 109 = .ok (.iinc 2 1, 3) := zo_132 (zi_at zh_dX8_tally_95_96 13 rfl) (zi_at zh_dX8_tally_95_96 14 rfl) (zi_at zh_dX8_tally_95_96 15 rfl) rfl
theorem dX8_tally_112 : decode cX8_tally 112 = .ok (.goto (-77), 3) := zo_167 (zi_at zh_dX8_tally_112_112 0 rfl) (zi_at zh_dX8_tally_112_112 1 rfl) (zi_at zh_dX8_tally_112_112 2 rfl) rfl
theorem dX8_tally_115 : decode cX8_tally 115 = .ok (.aload_n 0, 1) := zo_42 (zi_at zh_dX8_tally_112_112 3 rfl)
theorem dX8_tally_116 : decode cX8_tally 116 = .ok (.iload_n 1, 1) := zo_27 (zi_at zh_dX8_tally_112_112 4 rfl)
theorem dX8_tally_117 : decode cX8_tally 117 = .ok (.invokevirtual 90, 3) := zo_182 (zi_at zh_dX8_tally_112_112 5 rfl) (zi_at zh_dX8_tally_112_112 6 rfl) (zi_at zh_dX8_tally_112_112 7 rfl) rfl
theorem dX8_tally_120 : decode cX8_tally 120 = .ok (.istore_n 2, 1) := zo_61 (zi_at zh_dX8_tally_112_112 8 rfl)
theorem dX8_tally_121 : decode cX8_tally 121 = .ok (.iconst 0, 1) := zo_3 (zi_at zh_dX8_tally_112_112 9 rfl)
theorem dX8_tally_122 : decode cX8_tally 122 = .ok (.istore_n 3, 1) := zo_62 (zi_at zh_dX8_tally_112_112 10 rfl)
theorem dX8_tally_123 : decode cX8_tally 123 = .ok (.iload_n 3, 1) := zo_29 (zi_at zh_dX8_tally_112_112 11 rfl)
theorem dX8_tally_124 : decode cX8_tally 124 = .ok (.aload_n 0, 1) := zo_42 (zi_at zh_dX8_tally_112_112 12 rfl)
theorem dX8_tally_125 : decode cX8_tally 125 = .ok (.getfield 34, 3) := zo_180 (zi_at zh_dX8_tally_112_112 13 rfl) (zi_at zh_dX8_tally_112_112 14 rfl) (zi_at zh_dX8_tally_112_112 15 rfl) rfl
theorem dX8_tally_128 : decode cX8_tally 128 = .ok (.getfield 84, 3) := zo_180 (zi_at zh_dX8_tally_128_128 0 rfl) (zi_at zh_dX8_tally_128_128 1 rfl) (zi_at zh_dX8_tally_128_128 2 rfl) rfl
theorem dX8_tally_131 : decode cX8_tally 131 = .ok (.if_icmp .ge 93, 3) := zo_162 (zi_at zh_dX8_tally_128_128 3 rfl) (zi_at zh_dX8_tally_128_128 4 rfl) (zi_at zh_dX8_tally_128_128 5 rfl) rfl
theorem dX8_tally_134 : decode cX8_tally 134 = .ok (.iconst 0, 1) := zo_3 (zi_at zh_dX8_tally_128_128 6 rfl)
theorem dX8_tally_135 : decode cX8_tally 135 = .ok (.istore 4, 2) := zo_54 (zi_at zh_dX8_tally_128_128 7 rfl) (zi_at zh_dX8_tally_128_128 8 rfl)
theorem dX8_tally_137 : decode cX8_tally 137 = .ok (.iload 4, 2) := zo_21 (zi_at zh_dX8_tally_128_128 9 rfl) (zi_at zh_dX8_tally_128_128 10 rfl)
theorem dX8_tally_139 : decode cX8_tally 139 = .ok (.aload_n 0, 1) := zo_42 (zi_at zh_dX8_tally_128_128 11 rfl)
theorem dX8_tally_140 : decode cX8_tally 140 = .ok (.getfield 73, 3) := zo_180 (zi_at zh_dX8_tally_128_128 12 rfl) (zi_at zh_dX8_tally_128_128 13 rfl) (zi_at zh_dX8_tally_128_128 14 rfl) rfl
theorem dX8_tally_143 : decode cX8_tally 143 = .ok (.if_icmp .ge 69, 3) := zo_162 (zi_at zh_dX8_tally_128_128 15 rfl) (zi_at zh_dX8_tally_143_144 0 rfl) (zi_at zh_dX8_tally_143_144 1 rfl) rfl
theorem dX8_tally_146 : decode cX8_tally 146 = .ok (.aload_n 0, 1) := zo_42 (zi_at zh_dX8_tally_143_144 2 rfl)
theorem dX8_tally_147 : decode cX8_tally 147 = .ok (.getfield 34, 3) := zo_180 (zi_at zh_dX8_tally_143_144 3 rfl) (zi_at zh_dX8_tally_143_144 4 rfl) (zi_at zh_dX8_tally_143_144 5 rfl) rfl
theorem dX8_tally_150 : decode cX8_tally 150 = .ok (.getfield 42, 3) := zo_180 (zi_at zh_dX8_tally_143_144 6 rfl) (zi_at zh_dX8_tally_143_144 7 rfl) (zi_at zh_dX8_tally_143_144 8 rfl) rfl
theorem dX8_tally_153 : decode cX8_tally 153 = .ok (.iload 4, 2) := zo_21 (zi_at zh_dX8_tally_143_144 9 rfl) (zi_at zh_dX8_tally_143_144 10 rfl)
theorem dX8_tally_155 : decode cX8_tally 155 = .ok (.invokevirtual 48, 3) := zo_182 (zi_at zh_dX8_tally_143_144 11 rfl) (zi_at zh_dX8_tally_143_144 12 rfl) (zi_at zh_dX8_tally_143_144 13 rfl) rfl
theorem dX8_tally_158 : decode cX8_tally 158 = .ok (.checkcast 54, 3) := zo_192 (zi_at zh_dX8_tally_143_144 14 rfl) (zi_at zh_dX8_tally_143_144 15 rfl) (zi_at zh_dX8_tally_158_160 0 rfl) rfl
theorem dX8_tally_161 : decode cX8_tally 161 = .ok (.iload_n 3, 1) := zo_29 (zi_at zh_dX8_tally_158_160 1 rfl)
theorem dX8_tally_162 : decode cX8_tally 162 = .ok (.iload_n 1, 1) := zo_27 (zi_at zh_dX8_tally_158_160 2 rfl)
theorem dX8_tally_163 : decode cX8_tally 163 = .ok (.invokevirtual 56, 3) := zo_182 (zi_at zh_dX8_tally_158_160 3 rfl) (zi_at zh_dX8_tally_158_160 4 rfl) (zi_at zh_dX8_tally_158_160 5 rfl) rfl
theorem dX8_tally_166 : decode cX8_tally 166 = .ok (.istore 5, 2) := zo_54 (zi_at zh_dX8_tally_158_160 6 rfl) (zi_at zh_dX8_tally_158_160 7 rfl)
theorem dX8_tally_168 : decode cX8_tally 168 = .ok (.aload_n 0, 1) := zo_42 (zi_at zh_dX8_tally_158_160 8 rfl)
theorem dX8_tally_169 : decode cX8_tally 169 = .ok (.getfield 15, 3) := zo_180 (zi_at zh_dX8_tally_158_160 9 rfl) (zi_at zh_dX8_tally_158_160 10 rfl) (zi_at zh_dX8_tally_158_160 11 rfl) rfl
theorem dX8_tally_172 : decode cX8_tally 172 = .ok (.iload 4, 2) := zo_21 (zi_at zh_dX8_tally_158_160 12 rfl) (zi_at zh_dX8_tally_158_160 13 rfl)
theorem dX8_tally_174 : decode cX8_tally 174 = .ok (.iload_n 3, 1) := zo_29 (zi_at zh_dX8_tally_158_160 14 rfl)
theorem dX8_tally_175 : decode cX8_tally 175 = .ok (.invokestatic 76, 3) := zo_184 (zi_at zh_dX8_tally_158_160 15 rfl) (zi_at zh_dX8_tally_175_176 0 rfl) (zi_at zh_dX8_tally_175_176 1 rfl) rfl
theorem dX8_tally_178 : decode cX8_tally 178 = .ok (.iload 5, 2) := zo_21 (zi_at zh_dX8_tally_175_176 2 rfl) (zi_at zh_dX8_tally_175_176 3 rfl)
theorem dX8_tally_180 : decode cX8_tally 180 = .ok (.ifCond .eq 14, 3) := zo_153 (zi_at zh_dX8_tally_175_176 4 rfl) (zi_at zh_dX8_tally_175_176 5 rfl) (zi_at zh_dX8_tally_175_176 6 rfl) rfl
theorem dX8_tally_183 : decode cX8_tally 183 = .ok (.aload_n 0, 1) := zo_42 (zi_at zh_dX8_tally_175_176 7 rfl)
theorem dX8_tally_184 : decode cX8_tally 184 = .ok (.iload 4, 2) := zo_21 (zi_at zh_dX8_tally_175_176 8 rfl) (zi_at zh_dX8_tally_175_176 9 rfl)
theorem dX8_tally_186 : decode cX8_tally 186 = .ok (.iload_n 3, 1) := zo_29 (zi_at zh_dX8_tally_175_176 10 rfl)
theorem dX8_tally_187 : decode cX8_tally 187 = .ok (.iload_n 1, 1) := zo_27 (zi_at zh_dX8_tally_175_176 11 rfl)
theorem dX8_tally_188 : decode cX8_tally 188 = .ok (.invokevirtual 80, 3) := zo_182 (zi_at zh_dX8_tally_175_176 12 rfl) (zi_at zh_dX8_tally_175_176 13 rfl) (zi_at zh_dX8_tally_175_176 14 rfl) rfl
theorem dX8_tally_191 : decode cX8_tally 191 = .ok (.goto 14, 3) := zo_167 (zi_at zh_dX8_tally_175_176 15 rfl) (zi_at zh_dX8_tally_191_192 0 rfl) (zi_at zh_dX8_tally_191_192 1 rfl) rfl
theorem dX8_tally_194 : decode cX8_tally 194 = .ok (.aload_n 0, 1) := zo_42 (zi_at zh_dX8_tally_191_192 2 rfl)
theorem dX8_tally_195 : decode cX8_tally 195 = .ok (.getfield 9, 3) := zo_180 (zi_at zh_dX8_tally_191_192 3 rfl) (zi_at zh_dX8_tally_191_192 4 rfl) (zi_at zh_dX8_tally_191_192 5 rfl) rfl
theorem dX8_tally_198 : decode cX8_tally 198 = .ok (.iload 4, 2) := zo_21 (zi_at zh_dX8_tally_191_192 6 rfl) (zi_at zh_dX8_tally_191_192 7 rfl)
theorem dX8_tally_200 : decode cX8_tally 200 = .ok (.iload_n 3, 1) := zo_29 (zi_at zh_dX8_tally_191_192 8 rfl)
theorem dX8_tally_201 : decode cX8_tally 201 = .ok (.invokestatic 76, 3) := zo_184 (zi_at zh_dX8_tally_191_192 9 rfl) (zi_at zh_dX8_tally_191_192 10 rfl) (zi_at zh_dX8_tally_191_192 11 rfl) rfl
theorem dX8_tally_204 : decode cX8_tally 204 = .ok (.iaload, 1) := zo_46 (zi_at zh_dX8_tally_191_192 12 rfl)
theorem dX8_tally_205 : decode cX8_tally 205 = .ok (.iastore, 1) := zo_79 (zi_at zh_dX8_tally_191_192 13 rfl)
theorem dX8_tally_206 : decode cX8_tally 206 = .ok (.iinc 4 1, 3) := zo_132 (zi_at zh_dX8_tally_191_192 14 rfl) (zi_at zh_dX8_tally_191_192 15 rfl) (zi_at zh_dX8_tally_206_208 0 rfl) rfl
theorem dX8_tally_209 : decode cX8_tally 209 = .ok (.goto (-72), 3) := zo_167 (zi_at zh_dX8_tally_206_208 1 rfl) (zi_at zh_dX8_tally_206_208 2 rfl) (zi_at zh_dX8_tally_206_208 3 rfl) rfl
theorem dX8_tally_212 : decode cX8_tally 212 = .ok (.aload_n 0, 1) := zo_42 (zi_at zh_dX8_tally_206_208 4 rfl)
theorem dX8_tally_213 : decode cX8_tally 213 = .ok (.iload_n 3, 1) := zo_29 (zi_at zh_dX8_tally_206_208 5 rfl)
theorem dX8_tally_214 : decode cX8_tally 214 = .ok (.iload_n 2, 1) := zo_28 (zi_at zh_dX8_tally_206_208 6 rfl)
theorem dX8_tally_215 : decode cX8_tally 215 = .ok (.invokevirtual 93, 3) := zo_182 (zi_at zh_dX8_tally_206_208 7 rfl) (zi_at zh_dX8_tally_206_208 8 rfl) (zi_at zh_dX8_tally_206_208 9 rfl) rfl
theorem dX8_tally_218 : decode cX8_tally 218 = .ok (.iinc 3 1, 3) := zo_132 (zi_at zh_dX8_tally_206_208 10 rfl) (zi_at zh_dX8_tally_206_208 11 rfl) (zi_at zh_dX8_tally_206_208 12 rfl) rfl
theorem dX8_tally_221 : decode cX8_tally 221 = .ok (.goto (-98), 3) := zo_167 (zi_at zh_dX8_tally_206_208 13 rfl) (zi_at zh_dX8_tally_206_208 14 rfl) (zi_at zh_dX8_tally_206_208 15 rfl) rfl
theorem dX8_tally_224 : decode cX8_tally 224 = .ok (.return_, 1) := zo_177 (zi_at zh_dX8_tally_224_224 0 rfl)
theorem dX12_thrown_0 : decode cX12_thrown 0 = .ok (.aload_n 0, 1) := zo_42 (zi_at zh_dX12_thrown_0_0 0 rfl)
theorem dX12_thrown_1 : decode cX12_thrown 1 = .ok (.getfield 10, 3) := zo_180 (zi_at zh_dX12_thrown_0_0 1 rfl) (zi_at zh_dX12_thrown_0_0 2 rfl) (zi_at zh_dX12_thrown_0_0 3 rfl) rfl
theorem dX12_thrown_4 : decode cX12_thrown 4 = .ok (.iload_n 1, 1) := zo_27 (zi_at zh_dX12_thrown_0_0 4 rfl)
theorem dX12_thrown_5 : decode cX12_thrown 5 = .ok (.iload_n 3, 1) := zo_29 (zi_at zh_dX12_thrown_0_0 5 rfl)
theorem dX12_thrown_6 : decode cX12_thrown 6 = .ok (.invokevirtual 162, 3) := zo_182 (zi_at zh_dX12_thrown_0_0 6 rfl) (zi_at zh_dX12_thrown_0_0 7 rfl) (zi_at zh_dX12_thrown_0_0 8 rfl) rfl
theorem dX12_thrown_9 : decode cX12_thrown 9 = .ok (.ifCond .eq 14, 3) := zo_153 (zi_at zh_dX12_thrown_0_0 9 rfl) (zi_at zh_dX12_thrown_0_0 10 rfl) (zi_at zh_dX12_thrown_0_0 11 rfl) rfl
theorem dX12_thrown_12 : decode cX12_thrown 12 = .ok (.aload_n 0, 1) := zo_42 (zi_at zh_dX12_thrown_0_0 12 rfl)
theorem dX12_thrown_13 : decode cX12_thrown 13 = .ok (.getfield 10, 3) := zo_180 (zi_at zh_dX12_thrown_0_0 13 rfl) (zi_at zh_dX12_thrown_0_0 14 rfl) (zi_at zh_dX12_thrown_0_0 15 rfl) rfl
theorem dX12_thrown_16 : decode cX12_thrown 16 = .ok (.iload_n 2, 1) := zo_28 (zi_at zh_dX12_thrown_16_16 0 rfl)
theorem dX12_thrown_17 : decode cX12_thrown 17 = .ok (.invokevirtual 66, 3) := zo_182 (zi_at zh_dX12_thrown_16_16 1 rfl) (zi_at zh_dX12_thrown_16_16 2 rfl) (zi_at zh_dX12_thrown_16_16 3 rfl) rfl
theorem dX12_thrown_20 : decode cX12_thrown 20 = .ok (.ifCond .ne 5, 3) := zo_154 (zi_at zh_dX12_thrown_16_16 4 rfl) (zi_at zh_dX12_thrown_16_16 5 rfl) (zi_at zh_dX12_thrown_16_16 6 rfl) rfl
theorem dX12_thrown_23 : decode cX12_thrown 23 = .ok (.iconst (-1), 1) := zo_2 (zi_at zh_dX12_thrown_16_16 7 rfl)
theorem dX12_thrown_24 : decode cX12_thrown 24 = .ok (.ireturn, 1) := zo_172 (zi_at zh_dX12_thrown_16_16 8 rfl)
theorem dX12_thrown_25 : decode cX12_thrown 25 = .ok (.aload_n 0, 1) := zo_42 (zi_at zh_dX12_thrown_16_16 9 rfl)
theorem dX12_thrown_26 : decode cX12_thrown 26 = .ok (.getfield 37, 3) := zo_180 (zi_at zh_dX12_thrown_16_16 10 rfl) (zi_at zh_dX12_thrown_16_16 11 rfl) (zi_at zh_dX12_thrown_16_16 12 rfl) rfl
theorem dX12_thrown_29 : decode cX12_thrown 29 = .ok (.iload_n 3, 1) := zo_29 (zi_at zh_dX12_thrown_16_16 13 rfl)
theorem dX12_thrown_30 : decode cX12_thrown 30 = .ok (.invokevirtual 189, 3) := zo_182 (zi_at zh_dX12_thrown_16_16 14 rfl) (zi_at zh_dX12_thrown_16_16 15 rfl) (zi_at zh_dX12_thrown_30_32 0 rfl) rfl
theorem dX12_thrown_33 : decode cX12_thrown 33 = .ok (.aload_n 0, 1) := zo_42 (zi_at zh_dX12_thrown_30_32 1 rfl)
theorem dX12_thrown_34 : decode cX12_thrown 34 = .ok (.getfield 37, 3) := zo_180 (zi_at zh_dX12_thrown_30_32 2 rfl) (zi_at zh_dX12_thrown_30_32 3 rfl) (zi_at zh_dX12_thrown_30_32 4 rfl) rfl
theorem dX12_thrown_37 : decode cX12_thrown 37 = .ok (.getfield 192, 3) := zo_180 (zi_at zh_dX12_thrown_30_32 5 rfl) (zi_at zh_dX12_thrown_30_32 6 rfl) (zi_at zh_dX12_thrown_30_32 7 rfl) rfl
theorem dX12_thrown_40 : decode cX12_thrown 40 = .ok (.iload_n 2, 1) := zo_28 (zi_at zh_dX12_thrown_30_32 8 rfl)
theorem dX12_thrown_41 : decode cX12_thrown 41 = .ok (.baload, 1) := zo_51 (zi_at zh_dX12_thrown_30_32 9 rfl)
theorem dX12_thrown_42 : decode cX12_thrown 42 = .ok (.ifCond .ne 5, 3) := zo_154 (zi_at zh_dX12_thrown_30_32 10 rfl) (zi_at zh_dX12_thrown_30_32 11 rfl) (zi_at zh_dX12_thrown_30_32 12 rfl) rfl
theorem dX12_thrown_45 : decode cX12_thrown 45 = .ok (.iconst (-1), 1) := zo_2 (zi_at zh_dX12_thrown_30_32 13 rfl)
theorem dX12_thrown_46 : decode cX12_thrown 46 = .ok (.ireturn, 1) := zo_172 (zi_at zh_dX12_thrown_30_32 14 rfl)
theorem dX12_thrown_47 : decode cX12_thrown 47 = .ok (.aload_n 0, 1) := zo_42 (zi_at zh_dX12_thrown_30_32 15 rfl)
theorem dX12_thrown_48 : decode cX12_thrown 48 = .ok (.getfield 37, 3) := zo_180 (zi_at zh_dX12_thrown_48_48 0 rfl) (zi_at zh_dX12_thrown_48_48 1 rfl) (zi_at zh_dX12_thrown_48_48 2 rfl) rfl
theorem dX12_thrown_51 : decode cX12_thrown 51 = .ok (.getfield 196, 3) := zo_180 (zi_at zh_dX12_thrown_48_48 3 rfl) (zi_at zh_dX12_thrown_48_48 4 rfl) (zi_at zh_dX12_thrown_48_48 5 rfl) rfl
theorem dX12_thrown_54 : decode cX12_thrown 54 = .ok (.iload_n 1, 1) := zo_27 (zi_at zh_dX12_thrown_48_48 6 rfl)
theorem dX12_thrown_55 : decode cX12_thrown 55 = .ok (.iload_n 2, 1) := zo_28 (zi_at zh_dX12_thrown_48_48 7 rfl)
theorem dX12_thrown_56 : decode cX12_thrown 56 = .ok (.invokestatic 199, 3) := zo_184 (zi_at zh_dX12_thrown_48_48 8 rfl) (zi_at zh_dX12_thrown_48_48 9 rfl) (zi_at zh_dX12_thrown_48_48 10 rfl) rfl
theorem dX12_thrown_59 : decode cX12_thrown 59 = .ok (.baload, 1) := zo_51 (zi_at zh_dX12_thrown_48_48 11 rfl)
theorem dX12_thrown_60 : decode cX12_thrown 60 = .ok (.ifCond .eq 7, 3) := zo_153 (zi_at zh_dX12_thrown_48_48 12 rfl) (zi_at zh_dX12_thrown_48_48 13 rfl) (zi_at zh_dX12_thrown_48_48 14 rfl) rfl
theorem dX12_thrown_63 : decode cX12_thrown 63 = .ok (.iconst 1, 1) := zo_4 (zi_at zh_dX12_thrown_48_48 15 rfl)
theorem dX12_thrown_64 : decode cX12_thrown 64 = .ok (.goto 4, 3) := zo_167 (zi_at zh_dX12_thrown_64_64 0 rfl) (zi_at zh_dX12_thrown_64_64 1 rfl) (zi_at zh_dX12_thrown_64_64 2 rfl) rfl
theorem dX12_thrown_67 : decode cX12_thrown 67 = .ok (.iconst 0, 1) := zo_3 (zi_at zh_dX12_thrown_64_64 3 rfl)
theorem dX12_thrown_68 : decode cX12_thrown 68 = .ok (.ireturn, 1) := zo_172 (zi_at zh_dX12_thrown_64_64 4 rfl)
theorem dX12_total_0 : decode cX12_total 0 = .ok (.aload_n 0, 1) := zo_42 (zi_at zh_dX12_total_0_0 0 rfl)
theorem dX12_total_1 : decode cX12_total 1 = .ok (.getfield 10, 3) := zo_180 (zi_at zh_dX12_total_0_0 1 rfl) (zi_at zh_dX12_total_0_0 2 rfl) (zi_at zh_dX12_total_0_0 3 rfl) rfl
theorem dX12_total_4 : decode cX12_total 4 = .ok (.iload_n 1, 1) := zo_27 (zi_at zh_dX12_total_0_0 4 rfl)
theorem dX12_total_5 : decode cX12_total 5 = .ok (.invokevirtual 66, 3) := zo_182 (zi_at zh_dX12_total_0_0 5 rfl) (zi_at zh_dX12_total_0_0 6 rfl) (zi_at zh_dX12_total_0_0 7 rfl) rfl
theorem dX12_total_8 : decode cX12_total 8 = .ok (.ifCond .eq 14, 3) := zo_153 (zi_at zh_dX12_total_0_0 8 rfl) (zi_at zh_dX12_total_0_0 9 rfl) (zi_at zh_dX12_total_0_0 10 rfl) rfl
theorem dX12_total_11 : decode cX12_total 11 = .ok (.aload_n 0, 1) := zo_42 (zi_at zh_dX12_total_0_0 11 rfl)
theorem dX12_total_12 : decode cX12_total 12 = .ok (.getfield 10, 3) := zo_180 (zi_at zh_dX12_total_0_0 12 rfl) (zi_at zh_dX12_total_0_0 13 rfl) (zi_at zh_dX12_total_0_0 14 rfl) rfl
theorem dX12_total_15 : decode cX12_total 15 = .ok (.iload_n 2, 1) := zo_28 (zi_at zh_dX12_total_0_0 15 rfl)
theorem dX12_total_16 : decode cX12_total 16 = .ok (.invokevirtual 92, 3) := zo_182 (zi_at zh_dX12_total_16_16 0 rfl) (zi_at zh_dX12_total_16_16 1 rfl) (zi_at zh_dX12_total_16_16 2 rfl) rfl
theorem dX12_total_19 : decode cX12_total 19 = .ok (.ifCond .ne 5, 3) := zo_154 (zi_at zh_dX12_total_16_16 3 rfl) (zi_at zh_dX12_total_16_16 4 rfl) (zi_at zh_dX12_total_16_16 5 rfl) rfl
theorem dX12_total_22 : decode cX12_total 22 = .ok (.iconst (-1), 1) := zo_2 (zi_at zh_dX12_total_16_16 6 rfl)
theorem dX12_total_23 : decode cX12_total 23 = .ok (.ireturn, 1) := zo_172 (zi_at zh_dX12_total_16_16 7 rfl)
theorem dX12_total_24 : decode cX12_total 24 = .ok (.aload_n 0, 1) := zo_42 (zi_at zh_dX12_total_16_16 8 rfl)
theorem dX12_total_25 : decode cX12_total 25 = .ok (.getfield 37, 3) := zo_180 (zi_at zh_dX12_total_16_16 9 rfl) (zi_at zh_dX12_total_16_16 10 rfl) (zi_at zh_dX12_total_16_16 11 rfl) rfl
theorem dX12_total_28 : decode cX12_total 28 = .ok (.iload_n 2, 1) := zo_28 (zi_at zh_dX12_total_16_16 12 rfl)
theorem dX12_total_29 : decode cX12_total 29 = .ok (.invokevirtual 189, 3) := zo_182 (zi_at zh_dX12_total_16_16 13 rfl) (zi_at zh_dX12_total_16_16 14 rfl) (zi_at zh_dX12_total_16_16 15 rfl) rfl
theorem dX12_total_32 : decode cX12_total 32 = .ok (.aload_n 0, 1) := zo_42 (zi_at zh_dX12_total_32_32 0 rfl)
theorem dX12_total_33 : decode cX12_total 33 = .ok (.getfield 37, 3) := zo_180 (zi_at zh_dX12_total_32_32 1 rfl) (zi_at zh_dX12_total_32_32 2 rfl) (zi_at zh_dX12_total_32_32 3 rfl) rfl
theorem dX12_total_36 : decode cX12_total 36 = .ok (.getfield 192, 3) := zo_180 (zi_at zh_dX12_total_32_32 4 rfl) (zi_at zh_dX12_total_32_32 5 rfl) (zi_at zh_dX12_total_32_32 6 rfl) rfl
theorem dX12_total_39 : decode cX12_total 39 = .ok (.iload_n 1, 1) := zo_27 (zi_at zh_dX12_total_32_32 7 rfl)
theorem dX12_total_40 : decode cX12_total 40 = .ok (.baload, 1) := zo_51 (zi_at zh_dX12_total_32_32 8 rfl)
theorem dX12_total_41 : decode cX12_total 41 = .ok (.ifCond .eq 15, 3) := zo_153 (zi_at zh_dX12_total_32_32 9 rfl) (zi_at zh_dX12_total_32_32 10 rfl) (zi_at zh_dX12_total_32_32 11 rfl) rfl
theorem dX12_total_44 : decode cX12_total 44 = .ok (.aload_n 0, 1) := zo_42 (zi_at zh_dX12_total_32_32 12 rfl)
theorem dX12_total_45 : decode cX12_total 45 = .ok (.getfield 37, 3) := zo_180 (zi_at zh_dX12_total_32_32 13 rfl) (zi_at zh_dX12_total_32_32 14 rfl) (zi_at zh_dX12_total_32_32 15 rfl) rfl
theorem dX12_total_48 : decode cX12_total 48 = .ok (.getfield 202, 3) := zo_180 (zi_at zh_dX12_total_48_48 0 rfl) (zi_at zh_dX12_total_48_48 1 rfl) (zi_at zh_dX12_total_48_48 2 rfl) rfl
theorem dX12_total_51 : decode cX12_total 51 = .ok (.iload_n 1, 1) := zo_27 (zi_at zh_dX12_total_48_48 3 rfl)
theorem dX12_total_52 : decode cX12_total 52 = .ok (.iaload, 1) := zo_46 (zi_at zh_dX12_total_48_48 4 rfl)
theorem dX12_total_53 : decode cX12_total 53 = .ok (.goto 4, 3) := zo_167 (zi_at zh_dX12_total_48_48 5 rfl) (zi_at zh_dX12_total_48_48 6 rfl) (zi_at zh_dX12_total_48_48 7 rfl) rfl
theorem dX12_total_56 : decode cX12_total 56 = .ok (.iconst (-1), 1) := zo_2 (zi_at zh_dX12_total_48_48 8 rfl)
theorem dX12_total_57 : decode cX12_total 57 = .ok (.ireturn, 1) := zo_172 (zi_at zh_dX12_total_48_48 9 rfl)
theorem dX12_ranked_0 : decode cX12_ranked 0 = .ok (.iload_n 1, 1) := zo_27 (zi_at zh_dX12_ranked_0_0 0 rfl)
theorem dX12_ranked_1 : decode cX12_ranked 1 = .ok (.iconst 0, 1) := zo_3 (zi_at zh_dX12_ranked_0_0 1 rfl)
theorem dX12_ranked_2 : decode cX12_ranked 2 = .ok (.bipush 15, 2) := zo_16 (zi_at zh_dX12_ranked_0_0 2 rfl) (zi_at zh_dX12_ranked_0_0 3 rfl) rfl
theorem dX12_ranked_4 : decode cX12_ranked 4 = .ok (.invokestatic 59, 3) := zo_184 (zi_at zh_dX12_ranked_0_0 4 rfl) (zi_at zh_dX12_ranked_0_0 5 rfl) (zi_at zh_dX12_ranked_0_0 6 rfl) rfl
theorem dX12_ranked_7 : decode cX12_ranked 7 = .ok (.ifCond .eq 14, 3) := zo_153 (zi_at zh_dX12_ranked_0_0 7 rfl) (zi_at zh_dX12_ranked_0_0 8 rfl) (zi_at zh_dX12_ranked_0_0 9 rfl) rfl
theorem dX12_ranked_10 : decode cX12_ranked 10 = .ok (.aload_n 0, 1) := zo_42 (zi_at zh_dX12_ranked_0_0 10 rfl)
theorem dX12_ranked_11 : decode cX12_ranked 11 = .ok (.getfield 10, 3) := zo_180 (zi_at zh_dX12_ranked_0_0 11 rfl) (zi_at zh_dX12_ranked_0_0 12 rfl) (zi_at zh_dX12_ranked_0_0 13 rfl) rfl
theorem dX12_ranked_14 : decode cX12_ranked 14 = .ok (.iload_n 2, 1) := zo_28 (zi_at zh_dX12_ranked_0_0 14 rfl)
theorem dX12_ranked_15 : decode cX12_ranked 15 = .ok (.invokevirtual 92, 3) := zo_182 (zi_at zh_dX12_ranked_0_0 15 rfl) (zi_at zh_dX12_ranked_15_16 0 rfl) (zi_at zh_dX12_ranked_15_16 1 rfl) rfl
theorem dX12_ranked_18 : decode cX12_ranked 18 = .ok (.ifCond .ne 5, 3) := zo_154 (zi_at zh_dX12_ranked_15_16 2 rfl) (zi_at zh_dX12_ranked_15_16 3 rfl) (zi_at zh_dX12_ranked_15_16 4 rfl) rfl
theorem dX12_ranked_21 : decode cX12_ranked 21 = .ok (.iconst (-1), 1) := zo_2 (zi_at zh_dX12_ranked_15_16 5 rfl)
theorem dX12_ranked_22 : decode cX12_ranked 22 = .ok (.ireturn, 1) := zo_172 (zi_at zh_dX12_ranked_15_16 6 rfl)
theorem dX12_ranked_23 : decode cX12_ranked 23 = .ok (.aload_n 0, 1) := zo_42 (zi_at zh_dX12_ranked_15_16 7 rfl)
theorem dX12_ranked_24 : decode cX12_ranked 24 = .ok (.getfield 37, 3) := zo_180 (zi_at zh_dX12_ranked_15_16 8 rfl) (zi_at zh_dX12_ranked_15_16 9 rfl) (zi_at zh_dX12_ranked_15_16 10 rfl) rfl
theorem dX12_ranked_27 : decode cX12_ranked 27 = .ok (.iload_n 2, 1) := zo_28 (zi_at zh_dX12_ranked_15_16 11 rfl)
theorem dX12_ranked_28 : decode cX12_ranked 28 = .ok (.invokevirtual 189, 3) := zo_182 (zi_at zh_dX12_ranked_15_16 12 rfl) (zi_at zh_dX12_ranked_15_16 13 rfl) (zi_at zh_dX12_ranked_15_16 14 rfl) rfl
theorem dX12_ranked_31 : decode cX12_ranked 31 = .ok (.aload_n 0, 1) := zo_42 (zi_at zh_dX12_ranked_15_16 15 rfl)
theorem dX12_ranked_32 : decode cX12_ranked 32 = .ok (.getfield 37, 3) := zo_180 (zi_at zh_dX12_ranked_32_32 0 rfl) (zi_at zh_dX12_ranked_32_32 1 rfl) (zi_at zh_dX12_ranked_32_32 2 rfl) rfl
theorem dX12_ranked_35 : decode cX12_ranked 35 = .ok (.iload_n 1, 1) := zo_27 (zi_at zh_dX12_ranked_32_32 3 rfl)
theorem dX12_ranked_36 : decode cX12_ranked 36 = .ok (.invokevirtual 205, 3) := zo_182 (zi_at zh_dX12_ranked_32_32 4 rfl) (zi_at zh_dX12_ranked_32_32 5 rfl) (zi_at zh_dX12_ranked_32_32 6 rfl) rfl
theorem dX12_ranked_39 : decode cX12_ranked 39 = .ok (.ireturn, 1) := zo_172 (zi_at zh_dX12_ranked_32_32 7 rfl)
theorem hz_yX8_throwOutsIn_1 : yX8_throwOutsIn.cls ≠ "java/lang/invoke/MethodHandle" ∧ yX8_throwOutsIn.cls ≠ "java/lang/invoke/VarHandle" ∧ (parseMethodDescriptor yX8_throwOutsIn.desc).map (fun d => d.parameters.length) = some 1 := by decide +kernel
theorem hz_yX8_throwOut_2 : yX8_throwOut.cls ≠ "java/lang/invoke/MethodHandle" ∧ yX8_throwOut.cls ≠ "java/lang/invoke/VarHandle" ∧ (parseMethodDescriptor yX8_throwOut.desc).map (fun d => d.parameters.length) = some 2 := by decide +kernel
theorem hz_yX8_tally_1 : yX8_tally.cls ≠ "java/lang/invoke/MethodHandle" ∧ yX8_tally.cls ≠ "java/lang/invoke/VarHandle" ∧ (parseMethodDescriptor yX8_tally.desc).map (fun d => d.parameters.length) = some 1 := by decide +kernel
theorem hz_yX8_boatAt_1 : yX8_boatAt.cls ≠ "java/lang/invoke/MethodHandle" ∧ yX8_boatAt.cls ≠ "java/lang/invoke/VarHandle" ∧ (parseMethodDescriptor yX8_boatAt.desc).map (fun d => d.parameters.length) = some 1 := by decide +kernel

def v_tallyX : List Cond := .code yX8_tally cX8_tally 6 none :: vA
abbrev rm_tallyX : Room := { frames := 6, cells := 0, slots := 0, locals := 240 }
def w_tallyX : Nat → Nat → Bool := wl [19, 20, 26, 27, 28, 29, 30, 31, 32, 33, 34, 35] [(3, 6), (3, 7), (3, 8), (4, 2)]
set_option maxHeartbeats 4000000 in
set_option maxRecDepth 100000 in
theorem q_tallyX (l : Launch) (dC : Nat → ClassId) (dI : Nat → Nat → Nat) (cT : Nat → ClassId) (cf : Nat → Nat) (hC : CF cf) (ad : Nat → Nat) (E : Nat → va_E) (sz : Nat) (a0 : Int32) (hI0 : IXL cT (shC cf) (spC cf) (LC cf) ad E) (hh0 : RulAll cf E) : Met l yX8_tally v_tallyX rm_tallyX (va_Pc [.ref (ad 4), .int a0] (HWL dC dI (TYC cT) cf ad E sz)) (va_Qv (S := Nat → va_E) (fun u => IXL cT (shC cf) (spC cf) (LC cf) ad u ∧ Kp w_tallyX E u ∧ ((∃ K9 o9 : Int32, xi (u 4) 2 = K9 ∧ TaX cf E a0 K9 o9 (xi (u 32)) (xi (u 33)) (xi (u 34)) (xi (u 35))))) (HBL dC dI (LC cf) ad) (va_A (WL (LC cf) ad E) sz)) 0 0 (va_A (WL (LC cf) ad E) sz) := by
  obtain ⟨⟨hc0, hc1, hc2, hc3, hc4, hc5⟩, hcr⟩ := id hC
  refine Met.ofW (cc := cX8_tally) (maxL := 6) (ret := none) (by decide) rfl ?_
  intro p e s m args below meth c s₁ B hml hv
  obtain ⟨hargs, hsz, hP, hK, hD0, hEV⟩ := hv
  subst hsz
  have hx := B.exec
  have hb := B.bytes
  have hr := B.returns
  have hts := atoms_spec (ws := v_tallyX) B.pre
  have hown : s.vm.findClass RX8 = some m.cls := findClass_of_methodNamed B.named
  have hlocks := B.notSynchronized
  have hinX0 : ∀ w ∈ u_ws RX0 TX0 11, w ∈ v_tallyX := fun w h => vA_in _ w (in_X0 w h)
  have hinX8 : ∀ w ∈ u_ws RX8 TX8 10, w ∈ v_tallyX := fun w h => vA_in _ w (in_X8 w h)
  have hinX9 : ∀ w ∈ u_ws RX9 TX9 9, w ∈ v_tallyX := fun w h => vA_in _ w (in_X9 w h)
  generalize hAe : va_A (WL (LC cf) ad E) s.heap.size = A at hEV ⊢
  have hA : ∀ q : Nat, s.heap.size ≤ q → A q := fun q h => by rw [← hAe]; exact Or.inr h
  have hD : va_D A (WL (LC cf) ad E) := by rw [← hAe]; exact hD0.self
  have hS : va_S A s.heap s.heap [] := va_S.rf
  have hI := hI0
  have hKp : Kp w_tallyX E E := Kp.rf
  have hl := lv_entry ([.ref (ad 4), .int a0]) (n := 6) (Nat.le_of_ble_eq_true rfl)
  obtain ⟨Q, hQ⟩ : ∃ Q, Q = MQ below (va_Qv (S := Nat → va_E) (fun u => IXL cT (shC cf) (spC cf) (LC cf) ad u ∧ Kp w_tallyX E u ∧ ((∃ K9 o9 : Int32, xi (u 4) 2 = K9 ∧ TaX cf E a0 K9 o9 (xi (u 32)) (xi (u 33)) (xi (u 34)) (xi (u 35))))) (HBL dC dI (LC cf) ad) (A)) args s 0 0 (A) := ⟨_, rfl⟩
  rw [← hQ, show entryFrame m args 6 = _ from (congrArg (fun z => entryFrame m z 6) hargs).trans (lg_entry_eq _ _ _)]
  generalize (lg_sl ([.ref (ad 4), .int a0]) ++ List.replicate (6 - (lg_sl ([.ref (ad 4), .int a0])).length) Slot.unset).toArray = ls at hl ⊢
  have hl : lv_has ls 6 [(0, .ref (ad 4)), (1, .int a0)] := hl
  obtain ⟨g1, hg1⟩ : ∃ g, xi (E 31) = g := ⟨_, rfl⟩
  obtain ⟨g2, hg2⟩ : ∃ g, xi (E 32) = g := ⟨_, rfl⟩
  obtain ⟨g3, hg3⟩ : ∃ g, xi (E 33) = g := ⟨_, rfl⟩
  obtain ⟨g4, hg4⟩ : ∃ g, xi (E 34) = g := ⟨_, rfl⟩
  obtain ⟨g5, hg5⟩ : ∃ g, xi (E 35) = g := ⟨_, rfl⟩
  have z0z : (0 : Int32).toInt = 0 := rfl
  have ibt : 0 ≤ (xi (E 1) 1).toInt ∧ (xi (E 1) 1).toInt ≤ 16 := hI0.iv 1 (mF 1 rfl) rfl (Nat.le_of_ble_eq_true rfl) rfl
  have hN16 : (xi (E 1) 1).toNatClampNeg ≤ 16 := by rw [tn_]; omega
  refine lv_aload_n hx hb dX8_tally_0 rfl (lv_at hl 0 rfl) ?_
  refine lv_aload_n hx hb dX8_tally_1 rfl (lv_at hl 0 rfl) ?_
  refine th_getL (ci := 9) (C := RX8) (T := TX8) (N := 10) (v := .ref (ad 1)) hx hb hts hinX8 hown hK hP hI 4 (mF 4 rfl) rfl rfl 0 (Nat.le_of_ble_eq_true rfl) (hts _ (vA_in _ _ (in_19 _ (zs16 (zs0))))) (fun _ h9 => h9) (hI.fr 4 (mF 4 rfl) rfl (Nat.le_of_ble_eq_true rfl) 1 rfl) dX8_tally_2 ?_
  refine lv_iload_n hx hb dX8_tally_5 rfl (lv_at hl 1 rfl) ?_
  refine th_riL (va_runV (As := [.int a0]) (rest := [.ref (ad 4)]) ⟨hx, hb, hml, hown, hts⟩ (q_racesInX l dC dI cT cf hC ad E s.heap.size a0 hI) (cwV 1 hts (gi_V (in_20 _ (zs16 (zs4 (zs4 (zs1 (zs1 (zs1 (zs0)))))))) (in_20 _ (zs16 (zs4 (zs4 (zs4 (zs0)))))) (in_20 _ (zs16 (zs4 (zs4 (zs4 (zs1 (zs0))))))) (in_5 _ (zs4 (zs1 (zs1 (zs0))))) (in_7 _ (zs16 (zs4 (zs4 (zs1 (zs1 (zs1 (zs0))))))))) rfl rfl rfl ⟨rfl, hz_yX0_racesIn_1⟩ ⟨Nat.le_of_ble_eq_true rfl, Nat.le_of_ble_eq_true rfl⟩) ⟨HWL_bl, va_recv hK hP (ci := 1) (q0 := posL 1 (LC cf)) rfl (hI.ob 1 (mF 1 rfl) rfl), (HWL_wi hP hK (WL_D hD) hS hA hEV)⟩ rfl rfl hl.1 rfl (lv_room (Nat.le_of_ble_eq_true rfl)) dX8_tally_6 ⟨Nat.le_of_ble_eq_true rfl, Nat.le_of_ble_eq_true rfl⟩) hS hP (fun r6 H locs hw hP hS => ?_)
  obtain ⟨f7, f8, f9⟩ := hw
  refine th_putL (ci := 9) (C := RX8) (T := TX8) (N := 10) (v := .int r6) (ty := .int) hx hb hts hinX8 tyX8 tyX8_ok nmX8 hown hK hP (WL_D hD) hS hI 4 (mF 4 rfl) rfl rfl 2 (Nat.le_of_ble_eq_true rfl) (hts _ (vA_in _ _ (in_20 _ (zs4 (zs4 (zs4 (zs0))))))) (fun _ h9 => h9) rfl (by decide +kernel) rfl rfl (okI (lo := 0) (hi := ((cf 2 : Nat) : Int)) rfl (by omega)) dX8_tally_9 (fun H locs E10 pw11 hI hP hS => ?_)
  have hKp := hKp.pw pw11 rfl
  refine lv_iconst (v := 0) hx hb dX8_tally_12 (by decide) ?_
  refine lv_istore_n (lv' := [(2, .int 0), (0, .ref (ad 4)), (1, .int a0)]) hx hb dX8_tally_13 rfl hl (by decide) rfl (fun ls hl => ?_)
  have hL14 : ∀ d : Nat, ∀ (g14_34 : Nat → Int32) (v14_2 : Int32) (E14_ : Nat → va_E) (H : Heap) (locs : List Loc) (ls : Array Slot), 0 ≤ v14_2.toInt ∧ v14_2.toInt ≤ 16 → (∀ b9 : Nat, b9 < v14_2.toNatClampNeg → g14_34 b9 = 0) → 16 - v14_2.toInt < (d : Int) → IXL cT (shC cf) (spC cf) (LC cf) ad E14_ → Kp w_tallyX E E14_ → xv (E14_ 4) 2 = .int r6 → xi (E14_ 31) = g1 → xi (E14_ 32) = g2 → xi (E14_ 33) = g3 → xi (E14_ 34) = g14_34 → xi (E14_ 35) = g5 → va_P (dC, dI) vwCl (WL (LC cf) ad E14_) H → va_S A s.heap H locs → lv_has ls 6 [(2, .int v14_2), (0, .ref (ad 4)), (1, .int a0)] → W p l e (headSpec v_tallyX rm_tallyX).room s m args below meth c H locs 0 0 Q (F0 m 14 ls []) := by
    intro d
    induction d with
    | zero =>
      intro g14_34 v14_2 E14_ H locs ls hv14_2 hx14_0 hx14_1 hI hKp hs14_4_2 hr14_31 hr14_32 hr14_33 hr14_34 hr14_35 hP hS hl
      exact absurd hx14_1 (by first | exact ms_zu hv14_2.2 | omega)
    | succ d ih14 =>
      intro g14_34 v14_2 E14_ H locs ls hv14_2 hx14_0 hx14_1 hI hKp hs14_4_2 hr14_31 hr14_32 hr14_33 hr14_34 hr14_35 hP hS hl
      refine lv_iload_n hx hb dX8_tally_14 rfl (lv_at hl 0 rfl) ?_
      refine lv_bipush (v := 16) hx hb dX8_tally_15 (by decide) ?_
      refine lv_icmp_ge (tgt := 33) hx hb dX8_tally_17 (by decide) (fun c12 => ?_) (fun c12 => ?_)
      · --17 taken
        have t13 : (16 : Int) ≤ v14_2.toInt := ti_le c12
        have i14 : 16 ≤ v14_2.toInt ∧ v14_2.toInt ≤ 16 := iv_le_r t13 (il_ 16) hv14_2 (by decide)
        refine lv_iconst (v := 0) hx hb dX8_tally_33 (by decide) ?_
        refine lv_istore_n (lv' := [(2, .int 0), (0, .ref (ad 4)), (1, .int a0)]) hx hb dX8_tally_34 rfl hl (by decide) rfl (fun ls hl => ?_)
        have hL35 : ∀ d : Nat, ∀ (g35_31 : Nat → Int32) (g35_34 : Nat → Int32) (v35_2 : Int32) (E35_ : Nat → va_E) (H : Heap) (locs : List Loc) (ls : Array Slot), 0 ≤ v35_2.toInt ∧ v35_2.toInt ≤ 20 → (∀ b9 : Nat, b9 < (xi (E 1) 1).toNatClampNeg → ((g35_34 b9).toInt = 1 ↔ ScK cf E a0 v35_2.toNatClampNeg b9)) → (∀ r9 b9 : Nat, r9 < v35_2.toNatClampNeg → b9 < (xi (E 1) 1).toNatClampNeg → PpC cf E (nI r9) a0 b9 (g35_31 (16 * r9 + b9)).toInt) → v35_2.toInt ≤ r6.toInt → 20 - v35_2.toInt < (d : Int) → IXL cT (shC cf) (spC cf) (LC cf) ad E35_ → Kp w_tallyX E E35_ → xv (E35_ 4) 2 = .int r6 → xi (E35_ 31) = g35_31 → xi (E35_ 32) = g2 → xi (E35_ 33) = g3 → xi (E35_ 34) = g35_34 → xi (E35_ 35) = g5 → va_P (dC, dI) vwCl (WL (LC cf) ad E35_) H → va_S A s.heap H locs → lv_has ls 6 [(2, .int v35_2), (0, .ref (ad 4)), (1, .int a0)] → W p l e (headSpec v_tallyX rm_tallyX).room s m args below meth c H locs 0 0 Q (F0 m 35 ls []) := by
          intro d
          induction d with
          | zero =>
            intro g35_31 g35_34 v35_2 E35_ H locs ls hv35_2 hx35_0 hx35_1 hx35_2 hx35_3 hI hKp hs35_4_2 hr35_31 hr35_32 hr35_33 hr35_34 hr35_35 hP hS hl
            exact absurd hx35_3 (by first | exact ms_zu hv35_2.2 | omega)
          | succ d ih35 =>
            intro g35_31 g35_34 v35_2 E35_ H locs ls hv35_2 hx35_0 hx35_1 hx35_2 hx35_3 hI hKp hs35_4_2 hr35_31 hr35_32 hr35_33 hr35_34 hr35_35 hP hS hl
            refine lv_iload_n hx hb dX8_tally_35 rfl (lv_at hl 0 rfl) ?_
            refine lv_aload_n hx hb dX8_tally_36 rfl (lv_at hl 1 rfl) ?_
            refine th_getL (ci := 9) (C := RX8) (T := TX8) (N := 10) (v := .int r6) hx hb hts hinX8 hown hK hP hI 4 (mF 4 rfl) rfl rfl 2 (Nat.le_of_ble_eq_true rfl) (hts _ (vA_in _ _ (in_20 _ (zs4 (zs4 (zs4 (zs0))))))) (fun _ h9 => h9) hs35_4_2 dX8_tally_37 ?_
            refine lv_icmp_ge (tgt := 115) hx hb dX8_tally_40 (by decide) (fun c15 => ?_) (fun c15 => ?_)
            · --40 taken
              have t16 : r6.toInt ≤ v35_2.toInt := ti_le c15
              refine lv_aload_n hx hb dX8_tally_115 rfl (lv_at hl 1 rfl) ?_
              refine lv_iload_n hx hb dX8_tally_116 rfl (lv_at hl 2 rfl) ?_
              refine th_iL (va_runV (As := [.int a0]) (rest := []) ⟨hx, hb, hml, hown, hts⟩ (q_throwOutsInX l dC dI cT cf hC ad E35_ H.size a0 hI (by exact (fun i9 hi9 => (hh0 i9 hi9).cg (kp_rul hKp (fun o9 ho9 j9 => wl_p rfl rfl ho9) i9)))) (cwV 1 hts (gi_V (in_21 _ (zs16 (zs4 (zs4 (zs4 (zs0)))))) (in_21 _ (zs16 (zs4 (zs4 (zs4 (zs1 (zs0))))))) (in_21 _ (zs16 (zs4 (zs4 (zs4 (zs1 (zs1 (zs0)))))))) (in_18 _ (zs16 (zs16 (zs0)))) (in_21 _ (zs16 (zs4 (zs4 (zs4 (zs1 (zs1 (zs1 (zs0)))))))))) rfl rfl rfl ⟨rfl, hz_yX8_throwOutsIn_1⟩ ⟨Nat.le_of_ble_eq_true rfl, Nat.le_of_ble_eq_true rfl⟩) ⟨HWL_bl, va_recv hK hP (ci := 9) (q0 := posL 4 (LC cf)) rfl (hI.ob 4 (mF 4 rfl) rfl), (HWL_wi hP hK (WL_D hD) hS hA hEV)⟩ rfl rfl hl.1 rfl (lv_room (Nat.le_of_ble_eq_true rfl)) dX8_tally_117 ⟨Nat.le_of_ble_eq_true rfl, Nat.le_of_ble_eq_true rfl⟩) (WL_D hD) hS hA (fun r17 E18 H locs hw hP hS => ?_)
              obtain ⟨hI, kq19, hw⟩ := hw
              have hKb := hKp
              have hKp := hKp.tr kq19 (wl_sub rfl rfl)
              obtain ⟨f20, f21⟩ := hw
              try rw [(show xi (E35_ 4) 2 = r6 from vi_e hs35_4_2)] at f21
              have k22 : r17.toInt = max 0 (min (max 0 (r6.toInt - 1)) (wV cf E 116 (lawC cf E a0 a0) (lset lz 7 r6)).toInt) := by have h9 := f21; rw [lawC_cg (K64.of hKb (fun o9 ho9 j9 => wl_p rfl rfl ho9)), wV_cg (E := E) (fun i9 t9 h9 g9 j9 => kp_rul hKb (fun o9 ho9 j9 => wl_p rfl rfl ho9) i9 t9 h9 g9 j9)] at h9; exact h9
              refine lv_istore_n (lv' := [(2, .int r17), (0, .ref (ad 4)), (1, .int a0)]) hx hb dX8_tally_120 rfl hl (by decide) rfl (fun ls hl => ?_)
              refine lv_iconst (v := 0) hx hb dX8_tally_121 (by decide) ?_
              refine lv_istore_n (lv' := [(3, .int 0), (2, .int r17), (0, .ref (ad 4)), (1, .int a0)]) hx hb dX8_tally_122 rfl hl (by decide) rfl (fun ls hl => ?_)
              have hL123 : ∀ d : Nat, ∀ (g123_32 : Nat → Int32) (g123_33 : Nat → Int32) (g123_35 : Nat → Int32) (v123_3 : Int32) (E123_ : Nat → va_E) (H : Heap) (locs : List Loc) (ls : Array Slot), 0 ≤ v123_3.toInt ∧ v123_3.toInt ≤ 16 → (∀ b9 : Nat, b9 < v123_3.toNatClampNeg → ScX (fun r9 b9 p9 => PtC cf E (nI r9) a0 b9 p9) r6.toNatClampNeg r17.toNatClampNeg g123_32 g123_33 g123_35 b9) → v123_3.toInt ≤ (xi (E 1) 1).toInt → 16 - v123_3.toInt < (d : Int) → IXL cT (shC cf) (spC cf) (LC cf) ad E123_ → Kp w_tallyX E E123_ → xv (E123_ 4) 2 = .int r6 → xi (E123_ 31) = g35_31 → xi (E123_ 32) = g123_32 → xi (E123_ 33) = g123_33 → xi (E123_ 34) = g35_34 → xi (E123_ 35) = g123_35 → va_P (dC, dI) vwCl (WL (LC cf) ad E123_) H → va_S A s.heap H locs → lv_has ls 6 [(3, .int v123_3), (2, .int r17), (0, .ref (ad 4)), (1, .int a0)] → W p l e (headSpec v_tallyX rm_tallyX).room s m args below meth c H locs 0 0 Q (F0 m 123 ls []) := by
                intro d
                induction d with
                | zero =>
                  intro g123_32 g123_33 g123_35 v123_3 E123_ H locs ls hv123_3 hx123_0 hx123_1 hx123_2 hI hKp hs123_4_2 hr123_31 hr123_32 hr123_33 hr123_34 hr123_35 hP hS hl
                  exact absurd hx123_2 (by first | exact ms_zu hv123_3.2 | omega)
                | succ d ih123 =>
                  intro g123_32 g123_33 g123_35 v123_3 E123_ H locs ls hv123_3 hx123_0 hx123_1 hx123_2 hI hKp hs123_4_2 hr123_31 hr123_32 hr123_33 hr123_34 hr123_35 hP hS hl
                  refine lv_iload_n hx hb dX8_tally_123 rfl (lv_at hl 0 rfl) ?_
                  refine lv_aload_n hx hb dX8_tally_124 rfl (lv_at hl 2 rfl) ?_
                  refine th_getL (ci := 9) (C := RX8) (T := TX8) (N := 10) (v := .ref (ad 1)) hx hb hts hinX8 hown hK hP hI 4 (mF 4 rfl) rfl rfl 0 (Nat.le_of_ble_eq_true rfl) (hts _ (vA_in _ _ (in_19 _ (zs16 (zs0))))) (fun _ h9 => h9) (hI.fr 4 (mF 4 rfl) rfl (Nat.le_of_ble_eq_true rfl) 1 rfl) dX8_tally_125 ?_
                  have i23 : 0 ≤ (xi (E 1) 1).toInt ∧ (xi (E 1) 1).toInt ≤ 16 := hI0.iv 1 (mF 1 rfl) rfl (Nat.le_of_ble_eq_true rfl) rfl
                  refine th_getL (ci := 1) (C := RX0) (T := TX0) (N := 11) (v := .int (xi (E 1) 1)) hx hb hts hinX0 hown hK hP hI 1 (mF 1 rfl) rfl rfl 1 (Nat.le_of_ble_eq_true rfl) (hts _ (vA_in _ _ (in_21 _ (zs16 (zs4 (zs4 (zs1 (zs1 (zs0))))))))) (fun _ h9 => h9) (th_v0L hKp hI0 1 (mF 1 rfl) rfl (Nat.le_of_ble_eq_true rfl) rfl rfl) dX8_tally_128 ?_
                  refine lv_icmp_ge (tgt := 224) hx hb dX8_tally_131 (by decide) (fun c24 => ?_) (fun c24 => ?_)
                  · --131 taken
                    have t25 : (xi (E 1) 1).toInt ≤ v123_3.toInt := ti_le c24
                    rw [hQ]
                    exact W.vret hx hb hr (fun t ht hW => ⟨⟨E123_, rfl, ⟨hI, hKp, ⟨r6, r17, vi_e hs123_4_2, (by rw [show xi (E123_ 32) = g123_32 from hr123_32, show xi (E123_ 33) = g123_33 from hr123_33, show xi (E123_ 34) = g35_34 from hr123_34, show xi (E123_ 35) = g123_35 from hr123_35]; exact ⟨f9, ⟨by omega, by omega⟩, k22, (fun b9 h9 => by obtain ⟨q1, q2, q3⟩ := hx123_0 b9 (by rw [tn_] at h9 ⊢; omega); exact ⟨q1, (by have h8 := hx35_0 b9 h9; rw [show v35_2.toNatClampNeg = r6.toNatClampNeg by rw [tn_, tn_]; omega] at h8; exact h8), q2, q3⟩)⟩)⟩⟩, by show va_P (dC, dI) vwCl (WL (LC cf) ad E123_) t.heap; rw [ht]; exact hP⟩, hS.F ht⟩) hS.2.2 dX8_tally_224
                  · --131 not
                    have t26 : v123_3.toInt < (xi (E 1) 1).toInt := ti_nle c24
                    have i27 : 0 ≤ v123_3.toInt ∧ v123_3.toInt ≤ 15 := iv_lt_l t26 hv123_3 i23 (by decide)
                    have i28 : 1 ≤ (xi (E 1) 1).toInt ∧ (xi (E 1) 1).toInt ≤ 16 := iv_lt_r t26 hv123_3 i23 (by decide)
                    refine lv_iconst (v := 0) hx hb dX8_tally_134 (by decide) ?_
                    refine lv_istore (lv' := [(4, .int 0), (3, .int v123_3), (2, .int r17), (0, .ref (ad 4)), (1, .int a0)]) hx hb dX8_tally_135 hl (by decide) rfl (fun ls hl => ?_)
                    have hL137 : ∀ d : Nat, ∀ (g137_32 : Nat → Int32) (v137_4 : Int32) (E137_ : Nat → va_E) (H : Heap) (locs : List Loc) (ls : Array Slot), 0 ≤ v137_4.toInt ∧ v137_4.toInt ≤ 20 → (∀ r9 : Nat, r9 < v137_4.toNatClampNeg → PtC cf E (nI r9) a0 v123_3.toNatClampNeg (g137_32 (16 * r9 + v123_3.toNatClampNeg)).toInt) → Frm g123_32 g137_32 v123_3.toNatClampNeg → v137_4.toInt ≤ r6.toInt → 20 - v137_4.toInt < (d : Int) → IXL cT (shC cf) (spC cf) (LC cf) ad E137_ → Kp w_tallyX E E137_ → xv (E137_ 4) 2 = .int r6 → xi (E137_ 31) = g35_31 → xi (E137_ 32) = g137_32 → xi (E137_ 33) = g123_33 → xi (E137_ 34) = g35_34 → xi (E137_ 35) = g123_35 → va_P (dC, dI) vwCl (WL (LC cf) ad E137_) H → va_S A s.heap H locs → lv_has ls 6 [(4, .int v137_4), (3, .int v123_3), (2, .int r17), (0, .ref (ad 4)), (1, .int a0)] → W p l e (headSpec v_tallyX rm_tallyX).room s m args below meth c H locs 0 0 Q (F0 m 137 ls []) := by
                      intro d
                      induction d with
                      | zero =>
                        intro g137_32 v137_4 E137_ H locs ls hv137_4 hx137_0 hx137_1 hx137_2 hx137_3 hI hKp hs137_4_2 hr137_31 hr137_32 hr137_33 hr137_34 hr137_35 hP hS hl
                        exact absurd hx137_3 (by first | exact ms_zu hv137_4.2 | omega)
                      | succ d ih137 =>
                        intro g137_32 v137_4 E137_ H locs ls hv137_4 hx137_0 hx137_1 hx137_2 hx137_3 hI hKp hs137_4_2 hr137_31 hr137_32 hr137_33 hr137_34 hr137_35 hP hS hl
                        refine lv_iload hx hb dX8_tally_137 (lv_at hl 0 rfl) ?_
                        refine lv_aload_n hx hb dX8_tally_139 rfl (lv_at hl 3 rfl) ?_
                        refine th_getL (ci := 9) (C := RX8) (T := TX8) (N := 10) (v := .int r6) hx hb hts hinX8 hown hK hP hI 4 (mF 4 rfl) rfl rfl 2 (Nat.le_of_ble_eq_true rfl) (hts _ (vA_in _ _ (in_20 _ (zs4 (zs4 (zs4 (zs0))))))) (fun _ h9 => h9) hs137_4_2 dX8_tally_140 ?_
                        refine lv_icmp_ge (tgt := 212) hx hb dX8_tally_143 (by decide) (fun c29 => ?_) (fun c29 => ?_)
                        · --143 taken
                          have t30 : r6.toInt ≤ v137_4.toInt := ti_le c29
                          refine lv_aload_n hx hb dX8_tally_212 rfl (lv_at hl 3 rfl) ?_
                          refine lv_iload_n hx hb dX8_tally_213 rfl (lv_at hl 1 rfl) ?_
                          refine lv_iload_n hx hb dX8_tally_214 rfl (lv_at hl 2 rfl) ?_
                          refine th_vL (va_runV (As := [.int v123_3, .int r17]) (rest := []) ⟨hx, hb, hml, hown, hts⟩ (q_throwOutX l dC dI cT cf hC ad E137_ H.size v123_3 r17 hI i27 f20 (by (try rw [(show xi (E137_ 4) 2 = r6 from vi_e hs137_4_2)]); intro r9 h9; rw [show xi (E137_ 32) = g137_32 from hr137_32]; (try rw [show xi (E137_ 4) 2 = r6 from vi_e hs137_4_2] at h9); exact PtC.b (hx137_0 r9 (by rw [show v137_4.toNatClampNeg = r6.toNatClampNeg by rw [tn_, tn_]; omega]; exact h9))) (by (try rw [(show xi (E137_ 4) 2 = r6 from vi_e hs137_4_2)]); (try rw [show xi (E137_ 4) 2 = r6 from vi_e hs137_4_2]); have h9 := k22; omega)) (cwV 2 hts (gi_V (in_21 _ (zs16 (zs16 (zs4 (zs1 (zs0)))))) (in_21 _ (zs16 (zs16 (zs4 (zs1 (zs1 (zs0))))))) (in_21 _ (zs16 (zs16 (zs4 (zs1 (zs1 (zs1 (zs0)))))))) (in_18 _ (zs16 (zs16 (zs0)))) (in_22 _ zs0)) rfl rfl rfl ⟨rfl, hz_yX8_throwOut_2⟩ ⟨Nat.le_of_ble_eq_true rfl, Nat.le_of_ble_eq_true rfl⟩) ⟨HWL_bl, va_recv hK hP (ci := 9) (q0 := posL 4 (LC cf)) rfl (hI.ob 4 (mF 4 rfl) rfl), (HWL_wi hP hK (WL_D hD) hS hA hEV)⟩ rfl rfl hl.1 rfl (lv_room (Nat.le_of_ble_eq_true rfl)) dX8_tally_215 ⟨Nat.le_of_ble_eq_true rfl, Nat.le_of_ble_eq_true rfl⟩) (WL_D hD) hS hA (fun E32 H locs hw hP hS => ?_)
                          obtain ⟨hI, kq33, hw⟩ := hw
                          have hKb := hKp
                          have hKp := hKp.tr kq33 (wl_sub rfl rfl)
                          obtain ⟨f34, f35, f36⟩ := hw
                          try rw [(show xi (E137_ 4) 2 = r6 from vi_e hs137_4_2)] at f34
                          try rw [(show xi (E137_ 4) 2 = r6 from vi_e hs137_4_2)] at f36
                          obtain ⟨g37, hg37⟩ : ∃ g, xi (E32 33) = g := ⟨_, rfl⟩
                          obtain ⟨g38, hg38⟩ : ∃ g, xi (E32 35) = g := ⟨_, rfl⟩
                          have k39 : ThR (fun r9 : Nat => (g137_32 (16 * r9 + v123_3.toNatClampNeg)).toInt) r6.toNatClampNeg r17.toNatClampNeg (fun r9 : Nat => g37 (16 * r9 + v123_3.toNatClampNeg)) := by have h9 := f34; (try rw [show xi (E137_ 32) = g137_32 from hr137_32] at h9); (try rw [show xi (E32 33) = g37 from hg37] at h9); exact h9
                          have k40 : Frm g123_33 g37 v123_3.toNatClampNeg := by have h9 := f35; rw [show xi (E137_ 33) = g123_33 from hr137_33, show xi (E32 33) = g37 from hg37] at h9; exact h9
                          have k41 : ∃ t9 : Int32, g38 = upd g123_35 v123_3.toNatClampNeg t9 ∧ t9.toInt = sumF (ttF (fun r9 : Nat => (g137_32 (16 * r9 + v123_3.toNatClampNeg)).toInt) (fun r9 : Nat => g37 (16 * r9 + v123_3.toNatClampNeg))) r6.toNatClampNeg := by obtain ⟨t9, h8, h9⟩ := f36; rw [show xi (E32 35) = g38 from hg38, show xi (E137_ 35) = g123_35 from hr137_35] at h8; (try rw [show xi (E137_ 32) = g137_32 from hr137_32] at h9); (try rw [show xi (E32 33) = g37 from hg37] at h9); exact ⟨t9, h8, h9⟩
                          obtain ⟨y42, ey42⟩ : ∃ y : Int32, y = v123_3 + (1 : Int32) := ⟨_, rfl⟩
                          obtain ⟨ty42, iy42⟩ := ti_add (e := 1) (f := 16) i27 ln_1 ey42 (by decide)
                          have ty42 : y42.toInt = v123_3.toInt + 1 := ty42
                          have iy42 : 1 ≤ y42.toInt ∧ y42.toInt ≤ 16 := iy42
                          refine lv_iinc (v := y42) (lv' := [(3, .int y42), (4, .int v137_4), (2, .int r17), (0, .ref (ad 4)), (1, .int a0)]) hx hb dX8_tally_218 hl (k := 1) rfl (by rw [ey42]; rfl) (by decide) rfl (fun ls hl => ?_)
                          refine lv_goto (tgt := 123) hx hb dX8_tally_221 (by decide) ?_
                          exact ih123 g137_32 g37 g38 y42 E32 _ _ _ (iv_w iy42 (by decide)) (by obtain ⟨t9, h8, h9⟩ := k41; exact ScX.next hx123_0 hx137_1 k40 (fun b9 q9 => by rw [h8, upd_j q9]) (fun r9 q9 => hx137_0 r9 (by rw [show v137_4.toNatClampNeg = r6.toNatClampNeg by rw [tn_, tn_]; omega]; exact q9)) k39 (by rw [h8, upd_i]; exact h9) (by omega) ⟨by omega, by omega⟩) (by omega) (by first | exact ms_su hx123_2 ty42 (by decide) | omega) hI hKp ((kq33 4 2 rfl).trans hs137_4_2) ((kq33.ef 31 (fun _ => rfl)).trans hr137_31) ((kq33.ef 32 (fun _ => rfl)).trans hr137_32) hg37 ((kq33.ef 34 (fun _ => rfl)).trans hr137_34) hg38 hP hS (lv_sub hl [0, 2, 3, 4] rfl)
                        · --143 not
                          have t43 : v137_4.toInt < r6.toInt := ti_nle c29
                          have i44 : 0 ≤ v137_4.toInt ∧ v137_4.toInt ≤ 19 := iv_lt_l t43 hv137_4 f7 (by decide)
                          have i45 : 1 ≤ r6.toInt ∧ r6.toInt ≤ 20 := iv_lt_r t43 hv137_4 f7 (by decide)
                          refine lv_aload_n hx hb dX8_tally_146 rfl (lv_at hl 3 rfl) ?_
                          refine th_getL (ci := 9) (C := RX8) (T := TX8) (N := 10) (v := .ref (ad 1)) hx hb hts hinX8 hown hK hP hI 4 (mF 4 rfl) rfl rfl 0 (Nat.le_of_ble_eq_true rfl) (hts _ (vA_in _ _ (in_19 _ (zs16 (zs0))))) (fun _ h9 => h9) (hI.fr 4 (mF 4 rfl) rfl (Nat.le_of_ble_eq_true rfl) 1 rfl) dX8_tally_147 ?_
                          refine th_getL (ci := 1) (C := RX0) (T := TX0) (N := 11) (v := .ref (ad 9)) hx hb hts hinX0 hown hK hP hI 1 (mF 1 rfl) rfl rfl 5 (Nat.le_of_ble_eq_true rfl) (hts _ (vA_in _ _ (in_20 _ (zs4 (zs4 (zs1 (zs1 (zs0)))))))) (fun _ h9 => h9) (hI.fr 1 (mF 1 rfl) rfl (Nat.le_of_ble_eq_true rfl) 9 rfl) dX8_tally_150 ?_
                          refine lv_iload hx hb dX8_tally_153 (lv_at hl 0 rfl) ?_
                          refine th_rrL (va_runV (As := [.int v137_4]) (rest := []) ⟨hx, hb, hml, hown, hts⟩ (q_get2 l dC dI cT cf hC ad E137_ H.size v137_4 hI (by omega)) (cwV 1 hts (gi_V (in_20 _ (zs4 (zs4 (zs4 (zs1 (zs0)))))) (in_4 _ (zs16 (zs16 (zs4 (zs1 (zs1 (zs0))))))) (in_4 _ (zs16 (zs16 (zs4 (zs1 (zs1 (zs1 (zs0)))))))) (in_3 _ (zs16 (zs1 (zs1 (zs0))))) (in_3 _ (zs16 (zs16 (zs4 (zs1 (zs1 (zs1 (zs0))))))))) rfl rfl rfl ⟨rfl, hz_yJx4a65c_get_915e3_1⟩ ⟨Nat.le_of_ble_eq_true rfl, Nat.le_of_ble_eq_true rfl⟩) ⟨HWL_bl, va_recv hK hP (ci := 0) (q0 := posL 9 (LC cf)) rfl (hI.ob 9 (mF 9 rfl) rfl), (HWL_wi hP hK (WL_D hD) hS hA hEV)⟩ rfl rfl hl.1 rfl (lv_room (Nat.le_of_ble_eq_true rfl)) dX8_tally_155 ⟨Nat.le_of_ble_eq_true rfl, Nat.le_of_ble_eq_true rfl⟩) hS hP (fun r46 H locs hw hP hS => ?_)
                          obtain rfl := hw
                          have lv47 : v137_4.toNatClampNeg < cf 2 := by rw [tn_]; omega
                          refine va_castS (cC := dC 6) hx hb hown (hts _ (vA_in _ _ (in_20 _ (zs4 (zs4 (zs1 (zs1 (zs1 (zs0))))))))) (hK.1 6 _ rfl).2 (va_recv hK hP (ci := 6) (q0 := posL (64 * (v137_4.toNatClampNeg + 1) + 6) (LC cf)) rfl (hI.ob (64 * (v137_4.toNatClampNeg + 1) + 6) (mP 6 v137_4.toNatClampNeg (by decide) lv47 (kl_le hC 2 (by decide))) (shC_p 6 v137_4.toNatClampNeg (by decide)))) dX8_tally_158 ?_
                          refine lv_iload_n hx hb dX8_tally_161 rfl (lv_at hl 1 rfl) ?_
                          refine lv_iload_n hx hb dX8_tally_162 rfl (lv_at hl 4 rfl) ?_
                          refine th_riL (va_runV (As := [.int v123_3, .int a0]) (rest := []) ⟨hx, hb, hml, hown, hts⟩ (q_isRedressedIn l dC dI cT cf hC ad E137_ H.size v123_3 a0 v137_4.toNatClampNeg hI (by omega) i27) (cwV 2 hts (gi_V (in_20 _ (zs4 (zs4 (zs4 (zs1 (zs1 (zs0))))))) (in_20 _ (zs4 (zs4 (zs4 (zs1 (zs1 (zs1 (zs0)))))))) (in_20 _ (zs16 (zs0))) (in_6 _ (zs16 (zs1 (zs0)))) (in_20 _ (zs16 (zs1 (zs0))))) rfl rfl rfl ⟨rfl, hz_yX5_isRedressedIn_2⟩ ⟨Nat.le_of_ble_eq_true rfl, Nat.le_of_ble_eq_true rfl⟩) ⟨HWL_bl, va_recv hK hP (ci := 6) (q0 := posL (64 * (v137_4.toNatClampNeg + 1) + 6) (LC cf)) rfl (hI.ob (64 * (v137_4.toNatClampNeg + 1) + 6) (mP 6 v137_4.toNatClampNeg (by decide) lv47 (kl_le hC 2 (by decide))) (shC_p 6 v137_4.toNatClampNeg (by decide))), (HWL_wi hP hK (WL_D hD) hS hA hEV)⟩ rfl rfl hl.1 rfl (lv_room (Nat.le_of_ble_eq_true rfl)) dX8_tally_163 ⟨Nat.le_of_ble_eq_true rfl, Nat.le_of_ble_eq_true rfl⟩) hS hP (fun r48 H locs hw hP hS => ?_)
                          rcases hw with hw | hw
                          · -- isRedressedIn, case 0
                            obtain ⟨rfl, f49⟩ := hw
                            have k50 : redC E v123_3.toNatClampNeg a0.toInt v137_4.toNatClampNeg := by have h9 : redC E137_ v123_3.toNatClampNeg a0.toInt v137_4.toNatClampNeg := f49; rw [redC_k (K64.of hKp (fun o9 ho9 j9 => wl_p rfl rfl ho9))] at h9; exact h9
                            refine lv_istore (lv' := [(5, .int 1), (4, .int v137_4), (3, .int v123_3), (2, .int r17), (0, .ref (ad 4)), (1, .int a0)]) hx hb dX8_tally_166 hl (by decide) rfl (fun ls hl => ?_)
                            refine lv_aload_n hx hb dX8_tally_168 rfl (lv_at hl 4 rfl) ?_
                            refine th_getL (ci := 9) (C := RX8) (T := TX8) (N := 10) (v := .ref (ad 32)) hx hb hts hinX8 hown hK hP hI 4 (mF 4 rfl) rfl rfl 4 (Nat.le_of_ble_eq_true rfl) (hts _ (vA_in _ _ (in_19 _ (zs4 (zs4 (zs1 (zs0))))))) (fun _ h9 => h9) (hI.fr 4 (mF 4 rfl) rfl (Nat.le_of_ble_eq_true rfl) 32 rfl) dX8_tally_169 ?_
                            refine lv_iload hx hb dX8_tally_172 (lv_at hl 1 rfl) ?_
                            refine lv_iload_n hx hb dX8_tally_174 rfl (lv_at hl 2 rfl) ?_
                            refine th_pi (va_runSN (As := [.int v137_4, .int v123_3]) (rest := [.ref (ad 32)]) ⟨hx, hb, hml, hown, hts⟩ (q_ccell l v137_4 v123_3 i44 i27) ⟨va_cnB 2 hts (gi_0 (in_10 _ (zs16 (zs4 (zs0))))) rfl rfl rfl (hEV.1.1 _ (List.mem_of_getElem? (i := 10) rfl)) (hts _ (vA_in _ _ (in_4 _ (zs16 (zs4 (zs1 (zs1 (zs1 (zs0))))))))) hz_yX12_cell_2 ⟨Nat.le_of_ble_eq_true rfl, Nat.le_of_ble_eq_true rfl⟩, (hts _ (vA_in _ _ (in_13 _ (zs1 (zs0))))), trivial⟩ ⟨fun _ _ _ _ q => q, fun _ _ _ => ⟨rfl, trivial⟩⟩ rfl rfl hl.1 rfl (lv_room (Nat.le_of_ble_eq_true rfl)) dX8_tally_175 ⟨Nat.le_of_ble_eq_true rfl, Nat.le_of_ble_eq_true rfl⟩) hS (fun r51 H1 locs1 hw hk1 hS => ?_)
                            have hP := ub_keep hP hk1
                            generalize H1 = H at hP hS ⊢
                            generalize locs1 = locs at hS ⊢
                            obtain ⟨f52, f53⟩ := hw
                            refine lv_iload hx hb dX8_tally_178 (lv_at hl 0 rfl) ?_
                            refine lv_if_eq (tgt := 194) hx hb dX8_tally_180 (by decide) (fun c54 => ?_) (fun c54 => ?_)
                            · --180 taken
                              exact absurd c54 (by decide)
                            · --180 not
                              refine lv_aload_n hx hb dX8_tally_183 rfl (lv_at hl 4 rfl) ?_
                              refine lv_iload hx hb dX8_tally_184 (lv_at hl 1 rfl) ?_
                              refine lv_iload_n hx hb dX8_tally_186 rfl (lv_at hl 2 rfl) ?_
                              refine lv_iload_n hx hb dX8_tally_187 rfl (lv_at hl 5 rfl) ?_
                              refine th_riL (va_runV (As := [.int v137_4, .int v123_3, .int a0]) (rest := [.int r51, .ref (ad 32)]) ⟨hx, hb, hml, hown, hts⟩ (q_meanBesideX l dC dI cT cf hC ad E137_ H.size v137_4 v123_3 a0 hI i44 i27) (cwV 3 hts (gi_V (in_20 _ (zs16 (zs4 (zs4 (zs4 (zs1 (zs1 (zs0)))))))) (in_20 _ (zs16 (zs4 (zs4 (zs4 (zs1 (zs1 (zs1 (zs0))))))))) (in_20 _ (zs16 (zs16 (zs0)))) (in_18 _ (zs16 (zs16 (zs0)))) (in_20 _ (zs16 (zs16 (zs1 (zs0)))))) rfl rfl rfl ⟨rfl, hz_yX8_meanBeside_3⟩ ⟨Nat.le_of_ble_eq_true rfl, Nat.le_of_ble_eq_true rfl⟩) ⟨HWL_bl, va_recv hK hP (ci := 9) (q0 := posL 4 (LC cf)) rfl (hI.ob 4 (mF 4 rfl) rfl), (HWL_wi hP hK (WL_D hD) hS hA hEV)⟩ rfl rfl hl.1 rfl (lv_room (Nat.le_of_ble_eq_true rfl)) dX8_tally_188 ⟨Nat.le_of_ble_eq_true rfl, Nat.le_of_ble_eq_true rfl⟩) hS hP (fun r55 H locs hw hP hS => ?_)
                              have f56 := hw
                              try rw [(show xi (E137_ 4) 2 = r6 from vi_e hs137_4_2)] at f56
                              have k57 : PtC cf E (nI v137_4.toNatClampNeg) a0 v123_3.toNatClampNeg r55.toInt := by rw [nI_tn (show 0 ≤ v137_4.toInt by omega)]; exact MnB.pt (u := E137_) (n := r6.toNatClampNeg) (c := r6.toInt) (K64.of hKp (fun o9 ho9 j9 => wl_p rfl rfl ho9)) (by omega) k50 f56 f9 (by rw [tn_]) (fun o9 h9 => by rw [show xi (E137_ 31) = g35_31 from hr137_31]; exact hx35_1 o9 v123_3.toNatClampNeg (by rw [tn_] at h9 ⊢; omega) (by rw [tn_, tn_]; omega))
                              refine lv_goto (tgt := 205) hx hb dX8_tally_191 (by decide) ?_
                              have n58 : vp_in r51 320 := (iv_in (n := 320) f52 (by decide))
                              refine th_iastL hx hb hK hP (WL_D hD) hS hI 32 (mF 32 rfl) rfl rfl n58 (okI rfl (iv_all _)) dX8_tally_205 (fun H locs E59 pw60 hI hP hS => ?_)
                              have hKp := hKp.pw pw60 rfl
                              obtain ⟨g61, eg61⟩ : ∃ z : Nat → Int32, z = upd g137_32 r51.toNatClampNeg r55 := ⟨_, rfl⟩
                              have hg61 : xi (E59 32) = g61 := by rw [pw60.eu, hr137_32, eg61]
                              obtain ⟨y62, ey62⟩ : ∃ y : Int32, y = v137_4 + (1 : Int32) := ⟨_, rfl⟩
                              obtain ⟨ty62, iy62⟩ := ti_add (e := 1) (f := 20) i44 ln_1 ey62 (by decide)
                              have ty62 : y62.toInt = v137_4.toInt + 1 := ty62
                              have iy62 : 1 ≤ y62.toInt ∧ y62.toInt ≤ 20 := iy62
                              refine lv_iinc (v := y62) (lv' := [(4, .int y62), (5, .int 1), (3, .int v123_3), (2, .int r17), (0, .ref (ad 4)), (1, .int a0)]) hx hb dX8_tally_206 hl (k := 1) rfl (by rw [ey62]; rfl) (by decide) rfl (fun ls hl => ?_)
                              refine lv_goto (tgt := 137) hx hb dX8_tally_209 (by decide) ?_
                              exact ih137 g61 y62 E59 _ _ _ (iv_w iy62 (by decide)) (cl_s (P := fun r9 z9 => PtC cf E (nI r9) a0 v123_3.toNatClampNeg z9.toInt) hx137_0 eg61 (show r51.toNatClampNeg = 16 * v137_4.toNatClampNeg + v123_3.toNatClampNeg by rw [tn_ r51, tn_ v137_4, tn_ v123_3]; omega) k57 (by omega) (by omega)) (hx137_1.up eg61 (show r51.toNatClampNeg = 16 * v137_4.toNatClampNeg + v123_3.toNatClampNeg by rw [tn_ r51, tn_ v137_4, tn_ v123_3]; omega) (by rw [tn_]; omega)) (by omega) (by first | exact ms_su hx137_3 ty62 (by decide) | omega) hI hKp ((pw60.2 4 2 (fun q9 => absurd q9.1 (Nat.ne_of_beq_eq_false rfl))).trans hs137_4_2) ((pw60.ef 31 (Nat.ne_of_beq_eq_false rfl)).trans hr137_31) hg61 ((pw60.ef 33 (Nat.ne_of_beq_eq_false rfl)).trans hr137_33) ((pw60.ef 34 (Nat.ne_of_beq_eq_false rfl)).trans hr137_34) ((pw60.ef 35 (Nat.ne_of_beq_eq_false rfl)).trans hr137_35) hP hS (lv_sub hl [0, 2, 3, 4, 5] rfl)
                          · -- isRedressedIn, case 1
                            obtain ⟨rfl, f63⟩ := hw
                            have k64 : ¬ redC E v123_3.toNatClampNeg a0.toInt v137_4.toNatClampNeg := by have h9 : ¬ redC E137_ v123_3.toNatClampNeg a0.toInt v137_4.toNatClampNeg := f63; rw [redC_k (K64.of hKp (fun o9 ho9 j9 => wl_p rfl rfl ho9))] at h9; exact h9
                            refine lv_istore (lv' := [(5, .int 0), (4, .int v137_4), (3, .int v123_3), (2, .int r17), (0, .ref (ad 4)), (1, .int a0)]) hx hb dX8_tally_166 hl (by decide) rfl (fun ls hl => ?_)
                            refine lv_aload_n hx hb dX8_tally_168 rfl (lv_at hl 4 rfl) ?_
                            refine th_getL (ci := 9) (C := RX8) (T := TX8) (N := 10) (v := .ref (ad 32)) hx hb hts hinX8 hown hK hP hI 4 (mF 4 rfl) rfl rfl 4 (Nat.le_of_ble_eq_true rfl) (hts _ (vA_in _ _ (in_19 _ (zs4 (zs4 (zs1 (zs0))))))) (fun _ h9 => h9) (hI.fr 4 (mF 4 rfl) rfl (Nat.le_of_ble_eq_true rfl) 32 rfl) dX8_tally_169 ?_
                            refine lv_iload hx hb dX8_tally_172 (lv_at hl 1 rfl) ?_
                            refine lv_iload_n hx hb dX8_tally_174 rfl (lv_at hl 2 rfl) ?_
                            refine th_pi (va_runSN (As := [.int v137_4, .int v123_3]) (rest := [.ref (ad 32)]) ⟨hx, hb, hml, hown, hts⟩ (q_ccell l v137_4 v123_3 i44 i27) ⟨va_cnB 2 hts (gi_0 (in_10 _ (zs16 (zs4 (zs0))))) rfl rfl rfl (hEV.1.1 _ (List.mem_of_getElem? (i := 10) rfl)) (hts _ (vA_in _ _ (in_4 _ (zs16 (zs4 (zs1 (zs1 (zs1 (zs0))))))))) hz_yX12_cell_2 ⟨Nat.le_of_ble_eq_true rfl, Nat.le_of_ble_eq_true rfl⟩, (hts _ (vA_in _ _ (in_13 _ (zs1 (zs0))))), trivial⟩ ⟨fun _ _ _ _ q => q, fun _ _ _ => ⟨rfl, trivial⟩⟩ rfl rfl hl.1 rfl (lv_room (Nat.le_of_ble_eq_true rfl)) dX8_tally_175 ⟨Nat.le_of_ble_eq_true rfl, Nat.le_of_ble_eq_true rfl⟩) hS (fun r65 H1 locs1 hw hk1 hS => ?_)
                            have hP := ub_keep hP hk1
                            generalize H1 = H at hP hS ⊢
                            generalize locs1 = locs at hS ⊢
                            obtain ⟨f66, f67⟩ := hw
                            refine lv_iload hx hb dX8_tally_178 (lv_at hl 0 rfl) ?_
                            refine lv_if_eq (tgt := 194) hx hb dX8_tally_180 (by decide) (fun c68 => ?_) (fun c68 => ?_)
                            · --180 taken
                              refine lv_aload_n hx hb dX8_tally_194 rfl (lv_at hl 4 rfl) ?_
                              refine th_getL (ci := 9) (C := RX8) (T := TX8) (N := 10) (v := .ref (ad 31)) hx hb hts hinX8 hown hK hP hI 4 (mF 4 rfl) rfl rfl 3 (Nat.le_of_ble_eq_true rfl) (hts _ (vA_in _ _ (in_19 _ (zs4 (zs4 (zs0)))))) (fun _ h9 => h9) (hI.fr 4 (mF 4 rfl) rfl (Nat.le_of_ble_eq_true rfl) 31 rfl) dX8_tally_195 ?_
                              refine lv_iload hx hb dX8_tally_198 (lv_at hl 1 rfl) ?_
                              refine lv_iload_n hx hb dX8_tally_200 rfl (lv_at hl 2 rfl) ?_
                              refine th_pi (va_runSN (As := [.int v137_4, .int v123_3]) (rest := [.ref (ad 31), .int r65, .ref (ad 32)]) ⟨hx, hb, hml, hown, hts⟩ (q_ccell l v137_4 v123_3 i44 i27) ⟨va_cnB 2 hts (gi_0 (in_10 _ (zs16 (zs4 (zs0))))) rfl rfl rfl (hEV.1.1 _ (List.mem_of_getElem? (i := 10) rfl)) (hts _ (vA_in _ _ (in_4 _ (zs16 (zs4 (zs1 (zs1 (zs1 (zs0))))))))) hz_yX12_cell_2 ⟨Nat.le_of_ble_eq_true rfl, Nat.le_of_ble_eq_true rfl⟩, (hts _ (vA_in _ _ (in_13 _ (zs1 (zs0))))), trivial⟩ ⟨fun _ _ _ _ q => q, fun _ _ _ => ⟨rfl, trivial⟩⟩ rfl rfl hl.1 rfl (lv_room (Nat.le_of_ble_eq_true rfl)) dX8_tally_201 ⟨Nat.le_of_ble_eq_true rfl, Nat.le_of_ble_eq_true rfl⟩) hS (fun r69 H1 locs1 hw hk1 hS => ?_)
                              have hP := ub_keep hP hk1
                              generalize H1 = H at hP hS ⊢
                              generalize locs1 = locs at hS ⊢
                              obtain ⟨f70, f71⟩ := hw
                              have n73 : vp_in r69 320 := (iv_in (n := 320) f70 (by decide))
                              refine th_ialdL hx hb hK hP hI 31 (mF 31 rfl) rfl rfl n73 dX8_tally_204 (fun y72 ey72 => ?_)
                              have iy72 : 0 ≤ y72.toInt ∧ y72.toInt ≤ 10000 := hI.el 31 (mF 31 rfl) rfl n73 (fun _ => rfl) ey72
                              have ey72 := ey72.trans (congrFun hr137_31 _)
                              have k74 : PtC cf E (nI v137_4.toNatClampNeg) a0 v123_3.toNatClampNeg y72.toInt := by have h9 := hx35_1 v137_4.toNatClampNeg v123_3.toNatClampNeg (by rw [tn_, tn_]; omega) (by rw [tn_, tn_]; omega); rw [← (show r69.toNatClampNeg = 16 * v137_4.toNatClampNeg + v123_3.toNatClampNeg by rw [tn_ r69, tn_ v137_4, tn_ v123_3]; omega), ← ey72] at h9; rw [nI_tn (show 0 ≤ v137_4.toInt by omega)] at h9 ⊢; exact ⟨fun _ => h9, fun z9 => absurd z9 k64⟩
                              have n75 : vp_in r65 320 := (iv_in (n := 320) f66 (by decide))
                              refine th_iastL hx hb hK hP (WL_D hD) hS hI 32 (mF 32 rfl) rfl rfl n75 (okI rfl (iv_w iy72 (by decide))) dX8_tally_205 (fun H locs E76 pw77 hI hP hS => ?_)
                              have hKp := hKp.pw pw77 rfl
                              obtain ⟨g78, eg78⟩ : ∃ z : Nat → Int32, z = upd g137_32 r65.toNatClampNeg y72 := ⟨_, rfl⟩
                              have hg78 : xi (E76 32) = g78 := by rw [pw77.eu, hr137_32, eg78]
                              obtain ⟨y79, ey79⟩ : ∃ y : Int32, y = v137_4 + (1 : Int32) := ⟨_, rfl⟩
                              obtain ⟨ty79, iy79⟩ := ti_add (e := 1) (f := 20) i44 ln_1 ey79 (by decide)
                              have ty79 : y79.toInt = v137_4.toInt + 1 := ty79
                              have iy79 : 1 ≤ y79.toInt ∧ y79.toInt ≤ 20 := iy79
                              refine lv_iinc (v := y79) (lv' := [(4, .int y79), (5, .int 0), (3, .int v123_3), (2, .int r17), (0, .ref (ad 4)), (1, .int a0)]) hx hb dX8_tally_206 hl (k := 1) rfl (by rw [ey79]; rfl) (by decide) rfl (fun ls hl => ?_)
                              refine lv_goto (tgt := 137) hx hb dX8_tally_209 (by decide) ?_
                              exact ih137 g78 y79 E76 _ _ _ (iv_w iy79 (by decide)) (cl_s (P := fun r9 z9 => PtC cf E (nI r9) a0 v123_3.toNatClampNeg z9.toInt) hx137_0 eg78 (show r65.toNatClampNeg = 16 * v137_4.toNatClampNeg + v123_3.toNatClampNeg by rw [tn_ r65, tn_ v137_4, tn_ v123_3]; omega) k74 (by omega) (by omega)) (hx137_1.up eg78 (show r65.toNatClampNeg = 16 * v137_4.toNatClampNeg + v123_3.toNatClampNeg by rw [tn_ r65, tn_ v137_4, tn_ v123_3]; omega) (by rw [tn_]; omega)) (by omega) (by first | exact ms_su hx137_3 ty79 (by decide) | omega) hI hKp ((pw77.2 4 2 (fun q9 => absurd q9.1 (Nat.ne_of_beq_eq_false rfl))).trans hs137_4_2) ((pw77.ef 31 (Nat.ne_of_beq_eq_false rfl)).trans hr137_31) hg78 ((pw77.ef 33 (Nat.ne_of_beq_eq_false rfl)).trans hr137_33) ((pw77.ef 34 (Nat.ne_of_beq_eq_false rfl)).trans hr137_34) ((pw77.ef 35 (Nat.ne_of_beq_eq_false rfl)).trans hr137_35) hP hS (lv_sub hl [0, 2, 3, 4, 5] rfl)
                            · --180 not
                              exact absurd c68 (by decide)
                    exact hL137 (21) g123_32 (0 : Int32) E123_ _ _ _ (iv_w ln_0 (by decide)) (fun r9 h9 => absurd h9 (Nat.not_lt_zero r9)) Frm.rf (by omega) (by have h9 := ln_0; first | exact ms_bu h9.1 (by decide) | omega) hI hKp hs123_4_2 hr123_31 hr123_32 hr123_33 hr123_34 hr123_35 hP hS (lv_sub hl [0, 1, 2, 3, 4] rfl)
              exact hL123 (17) g2 g3 g5 (0 : Int32) E18 _ _ _ (iv_w ln_0 (by decide)) (fun b9 h9 => absurd h9 (Nat.not_lt_zero b9)) (by omega) (by have h9 := ln_0; first | exact ms_bu h9.1 (by decide) | omega) hI hKp ((kq19 4 2 rfl).trans hs35_4_2) ((kq19.ef 31 (fun _ => rfl)).trans hr35_31) ((kq19.ef 32 (fun _ => rfl)).trans hr35_32) ((kq19.ef 33 (fun _ => rfl)).trans hr35_33) ((kq19.ef 34 (fun _ => rfl)).trans hr35_34) ((kq19.ef 35 (fun _ => rfl)).trans hr35_35) hP hS (lv_sub hl [0, 1, 2, 3] rfl)
            · --40 not
              have t80 : v35_2.toInt < r6.toInt := ti_nle c15
              have i81 : 0 ≤ v35_2.toInt ∧ v35_2.toInt ≤ 19 := iv_lt_l t80 hv35_2 f7 (by decide)
              have i82 : 1 ≤ r6.toInt ∧ r6.toInt ≤ 20 := iv_lt_r t80 hv35_2 f7 (by decide)
              refine lv_aload_n hx hb dX8_tally_43 rfl (lv_at hl 1 rfl) ?_
              refine th_getL (ci := 9) (C := RX8) (T := TX8) (N := 10) (v := .ref (ad 3)) hx hb hts hinX8 hown hK hP hI 4 (mF 4 rfl) rfl rfl 1 (Nat.le_of_ble_eq_true rfl) (hts _ (vA_in _ _ (in_19 _ (zs16 (zs1 (zs0)))))) (fun _ h9 => h9) (hI.fr 4 (mF 4 rfl) rfl (Nat.le_of_ble_eq_true rfl) 3 rfl) dX8_tally_44 ?_
              refine lv_iload_n hx hb dX8_tally_47 rfl (lv_at hl 0 rfl) ?_
              refine lv_iload_n hx hb dX8_tally_48 rfl (lv_at hl 2 rfl) ?_
              refine th_vL (va_runV (As := [.int v35_2, .int a0]) (rest := []) ⟨hx, hb, hml, hown, hts⟩ (q_sheetX l dC dI cT cf hC ad E35_ H.size v35_2 a0 hI i81 (by omega) (by exact (fun i9 hi9 => (hh0 i9 hi9).cg (kp_rul hKp (fun o9 ho9 j9 => wl_p rfl rfl ho9) i9)))) (cwV 2 hts (gi_V (in_20 _ (zs16 (zs1 (zs1 (zs1 (zs0)))))) (in_11 _ (zs16 (zs16 (zs1 (zs1 (zs1 (zs0))))))) (in_11 _ (zs16 (zs16 (zs4 (zs0))))) (in_11 _ (zs16 (zs16 (zs4 (zs1 (zs0)))))) (in_11 _ (zs16 (zs16 (zs4 (zs1 (zs1 (zs0)))))))) rfl rfl rfl ⟨rfl, hz_yX9_read_2⟩ ⟨Nat.le_of_ble_eq_true rfl, Nat.le_of_ble_eq_true rfl⟩) ⟨HWL_bl, va_recv hK hP (ci := 10) (q0 := posL 3 (LC cf)) rfl (hI.ob 3 (mF 3 rfl) rfl), (HWL_wi hP hK (WL_D hD) hS hA hEV)⟩ rfl rfl hl.1 rfl (lv_room (Nat.le_of_ble_eq_true rfl)) dX8_tally_49 ⟨Nat.le_of_ble_eq_true rfl, Nat.le_of_ble_eq_true rfl⟩) (WL_D hD) hS hA (fun E84 H locs hw hP hS => ?_)
              obtain ⟨hI, kq85, hw⟩ := hw
              have hKb := hKp
              have hKp := hKp.tr kq85 (wl_sub rfl rfl)
              obtain ⟨y86, ey86⟩ : ∃ y, xi (E84 3) 6 = y := ⟨_, rfl⟩
              have fy86 : xv (E84 3) 6 = .int y86 := (hI.fi 3 (mF 3 rfl) rfl (Nat.le_of_ble_eq_true rfl) rfl).trans (congrArg Value.int ey86)
              have i87 : -1 ≤ y86.toInt ∧ y86.toInt ≤ 15 := by rw [← ey86]; exact hI.iv 3 (mF 3 rfl) rfl (Nat.le_of_ble_eq_true rfl) rfl
              obtain ⟨y88, ey88⟩ : ∃ y, xi (E84 3) 7 = y := ⟨_, rfl⟩
              have fy88 : xv (E84 3) 7 = .int y88 := (hI.fi 3 (mF 3 rfl) rfl (Nat.le_of_ble_eq_true rfl) rfl).trans (congrArg Value.int ey88)
              have i89 : 0 ≤ y88.toInt ∧ y88.toInt ≤ 16 := by rw [← ey88]; exact hI.iv 3 (mF 3 rfl) rfl (Nat.le_of_ble_eq_true rfl) rfl
              obtain ⟨y90, ey90⟩ : ∃ y, xi (E84 3) 8 = y := ⟨_, rfl⟩
              have fy90 : xv (E84 3) 8 = .int y90 := (hI.fi 3 (mF 3 rfl) rfl (Nat.le_of_ble_eq_true rfl) rfl).trans (congrArg Value.int ey90)
              have i91 : 0 ≤ y90.toInt ∧ y90.toInt ≤ 16 := by rw [← ey90]; exact hI.iv 3 (mF 3 rfl) rfl (Nat.le_of_ble_eq_true rfl) rfl
              have f92 := hw
              have k93 : ShR cf E E84 v35_2 a0 := ShR.k (K64.of hKb (fun o9 ho9 j9 => wl_p rfl rfl ho9)) f92
              refine lv_iconst (v := 0) hx hb dX8_tally_52 (by decide) ?_
              refine lv_istore_n (lv' := [(3, .int 0), (2, .int v35_2), (0, .ref (ad 4)), (1, .int a0)]) hx hb dX8_tally_53 rfl hl (by decide) rfl (fun ls hl => ?_)
              have hL54 : ∀ d : Nat, ∀ (g54_31 : Nat → Int32) (g54_34 : Nat → Int32) (v54_3 : Int32) (E54_ : Nat → va_E) (H : Heap) (locs : List Loc) (ls : Array Slot), 0 ≤ v54_3.toInt ∧ v54_3.toInt ≤ 16 → (∀ b9 : Nat, b9 < (xi (E 1) 1).toNatClampNeg → ((g54_34 b9).toInt = 1 ↔ ScK cf E a0 v35_2.toNatClampNeg b9 ∨ (b9 < v54_3.toNatClampNeg ∧ ScN cf E v35_2 a0 b9))) → (∀ r9 b9 : Nat, r9 < v35_2.toNatClampNeg → b9 < (xi (E 1) 1).toNatClampNeg → PpC cf E (nI r9) a0 b9 (g54_31 (16 * r9 + b9)).toInt) → (∀ b9 : Nat, b9 < v54_3.toNatClampNeg → PpC cf E (nI v35_2.toNatClampNeg) a0 b9 (g54_31 (16 * v35_2.toNatClampNeg + b9)).toInt) → ShR cf E E54_ v35_2 a0 → v54_3.toInt ≤ (xi (E 1) 1).toInt → 16 - v54_3.toInt < (d : Int) → IXL cT (shC cf) (spC cf) (LC cf) ad E54_ → Kp w_tallyX E E54_ → xv (E54_ 4) 2 = .int r6 → xv (E54_ 3) 6 = .int y86 → xv (E54_ 3) 7 = .int y88 → xv (E54_ 3) 8 = .int y90 → xi (E54_ 31) = g54_31 → xi (E54_ 32) = g2 → xi (E54_ 33) = g3 → xi (E54_ 34) = g54_34 → xi (E54_ 35) = g5 → va_P (dC, dI) vwCl (WL (LC cf) ad E54_) H → va_S A s.heap H locs → lv_has ls 6 [(3, .int v54_3), (2, .int v35_2), (0, .ref (ad 4)), (1, .int a0)] → W p l e (headSpec v_tallyX rm_tallyX).room s m args below meth c H locs 0 0 Q (F0 m 54 ls []) := by
                intro d
                induction d with
                | zero =>
                  intro g54_31 g54_34 v54_3 E54_ H locs ls hv54_3 hx54_0 hx54_1 hx54_2 hx54_3 hx54_4 hx54_5 hI hKp hs54_4_2 hs54_3_6 hs54_3_7 hs54_3_8 hr54_31 hr54_32 hr54_33 hr54_34 hr54_35 hP hS hl
                  exact absurd hx54_5 (by first | exact ms_zu hv54_3.2 | omega)
                | succ d ih54 =>
                  intro g54_31 g54_34 v54_3 E54_ H locs ls hv54_3 hx54_0 hx54_1 hx54_2 hx54_3 hx54_4 hx54_5 hI hKp hs54_4_2 hs54_3_6 hs54_3_7 hs54_3_8 hr54_31 hr54_32 hr54_33 hr54_34 hr54_35 hP hS hl
                  refine lv_iload_n hx hb dX8_tally_54 rfl (lv_at hl 0 rfl) ?_
                  refine lv_aload_n hx hb dX8_tally_55 rfl (lv_at hl 2 rfl) ?_
                  refine th_getL (ci := 9) (C := RX8) (T := TX8) (N := 10) (v := .ref (ad 1)) hx hb hts hinX8 hown hK hP hI 4 (mF 4 rfl) rfl rfl 0 (Nat.le_of_ble_eq_true rfl) (hts _ (vA_in _ _ (in_19 _ (zs16 (zs0))))) (fun _ h9 => h9) (hI.fr 4 (mF 4 rfl) rfl (Nat.le_of_ble_eq_true rfl) 1 rfl) dX8_tally_56 ?_
                  have i94 : 0 ≤ (xi (E 1) 1).toInt ∧ (xi (E 1) 1).toInt ≤ 16 := hI0.iv 1 (mF 1 rfl) rfl (Nat.le_of_ble_eq_true rfl) rfl
                  refine th_getL (ci := 1) (C := RX0) (T := TX0) (N := 11) (v := .int (xi (E 1) 1)) hx hb hts hinX0 hown hK hP hI 1 (mF 1 rfl) rfl rfl 1 (Nat.le_of_ble_eq_true rfl) (hts _ (vA_in _ _ (in_21 _ (zs16 (zs4 (zs4 (zs1 (zs1 (zs0))))))))) (fun _ h9 => h9) (th_v0L hKp hI0 1 (mF 1 rfl) rfl (Nat.le_of_ble_eq_true rfl) rfl rfl) dX8_tally_59 ?_
                  refine lv_icmp_ge (tgt := 109) hx hb dX8_tally_62 (by decide) (fun c95 => ?_) (fun c95 => ?_)
                  · --62 taken
                    have t96 : (xi (E 1) 1).toInt ≤ v54_3.toInt := ti_le c95
                    obtain ⟨y97, ey97⟩ : ∃ y : Int32, y = v35_2 + (1 : Int32) := ⟨_, rfl⟩
                    obtain ⟨ty97, iy97⟩ := ti_add (e := 1) (f := 20) i81 ln_1 ey97 (by decide)
                    have ty97 : y97.toInt = v35_2.toInt + 1 := ty97
                    have iy97 : 1 ≤ y97.toInt ∧ y97.toInt ≤ 20 := iy97
                    refine lv_iinc (v := y97) (lv' := [(2, .int y97), (3, .int v54_3), (0, .ref (ad 4)), (1, .int a0)]) hx hb dX8_tally_109 hl (k := 1) rfl (by rw [ey97]; rfl) (by decide) rfl (fun ls hl => ?_)
                    refine lv_goto (tgt := 35) hx hb dX8_tally_112 (by decide) ?_
                    exact ih35 g54_31 g54_34 y97 E54_ _ _ _ (iv_w iy97 (by decide)) (sc_x hx54_0 (show v54_3.toNatClampNeg = (xi (E 1) 1).toNatClampNeg by rw [tn_, tn_]; omega) (by omega) (by omega)) (rb_all (P := (fun r9 b9 z9 => PpC cf E (nI r9) a0 b9 z9.toInt)) hx54_1 hx54_2 (show v54_3.toNatClampNeg = (xi (E 1) 1).toNatClampNeg by rw [tn_, tn_]; omega) (by omega) (by omega)) (by omega) (by first | exact ms_su hx35_3 ty97 (by decide) | omega) hI hKp hs54_4_2 hr54_31 hr54_32 hr54_33 hr54_34 hr54_35 hP hS (lv_sub hl [0, 2, 3] rfl)
                  · --62 not
                    have t98 : v54_3.toInt < (xi (E 1) 1).toInt := ti_nle c95
                    have i99 : 0 ≤ v54_3.toInt ∧ v54_3.toInt ≤ 15 := iv_lt_l t98 hv54_3 i94 (by decide)
                    have i100 : 1 ≤ (xi (E 1) 1).toInt ∧ (xi (E 1) 1).toInt ≤ 16 := iv_lt_r t98 hv54_3 i94 (by decide)
                    refine lv_aload_n hx hb dX8_tally_65 rfl (lv_at hl 2 rfl) ?_
                    refine th_getL (ci := 9) (C := RX8) (T := TX8) (N := 10) (v := .ref (ad 3)) hx hb hts hinX8 hown hK hP hI 4 (mF 4 rfl) rfl rfl 1 (Nat.le_of_ble_eq_true rfl) (hts _ (vA_in _ _ (in_19 _ (zs16 (zs1 (zs0)))))) (fun _ h9 => h9) (hI.fr 4 (mF 4 rfl) rfl (Nat.le_of_ble_eq_true rfl) 3 rfl) dX8_tally_66 ?_
                    refine th_getL (ci := 10) (C := RX9) (T := TX9) (N := 9) (v := .ref (ad 26)) hx hb hts hinX9 hown hK hP hI 3 (mF 3 rfl) rfl rfl 1 (Nat.le_of_ble_eq_true rfl) (hts _ (vA_in _ _ (in_21 _ (zs16 (zs4 (zs4 (zs1 (zs1 (zs1 (zs0)))))))))) (fun _ h9 => h9) (hI.fr 3 (mF 3 rfl) rfl (Nat.le_of_ble_eq_true rfl) 26 rfl) dX8_tally_69 ?_
                    refine lv_iload_n hx hb dX8_tally_72 rfl (lv_at hl 0 rfl) ?_
                    have n102 : vp_in v54_3 16 := (iv_in (n := 16) i99 (by decide))
                    refine th_ialdL hx hb hK hP hI 26 (mF 26 rfl) rfl rfl n102 dX8_tally_73 (fun y101 ey101 => ?_)
                    have iy101 : -1 ≤ y101.toInt ∧ y101.toInt ≤ 5 := hI.el 26 (mF 26 rfl) rfl n102 (fun _ => rfl) ey101
                    have k103 : CdR cf E v35_2 a0 v54_3.toNatClampNeg y101.toInt := by rw [ey101]; exact (hx54_3.1 _ (by rw [tn_]; omega)).1
                    refine lv_iconst (v := -1) hx hb dX8_tally_74 (by decide) ?_
                    refine lv_icmp_eq (tgt := 85) hx hb dX8_tally_75 (by decide) (fun c104 => ?_) (fun c104 => ?_)
                    · --75 taken
                      have t105 : y101.toInt = -1 := ti_eq c104
                      have i106 : -1 ≤ y101.toInt ∧ y101.toInt ≤ -1 := iv_eqi t105 iy101 (il_ (-1)) (by decide)
                      have k107 : ShR cf E E54_ v35_2 a0 := hx54_3.cu (ShS.rf)
                      refine lv_aload_n hx hb dX8_tally_85 rfl (lv_at hl 2 rfl) ?_
                      refine th_getL (ci := 9) (C := RX8) (T := TX8) (N := 10) (v := .ref (ad 31)) hx hb hts hinX8 hown hK hP hI 4 (mF 4 rfl) rfl rfl 3 (Nat.le_of_ble_eq_true rfl) (hts _ (vA_in _ _ (in_19 _ (zs4 (zs4 (zs0)))))) (fun _ h9 => h9) (hI.fr 4 (mF 4 rfl) rfl (Nat.le_of_ble_eq_true rfl) 31 rfl) dX8_tally_86 ?_
                      refine lv_iload_n hx hb dX8_tally_89 rfl (lv_at hl 1 rfl) ?_
                      refine lv_iload_n hx hb dX8_tally_90 rfl (lv_at hl 0 rfl) ?_
                      refine th_pi (va_runSN (As := [.int v35_2, .int v54_3]) (rest := [.ref (ad 31)]) ⟨hx, hb, hml, hown, hts⟩ (q_ccell l v35_2 v54_3 i81 i99) ⟨va_cnB 2 hts (gi_0 (in_10 _ (zs16 (zs4 (zs0))))) rfl rfl rfl (hEV.1.1 _ (List.mem_of_getElem? (i := 10) rfl)) (hts _ (vA_in _ _ (in_4 _ (zs16 (zs4 (zs1 (zs1 (zs1 (zs0))))))))) hz_yX12_cell_2 ⟨Nat.le_of_ble_eq_true rfl, Nat.le_of_ble_eq_true rfl⟩, (hts _ (vA_in _ _ (in_13 _ (zs1 (zs0))))), trivial⟩ ⟨fun _ _ _ _ q => q, fun _ _ _ => ⟨rfl, trivial⟩⟩ rfl rfl hl.1 rfl (lv_room (Nat.le_of_ble_eq_true rfl)) dX8_tally_91 ⟨Nat.le_of_ble_eq_true rfl, Nat.le_of_ble_eq_true rfl⟩) hS (fun r108 H1 locs1 hw hk1 hS => ?_)
                      have hP := ub_keep hP hk1
                      generalize H1 = H at hP hS ⊢
                      generalize locs1 = locs at hS ⊢
                      obtain ⟨f109, f110⟩ := hw
                      refine lv_aload_n hx hb dX8_tally_94 rfl (lv_at hl 2 rfl) ?_
                      refine th_getL (ci := 9) (C := RX8) (T := TX8) (N := 10) (v := .ref (ad 3)) hx hb hts hinX8 hown hK hP hI 4 (mF 4 rfl) rfl rfl 1 (Nat.le_of_ble_eq_true rfl) (hts _ (vA_in _ _ (in_19 _ (zs16 (zs1 (zs0)))))) (fun _ h9 => h9) (hI.fr 4 (mF 4 rfl) rfl (Nat.le_of_ble_eq_true rfl) 3 rfl) dX8_tally_95 ?_
                      refine lv_iload_n hx hb dX8_tally_98 rfl (lv_at hl 0 rfl) ?_
                      refine th_iL (va_runV (As := [.int v54_3]) (rest := [.int r108, .ref (ad 31)]) ⟨hx, hb, hml, hown, hts⟩ (q_plainPointsX l dC dI cT cf hC ad E54_ H.size v54_3 hI i99 (by exact lawC_lt hC k107.2.1) (by exact (fun i9 hi9 => (hh0 i9 hi9).cg (kp_rul hKp (fun o9 ho9 j9 => wl_p rfl rfl ho9) i9)))) (cwV 1 hts (gi_V (in_20 _ (zs16 (zs4 (zs0)))) (in_20 _ (zs16 (zs4 (zs1 (zs0))))) (in_20 _ (zs16 (zs4 (zs1 (zs1 (zs0)))))) (in_11 _ (zs16 (zs16 (zs4 (zs1 (zs0)))))) (in_20 _ (zs16 (zs4 (zs1 (zs1 (zs1 (zs0)))))))) rfl rfl rfl ⟨rfl, hz_yX9_plainPointsOf_1⟩ ⟨Nat.le_of_ble_eq_true rfl, Nat.le_of_ble_eq_true rfl⟩) ⟨HWL_bl, va_recv hK hP (ci := 10) (q0 := posL 3 (LC cf)) rfl (hI.ob 3 (mF 3 rfl) rfl), (HWL_wi hP hK (WL_D hD) hS hA hEV)⟩ rfl rfl hl.1 rfl (lv_room (Nat.le_of_ble_eq_true rfl)) dX8_tally_99 ⟨Nat.le_of_ble_eq_true rfl, Nat.le_of_ble_eq_true rfl⟩) (WL_D hD) hS hA (fun r111 E112 H locs hw hP hS => ?_)
                      obtain ⟨hI, kq113, hw⟩ := hw
                      have hKb := hKp
                      have hKp := hKp.tr kq113 (wl_sub rfl rfl)
                      obtain ⟨f114, f115⟩ := hw
                      have k116 : PpC cf E (nI v35_2.toNatClampNeg) a0 v54_3.toNatClampNeg r111.toInt := by rw [nI_tn (show 0 ≤ v35_2.toInt by omega)]; refine PpC.of k107 (by rw [tn_]; omega) (f115.trans ?_); rw [wV_cg (E := E) (fun i9 t9 h9 g9 j9 => kp_rul hKb (fun o9 ho9 j9 => wl_p rfl rfl ho9) i9 t9 h9 g9 j9)]
                      have n117 : vp_in r108 320 := (iv_in (n := 320) f109 (by decide))
                      refine th_iastL hx hb hK hP (WL_D hD) hS hI 31 (mF 31 rfl) rfl rfl n117 (okI rfl f114) dX8_tally_102 (fun H locs E118 pw119 hI hP hS => ?_)
                      have hKp := hKp.pw pw119 rfl
                      obtain ⟨g120, eg120⟩ : ∃ z : Nat → Int32, z = upd g54_31 r108.toNatClampNeg r111 := ⟨_, rfl⟩
                      have hg120 : xi (E118 31) = g120 := by rw [pw119.eu, ((kq113.ef 31 (fun _ => rfl)).trans hr54_31), eg120]
                      obtain ⟨y121, ey121⟩ : ∃ y : Int32, y = v54_3 + (1 : Int32) := ⟨_, rfl⟩
                      obtain ⟨ty121, iy121⟩ := ti_add (e := 1) (f := 16) i99 ln_1 ey121 (by decide)
                      have ty121 : y121.toInt = v54_3.toInt + 1 := ty121
                      have iy121 : 1 ≤ y121.toInt ∧ y121.toInt ≤ 16 := iy121
                      refine lv_iinc (v := y121) (lv' := [(3, .int y121), (2, .int v35_2), (0, .ref (ad 4)), (1, .int a0)]) hx hb dX8_tally_103 hl (k := 0) rfl (by rw [ey121]; rfl) (by decide) rfl (fun ls hl => ?_)
                      refine lv_goto (tgt := 54) hx hb dX8_tally_106 (by decide) ?_
                      exact ih54 g120 g54_34 y121 E118 _ _ _ (iv_w iy121 (by decide)) (sc_n (A := (ScK cf E a0 v35_2.toNatClampNeg)) (B := (ScN cf E v35_2 a0)) hx54_0 (fun ⟨c9, h8, h9⟩ => h9 (by rw [← CdR.fn k103 h8]; omega)) (by omega) (by omega)) (rb_old (P := (fun r9 b9 z9 => PpC cf E (nI r9) a0 b9 z9.toInt)) hx54_1 eg120 (show r108.toNatClampNeg = 16 * v35_2.toNatClampNeg + v54_3.toNatClampNeg by rw [tn_ r108, tn_ v35_2, tn_ v54_3]; omega) hN16 (by rw [tn_]; omega)) (rb_new (P := (fun b9 z9 => PpC cf E (nI v35_2.toNatClampNeg) a0 b9 z9.toInt)) hx54_2 eg120 (show r108.toNatClampNeg = 16 * v35_2.toNatClampNeg + v54_3.toNatClampNeg by rw [tn_ r108, tn_ v35_2, tn_ v54_3]; omega) k116 (by omega) (by omega)) (hx54_3.cu ((ShS.rf).tr ((ShS.kp kq113 (fun o9 ho9 j9 => by simp only [List.mem_cons, List.not_mem_nil, or_false] at ho9; rcases ho9 with rfl | rfl | rfl | rfl | rfl <;> rfl) rfl rfl rfl).tr (ShS.pw pw119 (by decide))))) (by omega) (by first | exact ms_su hx54_5 ty121 (by decide) | omega) hI hKp ((pw119.2 4 2 (fun q9 => absurd q9.1 (Nat.ne_of_beq_eq_false rfl))).trans ((kq113 4 2 rfl).trans hs54_4_2)) ((pw119.2 3 6 (fun q9 => absurd q9.1 (Nat.ne_of_beq_eq_false rfl))).trans ((kq113 3 6 rfl).trans hs54_3_6)) ((pw119.2 3 7 (fun q9 => absurd q9.1 (Nat.ne_of_beq_eq_false rfl))).trans ((kq113 3 7 rfl).trans hs54_3_7)) ((pw119.2 3 8 (fun q9 => absurd q9.1 (Nat.ne_of_beq_eq_false rfl))).trans ((kq113 3 8 rfl).trans hs54_3_8)) hg120 ((pw119.ef 32 (Nat.ne_of_beq_eq_false rfl)).trans ((kq113.ef 32 (fun _ => rfl)).trans hr54_32)) ((pw119.ef 33 (Nat.ne_of_beq_eq_false rfl)).trans ((kq113.ef 33 (fun _ => rfl)).trans hr54_33)) ((pw119.ef 34 (Nat.ne_of_beq_eq_false rfl)).trans ((kq113.ef 34 (fun _ => rfl)).trans hr54_34)) ((pw119.ef 35 (Nat.ne_of_beq_eq_false rfl)).trans ((kq113.ef 35 (fun _ => rfl)).trans hr54_35)) hP hS (lv_sub hl [0, 1, 2, 3] rfl)
                    · --75 not
                      have t122 : ¬ y101.toInt = -1 := ti_ne c104
                      have i123 : 0 ≤ y101.toInt ∧ y101.toInt ≤ 5 := iv_ne_l t122 iy101 (il_ (-1))
                      refine lv_aload_n hx hb dX8_tally_78 rfl (lv_at hl 2 rfl) ?_
                      refine th_getL (ci := 9) (C := RX8) (T := TX8) (N := 10) (v := .ref (ad 34)) hx hb hts hinX8 hown hK hP hI 4 (mF 4 rfl) rfl rfl 6 (Nat.le_of_ble_eq_true rfl) (hts _ (vA_in _ _ (in_19 _ (zs4 (zs4 (zs4 (zs0))))))) (fun _ h9 => h9) (hI.fr 4 (mF 4 rfl) rfl (Nat.le_of_ble_eq_true rfl) 34 rfl) dX8_tally_79 ?_
                      refine lv_iload_n hx hb dX8_tally_82 rfl (lv_at hl 0 rfl) ?_
                      refine lv_iconst (v := 1) hx hb dX8_tally_83 (by decide) ?_
                      have n124 : vp_in v54_3 16 := (iv_in (n := 16) i99 (by decide))
                      refine th_zastL hx hb hK hP (WL_D hD) hS hI 34 (mF 34 rfl) rfl rfl n124 (iv_w ln_1 (by decide)) (okI rfl (iv_w ln_1 (by decide))) dX8_tally_84 (fun H locs E125 pw126 hI hP hS => ?_)
                      have hKp := hKp.pw pw126 rfl
                      obtain ⟨g127, eg127⟩ : ∃ z : Nat → Int32, z = upd g54_34 v54_3.toNatClampNeg (1 : Int32) := ⟨_, rfl⟩
                      have hg127 : xi (E125 34) = g127 := by rw [pw126.eu, hr54_34, eg127]
                      have k128 : ShR cf E E125 v35_2 a0 := hx54_3.cu (ShS.pw pw126 (by decide))
                      refine lv_aload_n hx hb dX8_tally_85 rfl (lv_at hl 2 rfl) ?_
                      refine th_getL (ci := 9) (C := RX8) (T := TX8) (N := 10) (v := .ref (ad 31)) hx hb hts hinX8 hown hK hP hI 4 (mF 4 rfl) rfl rfl 3 (Nat.le_of_ble_eq_true rfl) (hts _ (vA_in _ _ (in_19 _ (zs4 (zs4 (zs0)))))) (fun _ h9 => h9) (hI.fr 4 (mF 4 rfl) rfl (Nat.le_of_ble_eq_true rfl) 31 rfl) dX8_tally_86 ?_
                      refine lv_iload_n hx hb dX8_tally_89 rfl (lv_at hl 1 rfl) ?_
                      refine lv_iload_n hx hb dX8_tally_90 rfl (lv_at hl 0 rfl) ?_
                      refine th_pi (va_runSN (As := [.int v35_2, .int v54_3]) (rest := [.ref (ad 31)]) ⟨hx, hb, hml, hown, hts⟩ (q_ccell l v35_2 v54_3 i81 i99) ⟨va_cnB 2 hts (gi_0 (in_10 _ (zs16 (zs4 (zs0))))) rfl rfl rfl (hEV.1.1 _ (List.mem_of_getElem? (i := 10) rfl)) (hts _ (vA_in _ _ (in_4 _ (zs16 (zs4 (zs1 (zs1 (zs1 (zs0))))))))) hz_yX12_cell_2 ⟨Nat.le_of_ble_eq_true rfl, Nat.le_of_ble_eq_true rfl⟩, (hts _ (vA_in _ _ (in_13 _ (zs1 (zs0))))), trivial⟩ ⟨fun _ _ _ _ q => q, fun _ _ _ => ⟨rfl, trivial⟩⟩ rfl rfl hl.1 rfl (lv_room (Nat.le_of_ble_eq_true rfl)) dX8_tally_91 ⟨Nat.le_of_ble_eq_true rfl, Nat.le_of_ble_eq_true rfl⟩) hS (fun r129 H1 locs1 hw hk1 hS => ?_)
                      have hP := ub_keep hP hk1
                      generalize H1 = H at hP hS ⊢
                      generalize locs1 = locs at hS ⊢
                      obtain ⟨f130, f131⟩ := hw
                      refine lv_aload_n hx hb dX8_tally_94 rfl (lv_at hl 2 rfl) ?_
                      refine th_getL (ci := 9) (C := RX8) (T := TX8) (N := 10) (v := .ref (ad 3)) hx hb hts hinX8 hown hK hP hI 4 (mF 4 rfl) rfl rfl 1 (Nat.le_of_ble_eq_true rfl) (hts _ (vA_in _ _ (in_19 _ (zs16 (zs1 (zs0)))))) (fun _ h9 => h9) (hI.fr 4 (mF 4 rfl) rfl (Nat.le_of_ble_eq_true rfl) 3 rfl) dX8_tally_95 ?_
                      refine lv_iload_n hx hb dX8_tally_98 rfl (lv_at hl 0 rfl) ?_
                      refine th_iL (va_runV (As := [.int v54_3]) (rest := [.int r129, .ref (ad 31)]) ⟨hx, hb, hml, hown, hts⟩ (q_plainPointsX l dC dI cT cf hC ad E125 H.size v54_3 hI i99 (by exact lawC_lt hC k128.2.1) (by exact (fun i9 hi9 => (hh0 i9 hi9).cg (kp_rul hKp (fun o9 ho9 j9 => wl_p rfl rfl ho9) i9)))) (cwV 1 hts (gi_V (in_20 _ (zs16 (zs4 (zs0)))) (in_20 _ (zs16 (zs4 (zs1 (zs0))))) (in_20 _ (zs16 (zs4 (zs1 (zs1 (zs0)))))) (in_11 _ (zs16 (zs16 (zs4 (zs1 (zs0)))))) (in_20 _ (zs16 (zs4 (zs1 (zs1 (zs1 (zs0)))))))) rfl rfl rfl ⟨rfl, hz_yX9_plainPointsOf_1⟩ ⟨Nat.le_of_ble_eq_true rfl, Nat.le_of_ble_eq_true rfl⟩) ⟨HWL_bl, va_recv hK hP (ci := 10) (q0 := posL 3 (LC cf)) rfl (hI.ob 3 (mF 3 rfl) rfl), (HWL_wi hP hK (WL_D hD) hS hA hEV)⟩ rfl rfl hl.1 rfl (lv_room (Nat.le_of_ble_eq_true rfl)) dX8_tally_99 ⟨Nat.le_of_ble_eq_true rfl, Nat.le_of_ble_eq_true rfl⟩) (WL_D hD) hS hA (fun r132 E133 H locs hw hP hS => ?_)
                      obtain ⟨hI, kq134, hw⟩ := hw
                      have hKb := hKp
                      have hKp := hKp.tr kq134 (wl_sub rfl rfl)
                      obtain ⟨f135, f136⟩ := hw
                      have k137 : PpC cf E (nI v35_2.toNatClampNeg) a0 v54_3.toNatClampNeg r132.toInt := by rw [nI_tn (show 0 ≤ v35_2.toInt by omega)]; refine PpC.of k128 (by rw [tn_]; omega) (f136.trans ?_); rw [wV_cg (E := E) (fun i9 t9 h9 g9 j9 => kp_rul hKb (fun o9 ho9 j9 => wl_p rfl rfl ho9) i9 t9 h9 g9 j9)]
                      have n138 : vp_in r129 320 := (iv_in (n := 320) f130 (by decide))
                      refine th_iastL hx hb hK hP (WL_D hD) hS hI 31 (mF 31 rfl) rfl rfl n138 (okI rfl f135) dX8_tally_102 (fun H locs E139 pw140 hI hP hS => ?_)
                      have hKp := hKp.pw pw140 rfl
                      obtain ⟨g141, eg141⟩ : ∃ z : Nat → Int32, z = upd g54_31 r129.toNatClampNeg r132 := ⟨_, rfl⟩
                      have hg141 : xi (E139 31) = g141 := by rw [pw140.eu, ((kq134.ef 31 (fun _ => rfl)).trans ((pw126.ef 31 (Nat.ne_of_beq_eq_false rfl)).trans hr54_31)), eg141]
                      obtain ⟨y142, ey142⟩ : ∃ y : Int32, y = v54_3 + (1 : Int32) := ⟨_, rfl⟩
                      obtain ⟨ty142, iy142⟩ := ti_add (e := 1) (f := 16) i99 ln_1 ey142 (by decide)
                      have ty142 : y142.toInt = v54_3.toInt + 1 := ty142
                      have iy142 : 1 ≤ y142.toInt ∧ y142.toInt ≤ 16 := iy142
                      refine lv_iinc (v := y142) (lv' := [(3, .int y142), (2, .int v35_2), (0, .ref (ad 4)), (1, .int a0)]) hx hb dX8_tally_103 hl (k := 0) rfl (by rw [ey142]; rfl) (by decide) rfl (fun ls hl => ?_)
                      refine lv_goto (tgt := 54) hx hb dX8_tally_106 (by decide) ?_
                      exact ih54 g141 g127 y142 E139 _ _ _ (iv_w iy142 (by decide)) (sc_y (A := (ScK cf E a0 v35_2.toNatClampNeg)) (B := (ScN cf E v35_2 a0)) hx54_0 eg127 ⟨_, k103, by omega⟩ (by omega) (by omega)) (rb_old (P := (fun r9 b9 z9 => PpC cf E (nI r9) a0 b9 z9.toInt)) hx54_1 eg141 (show r129.toNatClampNeg = 16 * v35_2.toNatClampNeg + v54_3.toNatClampNeg by rw [tn_ r129, tn_ v35_2, tn_ v54_3]; omega) hN16 (by rw [tn_]; omega)) (rb_new (P := (fun b9 z9 => PpC cf E (nI v35_2.toNatClampNeg) a0 b9 z9.toInt)) hx54_2 eg141 (show r129.toNatClampNeg = 16 * v35_2.toNatClampNeg + v54_3.toNatClampNeg by rw [tn_ r129, tn_ v35_2, tn_ v54_3]; omega) k137 (by omega) (by omega)) (hx54_3.cu ((ShS.pw pw126 (by decide)).tr ((ShS.kp kq134 (fun o9 ho9 j9 => by simp only [List.mem_cons, List.not_mem_nil, or_false] at ho9; rcases ho9 with rfl | rfl | rfl | rfl | rfl <;> rfl) rfl rfl rfl).tr (ShS.pw pw140 (by decide))))) (by omega) (by first | exact ms_su hx54_5 ty142 (by decide) | omega) hI hKp ((pw140.2 4 2 (fun q9 => absurd q9.1 (Nat.ne_of_beq_eq_false rfl))).trans ((kq134 4 2 rfl).trans ((pw126.2 4 2 (fun q9 => absurd q9.1 (Nat.ne_of_beq_eq_false rfl))).trans hs54_4_2))) ((pw140.2 3 6 (fun q9 => absurd q9.1 (Nat.ne_of_beq_eq_false rfl))).trans ((kq134 3 6 rfl).trans ((pw126.2 3 6 (fun q9 => absurd q9.1 (Nat.ne_of_beq_eq_false rfl))).trans hs54_3_6))) ((pw140.2 3 7 (fun q9 => absurd q9.1 (Nat.ne_of_beq_eq_false rfl))).trans ((kq134 3 7 rfl).trans ((pw126.2 3 7 (fun q9 => absurd q9.1 (Nat.ne_of_beq_eq_false rfl))).trans hs54_3_7))) ((pw140.2 3 8 (fun q9 => absurd q9.1 (Nat.ne_of_beq_eq_false rfl))).trans ((kq134 3 8 rfl).trans ((pw126.2 3 8 (fun q9 => absurd q9.1 (Nat.ne_of_beq_eq_false rfl))).trans hs54_3_8))) hg141 ((pw140.ef 32 (Nat.ne_of_beq_eq_false rfl)).trans ((kq134.ef 32 (fun _ => rfl)).trans ((pw126.ef 32 (Nat.ne_of_beq_eq_false rfl)).trans hr54_32))) ((pw140.ef 33 (Nat.ne_of_beq_eq_false rfl)).trans ((kq134.ef 33 (fun _ => rfl)).trans ((pw126.ef 33 (Nat.ne_of_beq_eq_false rfl)).trans hr54_33))) ((pw140.ef 34 (Nat.ne_of_beq_eq_false rfl)).trans ((kq134.ef 34 (fun _ => rfl)).trans hg127)) ((pw140.ef 35 (Nat.ne_of_beq_eq_false rfl)).trans ((kq134.ef 35 (fun _ => rfl)).trans ((pw126.ef 35 (Nat.ne_of_beq_eq_false rfl)).trans hr54_35))) hP hS (lv_sub hl [0, 1, 2, 3] rfl)
              exact hL54 (17) g35_31 g35_34 (0 : Int32) E84 _ _ _ (iv_w ln_0 (by decide)) (sc_in hx35_0) hx35_1 (fun b9 h9 => absurd h9 (Nat.not_lt_zero b9)) k93 (by omega) (by have h9 := ln_0; first | exact ms_bu h9.1 (by decide) | omega) hI hKp ((kq85 4 2 rfl).trans hs35_4_2) fy86 fy88 fy90 ((kq85.ef 31 (fun _ => rfl)).trans hr35_31) ((kq85.ef 32 (fun _ => rfl)).trans hr35_32) ((kq85.ef 33 (fun _ => rfl)).trans hr35_33) ((kq85.ef 34 (fun _ => rfl)).trans hr35_34) ((kq85.ef 35 (fun _ => rfl)).trans hr35_35) hP hS (lv_sub hl [0, 1, 2, 3] rfl)
        exact hL35 (21) g1 g14_34 (0 : Int32) E14_ _ _ _ (iv_w ln_0 (by decide)) (sc_0 hN16 (fun b9 h9 => hx14_0 b9 (by rw [tn_]; omega))) (fun r9 b9 h9 => absurd h9 (Nat.not_lt_zero r9)) (by omega) (by have h9 := ln_0; first | exact ms_bu h9.1 (by decide) | omega) hI hKp hs14_4_2 hr14_31 hr14_32 hr14_33 hr14_34 hr14_35 hP hS (lv_sub hl [0, 1, 2] rfl)
      · --17 not
        have t143 : v14_2.toInt < 16 := ti_nle c12
        have i144 : 0 ≤ v14_2.toInt ∧ v14_2.toInt ≤ 15 := iv_lt_l t143 hv14_2 (il_ 16) (by decide)
        refine lv_aload_n hx hb dX8_tally_20 rfl (lv_at hl 1 rfl) ?_
        refine th_getL (ci := 9) (C := RX8) (T := TX8) (N := 10) (v := .ref (ad 34)) hx hb hts hinX8 hown hK hP hI 4 (mF 4 rfl) rfl rfl 6 (Nat.le_of_ble_eq_true rfl) (hts _ (vA_in _ _ (in_19 _ (zs4 (zs4 (zs4 (zs0))))))) (fun _ h9 => h9) (hI.fr 4 (mF 4 rfl) rfl (Nat.le_of_ble_eq_true rfl) 34 rfl) dX8_tally_21 ?_
        refine lv_iload_n hx hb dX8_tally_24 rfl (lv_at hl 0 rfl) ?_
        refine lv_iconst (v := 0) hx hb dX8_tally_25 (by decide) ?_
        have n145 : vp_in v14_2 16 := (iv_in (n := 16) i144 (by decide))
        refine th_zastL hx hb hK hP (WL_D hD) hS hI 34 (mF 34 rfl) rfl rfl n145 (iv_w ln_0 (by decide)) (okI rfl (iv_w ln_0 (by decide))) dX8_tally_26 (fun H locs E146 pw147 hI hP hS => ?_)
        have hKp := hKp.pw pw147 rfl
        obtain ⟨g148, eg148⟩ : ∃ z : Nat → Int32, z = upd g14_34 v14_2.toNatClampNeg (0 : Int32) := ⟨_, rfl⟩
        have hg148 : xi (E146 34) = g148 := by rw [pw147.eu, hr14_34, eg148]
        obtain ⟨y149, ey149⟩ : ∃ y : Int32, y = v14_2 + (1 : Int32) := ⟨_, rfl⟩
        obtain ⟨ty149, iy149⟩ := ti_add (e := 1) (f := 16) i144 ln_1 ey149 (by decide)
        have ty149 : y149.toInt = v14_2.toInt + 1 := ty149
        have iy149 : 1 ≤ y149.toInt ∧ y149.toInt ≤ 16 := iy149
        refine lv_iinc (v := y149) (lv' := [(2, .int y149), (0, .ref (ad 4)), (1, .int a0)]) hx hb dX8_tally_27 hl (k := 0) rfl (by rw [ey149]; rfl) (by decide) rfl (fun ls hl => ?_)
        refine lv_goto (tgt := 14) hx hb dX8_tally_30 (by decide) ?_
        exact ih14 g148 y149 E146 _ _ _ (iv_w iy149 (by decide)) (up_s (P := fun _ z9 => z9 = 0) hx14_0 eg148 rfl (by omega) (by omega)) (by first | exact ms_su hx14_1 ty149 (by decide) | omega) hI hKp ((pw147.2 4 2 (fun q9 => absurd q9.1 (Nat.ne_of_beq_eq_false rfl))).trans hs14_4_2) ((pw147.ef 31 (Nat.ne_of_beq_eq_false rfl)).trans hr14_31) ((pw147.ef 32 (Nat.ne_of_beq_eq_false rfl)).trans hr14_32) ((pw147.ef 33 (Nat.ne_of_beq_eq_false rfl)).trans hr14_33) hg148 ((pw147.ef 35 (Nat.ne_of_beq_eq_false rfl)).trans hr14_35) hP hS (lv_sub hl [0, 1, 2] rfl)
  exact hL14 (17) g4 (0 : Int32) E10 _ _ _ (iv_w ln_0 (by decide)) (fun b9 h9 => absurd h9 (Nat.not_lt_zero b9)) (by have h9 := ln_0; first | exact ms_bu h9.1 (by decide) | omega) hI hKp pw11.1 ((pw11.ef 31 (Nat.ne_of_beq_eq_false rfl)).trans hg1) ((pw11.ef 32 (Nat.ne_of_beq_eq_false rfl)).trans hg2) ((pw11.ef 33 (Nat.ne_of_beq_eq_false rfl)).trans hg3) ((pw11.ef 34 (Nat.ne_of_beq_eq_false rfl)).trans hg4) ((pw11.ef 35 (Nat.ne_of_beq_eq_false rfl)).trans hg5) hP hS (lv_sub hl [0, 1, 2] rfl)
def v_u_thrownX : List Cond := .code yX12_thrown cX12_thrown 4 (some .int) :: vA
abbrev rm_u_thrownX : Room := { frames := 7, cells := 0, slots := 0, locals := 280 }
def w_u_thrownX : Nat → Nat → Bool := wl [19, 20, 26, 27, 28, 29, 30, 31, 32, 33, 34, 35] [(3, 6), (3, 7), (3, 8), (4, 2)]
set_option maxHeartbeats 4000000 in
set_option maxRecDepth 100000 in
theorem q_u_thrownX (l : Launch) (dC : Nat → ClassId) (dI : Nat → Nat → Nat) (cT : Nat → ClassId) (cf : Nat → Nat) (hC : CF cf) (ad : Nat → Nat) (E : Nat → va_E) (sz : Nat) (a0 : Int32) (a1 : Int32) (a2 : Int32) (hI0 : IXL cT (shC cf) (spC cf) (LC cf) ad E) (hh0 : RulAll cf E) : Met l yX12_thrown v_u_thrownX rm_u_thrownX (va_Pc [.ref (ad 0), .int a0, .int a1, .int a2] (HWL dC dI (TYC cT) cf ad E sz)) (va_Qi (S := Nat → va_E) (fun r u => IXL cT (shC cf) (spC cf) (LC cf) ad u ∧ Kp w_u_thrownX E u ∧ (((((((0 ≤ a2.toInt ∧ a2.toInt ≤ (xi (E 1) 0).toInt) ∧ (0 ≤ a0.toInt ∧ a0.toInt < ((cf 2 : Nat) : Int)) ∧ (xi (E (64 * (a0.toNatClampNeg + 1) + 6)) 0).toInt ≤ a2.toInt) ∧ (0 ≤ a1.toInt ∧ a1.toInt < (xi (E 1) 1).toInt)) → (∃ (K9 o9 : Int32) (P9 T9 S9 O9 : Nat → Int32), TaX cf E a2 K9 o9 P9 T9 S9 O9 ∧ ((S9 a1.toNatClampNeg).toInt = 1 → r = T9 (16 * a0.toNatClampNeg + a1.toNatClampNeg)) ∧ (¬ (S9 a1.toNatClampNeg).toInt = 1 → r = -1))) ∧ (¬ (((0 ≤ a2.toInt ∧ a2.toInt ≤ (xi (E 1) 0).toInt) ∧ (0 ≤ a0.toInt ∧ a0.toInt < ((cf 2 : Nat) : Int)) ∧ (xi (E (64 * (a0.toNatClampNeg + 1) + 6)) 0).toInt ≤ a2.toInt) ∧ (0 ≤ a1.toInt ∧ a1.toInt < (xi (E 1) 1).toInt)) → (r = -1)))))) (HBL dC dI (LC cf) ad) (va_A (WL (LC cf) ad E) sz)) 0 0 (va_A (WL (LC cf) ad E) sz) := by
  obtain ⟨⟨hc0, hc1, hc2, hc3, hc4, hc5⟩, hcr⟩ := id hC
  refine Met.ofW (cc := cX12_thrown) (maxL := 4) (ret := (some .int)) (by decide) rfl ?_
  intro p e s m args below meth c s₁ B hml hv
  obtain ⟨hargs, hsz, hP, hK, hD0, hEV⟩ := hv
  subst hsz
  have hx := B.exec
  have hb := B.bytes
  have hr := B.returns
  have hts := atoms_spec (ws := v_u_thrownX) B.pre
  have hown : s.vm.findClass RX12 = some m.cls := findClass_of_methodNamed B.named
  have hlocks := B.notSynchronized
  have hinX12 : ∀ w ∈ u_ws RX12 TX12 6, w ∈ v_u_thrownX := fun w h => vA_in _ w (in_X12 w h)
  have hinX8 : ∀ w ∈ u_ws RX8 TX8 10, w ∈ v_u_thrownX := fun w h => vA_in _ w (in_X8 w h)
  generalize hAe : va_A (WL (LC cf) ad E) s.heap.size = A at hEV ⊢
  have hA : ∀ q : Nat, s.heap.size ≤ q → A q := fun q h => by rw [← hAe]; exact Or.inr h
  have hD : va_D A (WL (LC cf) ad E) := by rw [← hAe]; exact hD0.self
  have hS : va_S A s.heap s.heap [] := va_S.rf
  have hI := hI0
  have hKp : Kp w_u_thrownX E E := Kp.rf
  have hl := lv_entry ([.ref (ad 0), .int a0, .int a1, .int a2]) (n := 4) (Nat.le_of_ble_eq_true rfl)
  obtain ⟨Q, hQ⟩ : ∃ Q, Q = MQ below (va_Qi (S := Nat → va_E) (fun r u => IXL cT (shC cf) (spC cf) (LC cf) ad u ∧ Kp w_u_thrownX E u ∧ (((((((0 ≤ a2.toInt ∧ a2.toInt ≤ (xi (E 1) 0).toInt) ∧ (0 ≤ a0.toInt ∧ a0.toInt < ((cf 2 : Nat) : Int)) ∧ (xi (E (64 * (a0.toNatClampNeg + 1) + 6)) 0).toInt ≤ a2.toInt) ∧ (0 ≤ a1.toInt ∧ a1.toInt < (xi (E 1) 1).toInt)) → (∃ (K9 o9 : Int32) (P9 T9 S9 O9 : Nat → Int32), TaX cf E a2 K9 o9 P9 T9 S9 O9 ∧ ((S9 a1.toNatClampNeg).toInt = 1 → r = T9 (16 * a0.toNatClampNeg + a1.toNatClampNeg)) ∧ (¬ (S9 a1.toNatClampNeg).toInt = 1 → r = -1))) ∧ (¬ (((0 ≤ a2.toInt ∧ a2.toInt ≤ (xi (E 1) 0).toInt) ∧ (0 ≤ a0.toInt ∧ a0.toInt < ((cf 2 : Nat) : Int)) ∧ (xi (E (64 * (a0.toNatClampNeg + 1) + 6)) 0).toInt ≤ a2.toInt) ∧ (0 ≤ a1.toInt ∧ a1.toInt < (xi (E 1) 1).toInt)) → (r = -1)))))) (HBL dC dI (LC cf) ad) (A)) args s 0 0 (A) := ⟨_, rfl⟩
  rw [← hQ, show entryFrame m args 4 = _ from (congrArg (fun z => entryFrame m z 4) hargs).trans (lg_entry_eq _ _ _)]
  generalize (lg_sl ([.ref (ad 0), .int a0, .int a1, .int a2]) ++ List.replicate (4 - (lg_sl ([.ref (ad 0), .int a0, .int a1, .int a2])).length) Slot.unset).toArray = ls at hl ⊢
  have hl : lv_has ls 4 [(0, .ref (ad 0)), (1, .int a0), (2, .int a1), (3, .int a2)] := hl
  refine lv_aload_n hx hb dX12_thrown_0 rfl (lv_at hl 0 rfl) ?_
  refine th_getL (ci := 13) (C := RX12) (T := TX12) (N := 6) (v := .ref (ad 1)) hx hb hts hinX12 hown hK hP hI 0 (mF 0 rfl) rfl rfl 0 (Nat.le_of_ble_eq_true rfl) (hts _ (vA_in _ _ (in_10 _ (zs16 (zs1 (zs0)))))) (fun _ h9 => h9) (hI.fr 0 (mF 0 rfl) rfl (Nat.le_of_ble_eq_true rfl) 1 rfl) dX12_thrown_1 ?_
  refine lv_iload_n hx hb dX12_thrown_4 rfl (lv_at hl 1 rfl) ?_
  refine lv_iload_n hx hb dX12_thrown_5 rfl (lv_at hl 3 rfl) ?_
  refine th_riL (va_runV (As := [.int a0, .int a2]) (rest := []) ⟨hx, hb, hml, hown, hts⟩ (q_isCountedC l dC dI cT cf hC ad E s.heap.size a0 a2 hI) (cwV 2 hts (gi_V (in_13 _ (zs16 (zs16 (zs4 (zs1 (zs1 (zs0))))))) (in_13 _ (zs16 (zs16 (zs4 (zs1 (zs1 (zs1 (zs0)))))))) (in_14 _ zs0) (in_5 _ (zs4 (zs1 (zs1 (zs0))))) (in_5 _ (zs16 (zs16 (zs4 (zs1 (zs1 (zs1 (zs0))))))))) rfl rfl rfl ⟨rfl, hz_yX0_isCounted_2⟩ ⟨Nat.le_of_ble_eq_true rfl, Nat.le_of_ble_eq_true rfl⟩) ⟨HWL_bl, va_recv hK hP (ci := 1) (q0 := posL 1 (LC cf)) rfl (hI.ob 1 (mF 1 rfl) rfl), (HWL_wi hP hK (WL_D hD) hS hA hEV)⟩ rfl rfl hl.1 rfl (lv_room (Nat.le_of_ble_eq_true rfl)) dX12_thrown_6 ⟨Nat.le_of_ble_eq_true rfl, Nat.le_of_ble_eq_true rfl⟩) hS hP (fun r1 H locs hw hP hS => ?_)
  rcases hw with hw | hw
  · -- isCountedC, case 0
    obtain ⟨rfl, f2, f3, f4⟩ := hw
    have i5 : 0 ≤ (xi (E 1) 0).toInt ∧ (xi (E 1) 0).toInt ≤ 400 := hI0.iv 1 (mF 1 rfl) rfl (Nat.le_of_ble_eq_true rfl) rfl
    refine lv_if_eq (tgt := 23) hx hb dX12_thrown_9 (by decide) (fun c6 => ?_) (fun c6 => ?_)
    · --9 taken
      exact absurd c6 (by decide)
    · --9 not
      refine lv_aload_n hx hb dX12_thrown_12 rfl (lv_at hl 0 rfl) ?_
      refine th_getL (ci := 13) (C := RX12) (T := TX12) (N := 6) (v := .ref (ad 1)) hx hb hts hinX12 hown hK hP hI 0 (mF 0 rfl) rfl rfl 0 (Nat.le_of_ble_eq_true rfl) (hts _ (vA_in _ _ (in_10 _ (zs16 (zs1 (zs0)))))) (fun _ h9 => h9) (hI.fr 0 (mF 0 rfl) rfl (Nat.le_of_ble_eq_true rfl) 1 rfl) dX12_thrown_13 ?_
      refine lv_iload_n hx hb dX12_thrown_16 rfl (lv_at hl 2 rfl) ?_
      refine th_riL (va_runV (As := [.int a1]) (rest := []) ⟨hx, hb, hml, hown, hts⟩ (q_isBoatC l dC dI cT cf hC ad E H.size a1 hI) (cwV 1 hts (gi_V (in_10 _ (zs16 (zs4 (zs4 (zs1 (zs1 (zs1 (zs0)))))))) (in_6 _ (zs4 (zs4 (zs4 (zs0))))) (in_6 _ (zs4 (zs4 (zs4 (zs1 (zs0)))))) (in_5 _ (zs4 (zs1 (zs1 (zs0))))) (in_5 _ (zs16 (zs16 (zs4 (zs1 (zs1 (zs0)))))))) rfl rfl rfl ⟨rfl, hz_yX0_isBoat_1⟩ ⟨Nat.le_of_ble_eq_true rfl, Nat.le_of_ble_eq_true rfl⟩) ⟨HWL_bl, va_recv hK hP (ci := 1) (q0 := posL 1 (LC cf)) rfl (hI.ob 1 (mF 1 rfl) rfl), (HWL_wi hP hK (WL_D hD) hS hA hEV)⟩ rfl rfl hl.1 rfl (lv_room (Nat.le_of_ble_eq_true rfl)) dX12_thrown_17 ⟨Nat.le_of_ble_eq_true rfl, Nat.le_of_ble_eq_true rfl⟩) hS hP (fun r7 H locs hw hP hS => ?_)
      rcases hw with hw | hw
      · -- isBoatC, case 0
        obtain ⟨rfl, f8, f9⟩ := hw
        have i10 : 0 ≤ (xi (E 1) 1).toInt ∧ (xi (E 1) 1).toInt ≤ 16 := hI0.iv 1 (mF 1 rfl) rfl (Nat.le_of_ble_eq_true rfl) rfl
        refine lv_if_ne (tgt := 25) hx hb dX12_thrown_20 (by decide) (fun c11 => ?_) (fun c11 => ?_)
        · --20 taken
          refine lv_aload_n hx hb dX12_thrown_25 rfl (lv_at hl 0 rfl) ?_
          refine th_getL (ci := 13) (C := RX12) (T := TX12) (N := 6) (v := .ref (ad 4)) hx hb hts hinX12 hown hK hP hI 0 (mF 0 rfl) rfl rfl 3 (Nat.le_of_ble_eq_true rfl) (hts _ (vA_in _ _ (in_18 _ (zs16 (zs16 (zs1 (zs0))))))) (fun _ h9 => h9) (hI.fr 0 (mF 0 rfl) rfl (Nat.le_of_ble_eq_true rfl) 4 rfl) dX12_thrown_26 ?_
          refine lv_iload_n hx hb dX12_thrown_29 rfl (lv_at hl 3 rfl) ?_
          refine th_vL (va_runV (As := [.int a2]) (rest := []) ⟨hx, hb, hml, hown, hts⟩ (q_tallyX l dC dI cT cf hC ad E H.size a2 hI (by exact hh0)) (cwV 1 hts (gi_V (in_21 _ (zs16 (zs4 (zs1 (zs1 (zs0)))))) (in_21 _ (zs16 (zs4 (zs1 (zs1 (zs1 (zs0))))))) (in_21 _ (zs16 (zs4 (zs4 (zs0))))) (in_18 _ (zs16 (zs16 (zs0)))) (in_21 _ (zs16 (zs4 (zs4 (zs1 (zs0))))))) rfl rfl rfl ⟨rfl, hz_yX8_tally_1⟩ ⟨Nat.le_of_ble_eq_true rfl, Nat.le_of_ble_eq_true rfl⟩) ⟨HWL_bl, va_recv hK hP (ci := 9) (q0 := posL 4 (LC cf)) rfl (hI.ob 4 (mF 4 rfl) rfl), (HWL_wi hP hK (WL_D hD) hS hA hEV)⟩ rfl rfl hl.1 rfl (lv_room (Nat.le_of_ble_eq_true rfl)) dX12_thrown_30 ⟨Nat.le_of_ble_eq_true rfl, Nat.le_of_ble_eq_true rfl⟩) (WL_D hD) hS hA (fun E13 H locs hw hP hS => ?_)
          obtain ⟨hI, kq14, hw⟩ := hw
          have hKb := hKp
          have hKp := hKp.tr kq14 (wl_sub rfl rfl)
          have f15 := hw
          refine lv_aload_n hx hb dX12_thrown_33 rfl (lv_at hl 0 rfl) ?_
          refine th_getL (ci := 13) (C := RX12) (T := TX12) (N := 6) (v := .ref (ad 4)) hx hb hts hinX12 hown hK hP hI 0 (mF 0 rfl) rfl rfl 3 (Nat.le_of_ble_eq_true rfl) (hts _ (vA_in _ _ (in_18 _ (zs16 (zs16 (zs1 (zs0))))))) (fun _ h9 => h9) (hI.fr 0 (mF 0 rfl) rfl (Nat.le_of_ble_eq_true rfl) 4 rfl) dX12_thrown_34 ?_
          refine th_getL (ci := 9) (C := RX8) (T := TX8) (N := 10) (v := .ref (ad 34)) hx hb hts hinX8 hown hK hP hI 4 (mF 4 rfl) rfl rfl 6 (Nat.le_of_ble_eq_true rfl) (hts _ (vA_in _ _ (in_23 _ (zs16 (zs4 (zs1 (zs1 (zs1 (zs0))))))))) (fun _ h9 => h9) (hI.fr 4 (mF 4 rfl) rfl (Nat.le_of_ble_eq_true rfl) 34 rfl) dX12_thrown_37 ?_
          refine lv_iload_n hx hb dX12_thrown_40 rfl (lv_at hl 2 rfl) ?_
          have n17 : vp_in a1 16 := (iv_in (n := 16) f9 (by decide))
          refine th_zaldL hx hb hK hP hI 34 (mF 34 rfl) rfl rfl n17 dX12_thrown_41 (fun y16 ey16 => ?_)
          have iy16 : 0 ≤ y16.toInt ∧ y16.toInt ≤ 1 := hI.el 34 (mF 34 rfl) rfl n17 (fun _ => rfl) ey16
          refine lv_if_ne (tgt := 47) hx hb dX12_thrown_42 (by decide) (fun c18 => ?_) (fun c18 => ?_)
          · --42 taken
            have t19 : ¬ y16.toInt = 0 := ti_ne c18
            have i20 : 1 ≤ y16.toInt ∧ y16.toInt ≤ 1 := iv_ne_l t19 iy16 (il_ 0)
            refine lv_aload_n hx hb dX12_thrown_47 rfl (lv_at hl 0 rfl) ?_
            refine th_getL (ci := 13) (C := RX12) (T := TX12) (N := 6) (v := .ref (ad 4)) hx hb hts hinX12 hown hK hP hI 0 (mF 0 rfl) rfl rfl 3 (Nat.le_of_ble_eq_true rfl) (hts _ (vA_in _ _ (in_18 _ (zs16 (zs16 (zs1 (zs0))))))) (fun _ h9 => h9) (hI.fr 0 (mF 0 rfl) rfl (Nat.le_of_ble_eq_true rfl) 4 rfl) dX12_thrown_48 ?_
            refine th_getL (ci := 9) (C := RX8) (T := TX8) (N := 10) (v := .ref (ad 33)) hx hb hts hinX8 hown hK hP hI 4 (mF 4 rfl) rfl rfl 5 (Nat.le_of_ble_eq_true rfl) (hts _ (vA_in _ _ (in_23 _ (zs16 (zs4 (zs4 (zs0))))))) (fun _ h9 => h9) (hI.fr 4 (mF 4 rfl) rfl (Nat.le_of_ble_eq_true rfl) 33 rfl) dX12_thrown_51 ?_
            refine lv_iload_n hx hb dX12_thrown_54 rfl (lv_at hl 1 rfl) ?_
            refine lv_iload_n hx hb dX12_thrown_55 rfl (lv_at hl 2 rfl) ?_
            refine th_pi (va_runS (As := [.int a0, .int a1]) (rest := [.ref (ad 33)]) ⟨hx, hb, hml, hown, hts⟩ (q_ccell l a0 a1 f3 f9) (va_cwS 2 hts (gi_S (in_23 _ (zs16 (zs4 (zs4 (zs1 (zs0)))))) (in_13 _ (zs1 (zs0))) (in_4 _ (zs16 (zs4 (zs1 (zs1 (zs1 (zs0))))))) (in_10 _ (zs16 (zs4 (zs0))))) rfl rfl rfl hz_yX12_cell_2 ⟨Nat.le_of_ble_eq_true rfl, Nat.le_of_ble_eq_true rfl⟩) ⟨fun _ _ _ _ q => q, fun _ _ _ => ⟨rfl, trivial⟩⟩ rfl rfl hl.1 rfl (lv_room (Nat.le_of_ble_eq_true rfl)) dX12_thrown_56 ⟨Nat.le_of_ble_eq_true rfl, Nat.le_of_ble_eq_true rfl⟩) hS (fun r21 H1 locs1 hw hk1 hS => ?_)
            have hP := ub_keep hP hk1
            generalize H1 = H at hP hS ⊢
            generalize locs1 = locs at hS ⊢
            obtain ⟨f22, f23⟩ := hw
            have n25 : vp_in r21 320 := (iv_in (n := 320) f22 (by decide))
            refine th_zaldL hx hb hK hP hI 33 (mF 33 rfl) rfl rfl n25 dX12_thrown_59 (fun y24 ey24 => ?_)
            have iy24 : 0 ≤ y24.toInt ∧ y24.toInt ≤ 1 := hI.el 33 (mF 33 rfl) rfl n25 (fun _ => rfl) ey24
            refine lv_if_eq (tgt := 67) hx hb dX12_thrown_60 (by decide) (fun c26 => ?_) (fun c26 => ?_)
            · --60 taken
              have t27 : y24.toInt = 0 := ti_eq c26
              have i28 : 0 ≤ y24.toInt ∧ y24.toInt ≤ 0 := iv_eqi t27 iy24 (il_ 0) (by decide)
              refine lv_iconst (v := 0) hx hb dX12_thrown_67 (by decide) ?_
              rw [hQ]
              exact W.iret (v := 0) hx hb hr (fun t ht hW => ⟨⟨0, E13, rfl, ⟨hI, hKp, ⟨fun _ => by obtain ⟨K9, o9, -, h9⟩ := f15; exact ⟨K9, o9, _, _, _, _, h9, ⟨fun _ => (show (0 : Int32) = y24 from Int32.toInt_inj.mp (by have z0 : (0 : Int32).toInt = 0 := rfl; have z1 : (1 : Int32).toInt = 1 := rfl; omega)).trans (show y24 = xi (E13 33) (16 * a0.toNatClampNeg + a1.toNatClampNeg) by rw [ey24, (show r21.toNatClampNeg = 16 * a0.toNatClampNeg + a1.toNatClampNeg by rw [tn_ r21, tn_ a0, tn_ a1]; omega)]), fun q9 => by exfalso; rw [← ey16] at q9; omega⟩⟩, fun g9 => by exfalso; omega⟩⟩, by show va_P (dC, dI) vwCl (WL (LC cf) ad E13) t.heap; rw [ht]; exact hP⟩, hS.F ht⟩) hS.2.2 dX12_thrown_68
            · --60 not
              have t29 : ¬ y24.toInt = 0 := ti_ne c26
              have i30 : 1 ≤ y24.toInt ∧ y24.toInt ≤ 1 := iv_ne_l t29 iy24 (il_ 0)
              refine lv_iconst (v := 1) hx hb dX12_thrown_63 (by decide) ?_
              refine lv_goto (tgt := 68) hx hb dX12_thrown_64 (by decide) ?_
              rw [hQ]
              exact W.iret (v := 1) hx hb hr (fun t ht hW => ⟨⟨1, E13, rfl, ⟨hI, hKp, ⟨fun _ => by obtain ⟨K9, o9, -, h9⟩ := f15; exact ⟨K9, o9, _, _, _, _, h9, ⟨fun _ => (show (1 : Int32) = y24 from Int32.toInt_inj.mp (by have z0 : (0 : Int32).toInt = 0 := rfl; have z1 : (1 : Int32).toInt = 1 := rfl; omega)).trans (show y24 = xi (E13 33) (16 * a0.toNatClampNeg + a1.toNatClampNeg) by rw [ey24, (show r21.toNatClampNeg = 16 * a0.toNatClampNeg + a1.toNatClampNeg by rw [tn_ r21, tn_ a0, tn_ a1]; omega)]), fun q9 => by exfalso; rw [← ey16] at q9; omega⟩⟩, fun g9 => by exfalso; omega⟩⟩, by show va_P (dC, dI) vwCl (WL (LC cf) ad E13) t.heap; rw [ht]; exact hP⟩, hS.F ht⟩) hS.2.2 dX12_thrown_68
          · --42 not
            have t31 : y16.toInt = 0 := ti_eq c18
            have i32 : 0 ≤ y16.toInt ∧ y16.toInt ≤ 0 := iv_eqi t31 iy16 (il_ 0) (by decide)
            refine lv_iconst (v := -1) hx hb dX12_thrown_45 (by decide) ?_
            rw [hQ]
            exact W.iret (v := (-1)) hx hb hr (fun t ht hW => ⟨⟨(-1), E13, rfl, ⟨hI, hKp, ⟨fun _ => by obtain ⟨K9, o9, -, h9⟩ := f15; exact ⟨K9, o9, _, _, _, _, h9, ⟨fun q9 => by exfalso; rw [← ey16] at q9; omega, fun _ => rfl⟩⟩, fun g9 => by exfalso; omega⟩⟩, by show va_P (dC, dI) vwCl (WL (LC cf) ad E13) t.heap; rw [ht]; exact hP⟩, hS.F ht⟩) hS.2.2 dX12_thrown_46
        · --20 not
          exact absurd c11 (by decide)
      · -- isBoatC, case 1
        obtain ⟨rfl, f33⟩ := hw
        have i34 : 0 ≤ (xi (E 1) 1).toInt ∧ (xi (E 1) 1).toInt ≤ 16 := hI0.iv 1 (mF 1 rfl) rfl (Nat.le_of_ble_eq_true rfl) rfl
        refine lv_if_ne (tgt := 25) hx hb dX12_thrown_20 (by decide) (fun c35 => ?_) (fun c35 => ?_)
        · --20 taken
          exact absurd c35 (by decide)
        · --20 not
          refine lv_iconst (v := -1) hx hb dX12_thrown_23 (by decide) ?_
          rw [hQ]
          exact W.iret (v := (-1)) hx hb hr (fun t ht hW => ⟨⟨(-1), E, rfl, ⟨hI, hKp, ⟨fun g9 => by exfalso; omega, fun _ => rfl⟩⟩, by show va_P (dC, dI) vwCl (WL (LC cf) ad E) t.heap; rw [ht]; exact hP⟩, hS.F ht⟩) hS.2.2 dX12_thrown_24
  · -- isCountedC, case 1
    obtain ⟨rfl, f36⟩ := hw
    have i37 : 0 ≤ (xi (E 1) 0).toInt ∧ (xi (E 1) 0).toInt ≤ 400 := hI0.iv 1 (mF 1 rfl) rfl (Nat.le_of_ble_eq_true rfl) rfl
    refine lv_if_eq (tgt := 23) hx hb dX12_thrown_9 (by decide) (fun c38 => ?_) (fun c38 => ?_)
    · --9 taken
      refine lv_iconst (v := -1) hx hb dX12_thrown_23 (by decide) ?_
      rw [hQ]
      exact W.iret (v := (-1)) hx hb hr (fun t ht hW => ⟨⟨(-1), E, rfl, ⟨hI, hKp, ⟨fun g9 => by exfalso; omega, fun _ => rfl⟩⟩, by show va_P (dC, dI) vwCl (WL (LC cf) ad E) t.heap; rw [ht]; exact hP⟩, hS.F ht⟩) hS.2.2 dX12_thrown_24
    · --9 not
      exact absurd c38 (by decide)
def v_u_totalX : List Cond := .code yX12_total cX12_total 3 (some .int) :: vA
abbrev rm_u_totalX : Room := { frames := 7, cells := 0, slots := 0, locals := 280 }
def w_u_totalX : Nat → Nat → Bool := wl [19, 20, 26, 27, 28, 29, 30, 31, 32, 33, 34, 35] [(3, 6), (3, 7), (3, 8), (4, 2)]
set_option maxHeartbeats 4000000 in
set_option maxRecDepth 100000 in
theorem q_u_totalX (l : Launch) (dC : Nat → ClassId) (dI : Nat → Nat → Nat) (cT : Nat → ClassId) (cf : Nat → Nat) (hC : CF cf) (ad : Nat → Nat) (E : Nat → va_E) (sz : Nat) (a0 : Int32) (a1 : Int32) (hI0 : IXL cT (shC cf) (spC cf) (LC cf) ad E) (hh0 : RulAll cf E) : Met l yX12_total v_u_totalX rm_u_totalX (va_Pc [.ref (ad 0), .int a0, .int a1] (HWL dC dI (TYC cT) cf ad E sz)) (va_Qi (S := Nat → va_E) (fun r u => IXL cT (shC cf) (spC cf) (LC cf) ad u ∧ Kp w_u_totalX E u ∧ ((((((0 ≤ a0.toInt ∧ a0.toInt < (xi (E 1) 1).toInt) ∧ (0 ≤ a1.toInt ∧ a1.toInt ≤ (xi (E 1) 0).toInt)) → (∃ (K9 o9 : Int32) (P9 T9 S9 O9 : Nat → Int32), TaX cf E a1 K9 o9 P9 T9 S9 O9 ∧ ((S9 a0.toNatClampNeg).toInt = 1 → r = O9 a0.toNatClampNeg) ∧ (¬ (S9 a0.toNatClampNeg).toInt = 1 → r = -1))) ∧ (¬ ((0 ≤ a0.toInt ∧ a0.toInt < (xi (E 1) 1).toInt) ∧ (0 ≤ a1.toInt ∧ a1.toInt ≤ (xi (E 1) 0).toInt)) → (r = -1)))))) (HBL dC dI (LC cf) ad) (va_A (WL (LC cf) ad E) sz)) 0 0 (va_A (WL (LC cf) ad E) sz) := by
  obtain ⟨⟨hc0, hc1, hc2, hc3, hc4, hc5⟩, hcr⟩ := id hC
  refine Met.ofW (cc := cX12_total) (maxL := 3) (ret := (some .int)) (by decide) rfl ?_
  intro p e s m args below meth c s₁ B hml hv
  obtain ⟨hargs, hsz, hP, hK, hD0, hEV⟩ := hv
  subst hsz
  have hx := B.exec
  have hb := B.bytes
  have hr := B.returns
  have hts := atoms_spec (ws := v_u_totalX) B.pre
  have hown : s.vm.findClass RX12 = some m.cls := findClass_of_methodNamed B.named
  have hlocks := B.notSynchronized
  have hinX12 : ∀ w ∈ u_ws RX12 TX12 6, w ∈ v_u_totalX := fun w h => vA_in _ w (in_X12 w h)
  have hinX8 : ∀ w ∈ u_ws RX8 TX8 10, w ∈ v_u_totalX := fun w h => vA_in _ w (in_X8 w h)
  generalize hAe : va_A (WL (LC cf) ad E) s.heap.size = A at hEV ⊢
  have hA : ∀ q : Nat, s.heap.size ≤ q → A q := fun q h => by rw [← hAe]; exact Or.inr h
  have hD : va_D A (WL (LC cf) ad E) := by rw [← hAe]; exact hD0.self
  have hS : va_S A s.heap s.heap [] := va_S.rf
  have hI := hI0
  have hKp : Kp w_u_totalX E E := Kp.rf
  have hl := lv_entry ([.ref (ad 0), .int a0, .int a1]) (n := 3) (Nat.le_of_ble_eq_true rfl)
  obtain ⟨Q, hQ⟩ : ∃ Q, Q = MQ below (va_Qi (S := Nat → va_E) (fun r u => IXL cT (shC cf) (spC cf) (LC cf) ad u ∧ Kp w_u_totalX E u ∧ ((((((0 ≤ a0.toInt ∧ a0.toInt < (xi (E 1) 1).toInt) ∧ (0 ≤ a1.toInt ∧ a1.toInt ≤ (xi (E 1) 0).toInt)) → (∃ (K9 o9 : Int32) (P9 T9 S9 O9 : Nat → Int32), TaX cf E a1 K9 o9 P9 T9 S9 O9 ∧ ((S9 a0.toNatClampNeg).toInt = 1 → r = O9 a0.toNatClampNeg) ∧ (¬ (S9 a0.toNatClampNeg).toInt = 1 → r = -1))) ∧ (¬ ((0 ≤ a0.toInt ∧ a0.toInt < (xi (E 1) 1).toInt) ∧ (0 ≤ a1.toInt ∧ a1.toInt ≤ (xi (E 1) 0).toInt)) → (r = -1)))))) (HBL dC dI (LC cf) ad) (A)) args s 0 0 (A) := ⟨_, rfl⟩
  rw [← hQ, show entryFrame m args 3 = _ from (congrArg (fun z => entryFrame m z 3) hargs).trans (lg_entry_eq _ _ _)]
  generalize (lg_sl ([.ref (ad 0), .int a0, .int a1]) ++ List.replicate (3 - (lg_sl ([.ref (ad 0), .int a0, .int a1])).length) Slot.unset).toArray = ls at hl ⊢
  have hl : lv_has ls 3 [(0, .ref (ad 0)), (1, .int a0), (2, .int a1)] := hl
  refine lv_aload_n hx hb dX12_total_0 rfl (lv_at hl 0 rfl) ?_
  refine th_getL (ci := 13) (C := RX12) (T := TX12) (N := 6) (v := .ref (ad 1)) hx hb hts hinX12 hown hK hP hI 0 (mF 0 rfl) rfl rfl 0 (Nat.le_of_ble_eq_true rfl) (hts _ (vA_in _ _ (in_10 _ (zs16 (zs1 (zs0)))))) (fun _ h9 => h9) (hI.fr 0 (mF 0 rfl) rfl (Nat.le_of_ble_eq_true rfl) 1 rfl) dX12_total_1 ?_
  refine lv_iload_n hx hb dX12_total_4 rfl (lv_at hl 1 rfl) ?_
  refine th_riL (va_runV (As := [.int a0]) (rest := []) ⟨hx, hb, hml, hown, hts⟩ (q_isBoatC l dC dI cT cf hC ad E s.heap.size a0 hI) (cwV 1 hts (gi_V (in_10 _ (zs16 (zs4 (zs4 (zs1 (zs1 (zs1 (zs0)))))))) (in_6 _ (zs4 (zs4 (zs4 (zs0))))) (in_6 _ (zs4 (zs4 (zs4 (zs1 (zs0)))))) (in_5 _ (zs4 (zs1 (zs1 (zs0))))) (in_5 _ (zs16 (zs16 (zs4 (zs1 (zs1 (zs0)))))))) rfl rfl rfl ⟨rfl, hz_yX0_isBoat_1⟩ ⟨Nat.le_of_ble_eq_true rfl, Nat.le_of_ble_eq_true rfl⟩) ⟨HWL_bl, va_recv hK hP (ci := 1) (q0 := posL 1 (LC cf)) rfl (hI.ob 1 (mF 1 rfl) rfl), (HWL_wi hP hK (WL_D hD) hS hA hEV)⟩ rfl rfl hl.1 rfl (lv_room (Nat.le_of_ble_eq_true rfl)) dX12_total_5 ⟨Nat.le_of_ble_eq_true rfl, Nat.le_of_ble_eq_true rfl⟩) hS hP (fun r1 H locs hw hP hS => ?_)
  rcases hw with hw | hw
  · -- isBoatC, case 0
    obtain ⟨rfl, f2, f3⟩ := hw
    have i4 : 0 ≤ (xi (E 1) 1).toInt ∧ (xi (E 1) 1).toInt ≤ 16 := hI0.iv 1 (mF 1 rfl) rfl (Nat.le_of_ble_eq_true rfl) rfl
    refine lv_if_eq (tgt := 22) hx hb dX12_total_8 (by decide) (fun c5 => ?_) (fun c5 => ?_)
    · --8 taken
      exact absurd c5 (by decide)
    · --8 not
      refine lv_aload_n hx hb dX12_total_11 rfl (lv_at hl 0 rfl) ?_
      refine th_getL (ci := 13) (C := RX12) (T := TX12) (N := 6) (v := .ref (ad 1)) hx hb hts hinX12 hown hK hP hI 0 (mF 0 rfl) rfl rfl 0 (Nat.le_of_ble_eq_true rfl) (hts _ (vA_in _ _ (in_10 _ (zs16 (zs1 (zs0)))))) (fun _ h9 => h9) (hI.fr 0 (mF 0 rfl) rfl (Nat.le_of_ble_eq_true rfl) 1 rfl) dX12_total_12 ?_
      refine lv_iload_n hx hb dX12_total_15 rfl (lv_at hl 2 rfl) ?_
      refine th_riL (va_runV (As := [.int a1]) (rest := []) ⟨hx, hb, hml, hown, hts⟩ (q_isKnownC l dC dI cT cf hC ad E H.size a1 hI) (cwV 1 hts (gi_V (in_18 _ (zs16 (zs4 (zs0)))) (in_6 _ (zs1 (zs1 (zs1 (zs0))))) (in_6 _ (zs4 (zs0))) (in_5 _ (zs4 (zs1 (zs1 (zs0))))) (in_6 _ (zs4 (zs1 (zs0))))) rfl rfl rfl ⟨rfl, hz_yX0_isKnown_1⟩ ⟨Nat.le_of_ble_eq_true rfl, Nat.le_of_ble_eq_true rfl⟩) ⟨HWL_bl, va_recv hK hP (ci := 1) (q0 := posL 1 (LC cf)) rfl (hI.ob 1 (mF 1 rfl) rfl), (HWL_wi hP hK (WL_D hD) hS hA hEV)⟩ rfl rfl hl.1 rfl (lv_room (Nat.le_of_ble_eq_true rfl)) dX12_total_16 ⟨Nat.le_of_ble_eq_true rfl, Nat.le_of_ble_eq_true rfl⟩) hS hP (fun r6 H locs hw hP hS => ?_)
      rcases hw with hw | hw
      · -- isKnownC, case 0
        obtain ⟨rfl, f7, f8⟩ := hw
        have i9 : 0 ≤ (xi (E 1) 0).toInt ∧ (xi (E 1) 0).toInt ≤ 400 := hI0.iv 1 (mF 1 rfl) rfl (Nat.le_of_ble_eq_true rfl) rfl
        refine lv_if_ne (tgt := 24) hx hb dX12_total_19 (by decide) (fun c10 => ?_) (fun c10 => ?_)
        · --19 taken
          refine lv_aload_n hx hb dX12_total_24 rfl (lv_at hl 0 rfl) ?_
          refine th_getL (ci := 13) (C := RX12) (T := TX12) (N := 6) (v := .ref (ad 4)) hx hb hts hinX12 hown hK hP hI 0 (mF 0 rfl) rfl rfl 3 (Nat.le_of_ble_eq_true rfl) (hts _ (vA_in _ _ (in_18 _ (zs16 (zs16 (zs1 (zs0))))))) (fun _ h9 => h9) (hI.fr 0 (mF 0 rfl) rfl (Nat.le_of_ble_eq_true rfl) 4 rfl) dX12_total_25 ?_
          refine lv_iload_n hx hb dX12_total_28 rfl (lv_at hl 2 rfl) ?_
          refine th_vL (va_runV (As := [.int a1]) (rest := []) ⟨hx, hb, hml, hown, hts⟩ (q_tallyX l dC dI cT cf hC ad E H.size a1 hI (by exact hh0)) (cwV 1 hts (gi_V (in_21 _ (zs16 (zs4 (zs1 (zs1 (zs0)))))) (in_21 _ (zs16 (zs4 (zs1 (zs1 (zs1 (zs0))))))) (in_21 _ (zs16 (zs4 (zs4 (zs0))))) (in_18 _ (zs16 (zs16 (zs0)))) (in_21 _ (zs16 (zs4 (zs4 (zs1 (zs0))))))) rfl rfl rfl ⟨rfl, hz_yX8_tally_1⟩ ⟨Nat.le_of_ble_eq_true rfl, Nat.le_of_ble_eq_true rfl⟩) ⟨HWL_bl, va_recv hK hP (ci := 9) (q0 := posL 4 (LC cf)) rfl (hI.ob 4 (mF 4 rfl) rfl), (HWL_wi hP hK (WL_D hD) hS hA hEV)⟩ rfl rfl hl.1 rfl (lv_room (Nat.le_of_ble_eq_true rfl)) dX12_total_29 ⟨Nat.le_of_ble_eq_true rfl, Nat.le_of_ble_eq_true rfl⟩) (WL_D hD) hS hA (fun E12 H locs hw hP hS => ?_)
          obtain ⟨hI, kq13, hw⟩ := hw
          have hKb := hKp
          have hKp := hKp.tr kq13 (wl_sub rfl rfl)
          have f14 := hw
          refine lv_aload_n hx hb dX12_total_32 rfl (lv_at hl 0 rfl) ?_
          refine th_getL (ci := 13) (C := RX12) (T := TX12) (N := 6) (v := .ref (ad 4)) hx hb hts hinX12 hown hK hP hI 0 (mF 0 rfl) rfl rfl 3 (Nat.le_of_ble_eq_true rfl) (hts _ (vA_in _ _ (in_18 _ (zs16 (zs16 (zs1 (zs0))))))) (fun _ h9 => h9) (hI.fr 0 (mF 0 rfl) rfl (Nat.le_of_ble_eq_true rfl) 4 rfl) dX12_total_33 ?_
          refine th_getL (ci := 9) (C := RX8) (T := TX8) (N := 10) (v := .ref (ad 34)) hx hb hts hinX8 hown hK hP hI 4 (mF 4 rfl) rfl rfl 6 (Nat.le_of_ble_eq_true rfl) (hts _ (vA_in _ _ (in_23 _ (zs16 (zs4 (zs1 (zs1 (zs1 (zs0))))))))) (fun _ h9 => h9) (hI.fr 4 (mF 4 rfl) rfl (Nat.le_of_ble_eq_true rfl) 34 rfl) dX12_total_36 ?_
          refine lv_iload_n hx hb dX12_total_39 rfl (lv_at hl 1 rfl) ?_
          have n16 : vp_in a0 16 := (iv_in (n := 16) f3 (by decide))
          refine th_zaldL hx hb hK hP hI 34 (mF 34 rfl) rfl rfl n16 dX12_total_40 (fun y15 ey15 => ?_)
          have iy15 : 0 ≤ y15.toInt ∧ y15.toInt ≤ 1 := hI.el 34 (mF 34 rfl) rfl n16 (fun _ => rfl) ey15
          refine lv_if_eq (tgt := 56) hx hb dX12_total_41 (by decide) (fun c17 => ?_) (fun c17 => ?_)
          · --41 taken
            have t18 : y15.toInt = 0 := ti_eq c17
            have i19 : 0 ≤ y15.toInt ∧ y15.toInt ≤ 0 := iv_eqi t18 iy15 (il_ 0) (by decide)
            refine lv_iconst (v := -1) hx hb dX12_total_56 (by decide) ?_
            rw [hQ]
            exact W.iret (v := (-1)) hx hb hr (fun t ht hW => ⟨⟨(-1), E12, rfl, ⟨hI, hKp, ⟨fun _ => by obtain ⟨K9, o9, -, h9⟩ := f14; exact ⟨K9, o9, _, _, _, _, h9, ⟨fun q9 => by exfalso; rw [← ey15] at q9; omega, fun _ => rfl⟩⟩, fun g9 => by exfalso; omega⟩⟩, by show va_P (dC, dI) vwCl (WL (LC cf) ad E12) t.heap; rw [ht]; exact hP⟩, hS.F ht⟩) hS.2.2 dX12_total_57
          · --41 not
            have t20 : ¬ y15.toInt = 0 := ti_ne c17
            have i21 : 1 ≤ y15.toInt ∧ y15.toInt ≤ 1 := iv_ne_l t20 iy15 (il_ 0)
            refine lv_aload_n hx hb dX12_total_44 rfl (lv_at hl 0 rfl) ?_
            refine th_getL (ci := 13) (C := RX12) (T := TX12) (N := 6) (v := .ref (ad 4)) hx hb hts hinX12 hown hK hP hI 0 (mF 0 rfl) rfl rfl 3 (Nat.le_of_ble_eq_true rfl) (hts _ (vA_in _ _ (in_18 _ (zs16 (zs16 (zs1 (zs0))))))) (fun _ h9 => h9) (hI.fr 0 (mF 0 rfl) rfl (Nat.le_of_ble_eq_true rfl) 4 rfl) dX12_total_45 ?_
            refine th_getL (ci := 9) (C := RX8) (T := TX8) (N := 10) (v := .ref (ad 35)) hx hb hts hinX8 hown hK hP hI 4 (mF 4 rfl) rfl rfl 7 (Nat.le_of_ble_eq_true rfl) (hts _ (vA_in _ _ (in_23 _ (zs16 (zs16 (zs4 (zs1 (zs1 (zs1 (zs0)))))))))) (fun _ h9 => h9) (hI.fr 4 (mF 4 rfl) rfl (Nat.le_of_ble_eq_true rfl) 35 rfl) dX12_total_48 ?_
            refine lv_iload_n hx hb dX12_total_51 rfl (lv_at hl 1 rfl) ?_
            have n23 : vp_in a0 16 := (iv_in (n := 16) f3 (by decide))
            refine th_ialdL hx hb hK hP hI 35 (mF 35 rfl) rfl rfl n23 dX12_total_52 (fun y22 ey22 => ?_)
            refine lv_goto (tgt := 57) hx hb dX12_total_53 (by decide) ?_
            rw [hQ]
            exact W.iret (v := y22) hx hb hr (fun t ht hW => ⟨⟨y22, E12, rfl, ⟨hI, hKp, ⟨fun _ => by obtain ⟨K9, o9, -, h9⟩ := f14; exact ⟨K9, o9, _, _, _, _, h9, ⟨fun _ => ey22, fun q9 => by exfalso; rw [← ey15] at q9; omega⟩⟩, fun g9 => by exfalso; omega⟩⟩, by show va_P (dC, dI) vwCl (WL (LC cf) ad E12) t.heap; rw [ht]; exact hP⟩, hS.F ht⟩) hS.2.2 dX12_total_57
        · --19 not
          exact absurd c10 (by decide)
      · -- isKnownC, case 1
        obtain ⟨rfl, f24⟩ := hw
        have i25 : 0 ≤ (xi (E 1) 0).toInt ∧ (xi (E 1) 0).toInt ≤ 400 := hI0.iv 1 (mF 1 rfl) rfl (Nat.le_of_ble_eq_true rfl) rfl
        refine lv_if_ne (tgt := 24) hx hb dX12_total_19 (by decide) (fun c26 => ?_) (fun c26 => ?_)
        · --19 taken
          exact absurd c26 (by decide)
        · --19 not
          refine lv_iconst (v := -1) hx hb dX12_total_22 (by decide) ?_
          rw [hQ]
          exact W.iret (v := (-1)) hx hb hr (fun t ht hW => ⟨⟨(-1), E, rfl, ⟨hI, hKp, ⟨fun g9 => by exfalso; omega, fun _ => rfl⟩⟩, by show va_P (dC, dI) vwCl (WL (LC cf) ad E) t.heap; rw [ht]; exact hP⟩, hS.F ht⟩) hS.2.2 dX12_total_23
  · -- isBoatC, case 1
    obtain ⟨rfl, f27⟩ := hw
    have i28 : 0 ≤ (xi (E 1) 1).toInt ∧ (xi (E 1) 1).toInt ≤ 16 := hI0.iv 1 (mF 1 rfl) rfl (Nat.le_of_ble_eq_true rfl) rfl
    refine lv_if_eq (tgt := 22) hx hb dX12_total_8 (by decide) (fun c29 => ?_) (fun c29 => ?_)
    · --8 taken
      refine lv_iconst (v := -1) hx hb dX12_total_22 (by decide) ?_
      rw [hQ]
      exact W.iret (v := (-1)) hx hb hr (fun t ht hW => ⟨⟨(-1), E, rfl, ⟨hI, hKp, ⟨fun g9 => by exfalso; omega, fun _ => rfl⟩⟩, by show va_P (dC, dI) vwCl (WL (LC cf) ad E) t.heap; rw [ht]; exact hP⟩, hS.F ht⟩) hS.2.2 dX12_total_23
    · --8 not
      exact absurd c29 (by decide)
def v_u_rankedX : List Cond := .code yX12_ranked cX12_ranked 3 (some .int) :: vA
abbrev rm_u_rankedX : Room := { frames := 7, cells := 0, slots := 0, locals := 280 }
def w_u_rankedX : Nat → Nat → Bool := wl [19, 20, 26, 27, 28, 29, 30, 31, 32, 33, 34, 35, 36, 37] [(3, 6), (3, 7), (3, 8), (4, 2)]
set_option maxHeartbeats 4000000 in
set_option maxRecDepth 100000 in
theorem q_u_rankedX (l : Launch) (dC : Nat → ClassId) (dI : Nat → Nat → Nat) (cT : Nat → ClassId) (cf : Nat → Nat) (hC : CF cf) (ad : Nat → Nat) (E : Nat → va_E) (sz : Nat) (a0 : Int32) (a1 : Int32) (hI0 : IXL cT (shC cf) (spC cf) (LC cf) ad E) (hh0 : RulAll cf E) : Met l yX12_ranked v_u_rankedX rm_u_rankedX (va_Pc [.ref (ad 0), .int a0, .int a1] (HWL dC dI (TYC cT) cf ad E sz)) (va_Qi (S := Nat → va_E) (fun r u => IXL cT (shC cf) (spC cf) (LC cf) ad u ∧ Kp w_u_rankedX E u ∧ ((((((0 ≤ a0.toInt ∧ a0.toInt ≤ 15) ∧ (0 ≤ a1.toInt ∧ a1.toInt ≤ (xi (E 1) 0).toInt)) → (∃ (K9 o9 : Int32) (P9 T9 S9 O9 : Nat → Int32), TaX cf E a1 K9 o9 P9 T9 S9 O9 ∧ RkR (fun b9 : Nat => (S9 b9).toInt = 1) (fun x9 y9 : Nat => BtP P9 T9 O9 K9.toNatClampNeg x9 y9) (xi (E 1) 1).toNatClampNeg a0.toInt r.toInt)) ∧ (¬ ((0 ≤ a0.toInt ∧ a0.toInt ≤ 15) ∧ (0 ≤ a1.toInt ∧ a1.toInt ≤ (xi (E 1) 0).toInt)) → (r = -1)))))) (HBL dC dI (LC cf) ad) (va_A (WL (LC cf) ad E) sz)) 0 0 (va_A (WL (LC cf) ad E) sz) := by
  obtain ⟨⟨hc0, hc1, hc2, hc3, hc4, hc5⟩, hcr⟩ := id hC
  refine Met.ofW (cc := cX12_ranked) (maxL := 3) (ret := (some .int)) (by decide) rfl ?_
  intro p e s m args below meth c s₁ B hml hv
  obtain ⟨hargs, hsz, hP, hK, hD0, hEV⟩ := hv
  subst hsz
  have hx := B.exec
  have hb := B.bytes
  have hr := B.returns
  have hts := atoms_spec (ws := v_u_rankedX) B.pre
  have hown : s.vm.findClass RX12 = some m.cls := findClass_of_methodNamed B.named
  have hlocks := B.notSynchronized
  have hinX12 : ∀ w ∈ u_ws RX12 TX12 6, w ∈ v_u_rankedX := fun w h => vA_in _ w (in_X12 w h)
  generalize hAe : va_A (WL (LC cf) ad E) s.heap.size = A at hEV ⊢
  have hA : ∀ q : Nat, s.heap.size ≤ q → A q := fun q h => by rw [← hAe]; exact Or.inr h
  have hD : va_D A (WL (LC cf) ad E) := by rw [← hAe]; exact hD0.self
  have hS : va_S A s.heap s.heap [] := va_S.rf
  have hI := hI0
  have hKp : Kp w_u_rankedX E E := Kp.rf
  have hl := lv_entry ([.ref (ad 0), .int a0, .int a1]) (n := 3) (Nat.le_of_ble_eq_true rfl)
  obtain ⟨Q, hQ⟩ : ∃ Q, Q = MQ below (va_Qi (S := Nat → va_E) (fun r u => IXL cT (shC cf) (spC cf) (LC cf) ad u ∧ Kp w_u_rankedX E u ∧ ((((((0 ≤ a0.toInt ∧ a0.toInt ≤ 15) ∧ (0 ≤ a1.toInt ∧ a1.toInt ≤ (xi (E 1) 0).toInt)) → (∃ (K9 o9 : Int32) (P9 T9 S9 O9 : Nat → Int32), TaX cf E a1 K9 o9 P9 T9 S9 O9 ∧ RkR (fun b9 : Nat => (S9 b9).toInt = 1) (fun x9 y9 : Nat => BtP P9 T9 O9 K9.toNatClampNeg x9 y9) (xi (E 1) 1).toNatClampNeg a0.toInt r.toInt)) ∧ (¬ ((0 ≤ a0.toInt ∧ a0.toInt ≤ 15) ∧ (0 ≤ a1.toInt ∧ a1.toInt ≤ (xi (E 1) 0).toInt)) → (r = -1)))))) (HBL dC dI (LC cf) ad) (A)) args s 0 0 (A) := ⟨_, rfl⟩
  rw [← hQ, show entryFrame m args 3 = _ from (congrArg (fun z => entryFrame m z 3) hargs).trans (lg_entry_eq _ _ _)]
  generalize (lg_sl ([.ref (ad 0), .int a0, .int a1]) ++ List.replicate (3 - (lg_sl ([.ref (ad 0), .int a0, .int a1])).length) Slot.unset).toArray = ls at hl ⊢
  have hl : lv_has ls 3 [(0, .ref (ad 0)), (1, .int a0), (2, .int a1)] := hl
  refine lv_iload_n hx hb dX12_ranked_0 rfl (lv_at hl 1 rfl) ?_
  refine lv_iconst (v := 0) hx hb dX12_ranked_1 (by decide) ?_
  refine lv_bipush (v := 15) hx hb dX12_ranked_2 (by decide) ?_
  refine th_pi (va_runS (As := [.int a0, .int 0, .int 15]) (rest := []) ⟨hx, hb, hml, hown, hts⟩ (q_cwithin l a0 (0 : Int32) (15 : Int32)) (va_cwS 3 hts (gi_S (in_10 _ (zs16 (zs4 (zs4 (zs4 (zs1 (zs1 (zs1 (zs0))))))))) (in_4 _ (zs16 (zs4 (zs1 (zs1 (zs0)))))) (in_4 _ (zs16 (zs4 (zs1 (zs1 (zs1 (zs0))))))) (in_4 _ (zs16 (zs4 (zs4 (zs0)))))) rfl rfl rfl hz_yX12_within_3 ⟨Nat.le_of_ble_eq_true rfl, Nat.le_of_ble_eq_true rfl⟩) ⟨fun _ _ _ _ q => q, fun _ _ _ => ⟨rfl, trivial⟩⟩ rfl rfl hl.1 rfl (lv_room (Nat.le_of_ble_eq_true rfl)) dX12_ranked_4 ⟨Nat.le_of_ble_eq_true rfl, Nat.le_of_ble_eq_true rfl⟩) hS (fun r1 H1 locs1 hw hk1 hS => ?_)
  have hP := ub_keep hP hk1
  generalize H1 = H at hP hS ⊢
  generalize locs1 = locs at hS ⊢
  rcases hw with hw | hw
  · -- cwithin, case 0
    obtain ⟨rfl, f2⟩ := hw
    have t3 : (0 : Int) ≤ a0.toInt := f2.1
    have t4 : a0.toInt ≤ 15 := f2.2
    have i5 : 0 ≤ a0.toInt ∧ a0.toInt ≤ 2147483647 := iv_le_r t3 (il_ 0) (iv_all _) (by decide)
    have i6 : 0 ≤ a0.toInt ∧ a0.toInt ≤ 15 := iv_le_l t4 i5 (il_ 15) (by decide)
    refine lv_if_eq (tgt := 21) hx hb dX12_ranked_7 (by decide) (fun c7 => ?_) (fun c7 => ?_)
    · --7 taken
      exact absurd c7 (by decide)
    · --7 not
      refine lv_aload_n hx hb dX12_ranked_10 rfl (lv_at hl 0 rfl) ?_
      refine th_getL (ci := 13) (C := RX12) (T := TX12) (N := 6) (v := .ref (ad 1)) hx hb hts hinX12 hown hK hP hI 0 (mF 0 rfl) rfl rfl 0 (Nat.le_of_ble_eq_true rfl) (hts _ (vA_in _ _ (in_10 _ (zs16 (zs1 (zs0)))))) (fun _ h9 => h9) (hI.fr 0 (mF 0 rfl) rfl (Nat.le_of_ble_eq_true rfl) 1 rfl) dX12_ranked_11 ?_
      refine lv_iload_n hx hb dX12_ranked_14 rfl (lv_at hl 2 rfl) ?_
      refine th_riL (va_runV (As := [.int a1]) (rest := []) ⟨hx, hb, hml, hown, hts⟩ (q_isKnownC l dC dI cT cf hC ad E H.size a1 hI) (cwV 1 hts (gi_V (in_18 _ (zs16 (zs4 (zs0)))) (in_6 _ (zs1 (zs1 (zs1 (zs0))))) (in_6 _ (zs4 (zs0))) (in_5 _ (zs4 (zs1 (zs1 (zs0))))) (in_6 _ (zs4 (zs1 (zs0))))) rfl rfl rfl ⟨rfl, hz_yX0_isKnown_1⟩ ⟨Nat.le_of_ble_eq_true rfl, Nat.le_of_ble_eq_true rfl⟩) ⟨HWL_bl, va_recv hK hP (ci := 1) (q0 := posL 1 (LC cf)) rfl (hI.ob 1 (mF 1 rfl) rfl), (HWL_wi hP hK (WL_D hD) hS hA hEV)⟩ rfl rfl hl.1 rfl (lv_room (Nat.le_of_ble_eq_true rfl)) dX12_ranked_15 ⟨Nat.le_of_ble_eq_true rfl, Nat.le_of_ble_eq_true rfl⟩) hS hP (fun r8 H locs hw hP hS => ?_)
      rcases hw with hw | hw
      · -- isKnownC, case 0
        obtain ⟨rfl, f9, f10⟩ := hw
        have i11 : 0 ≤ (xi (E 1) 0).toInt ∧ (xi (E 1) 0).toInt ≤ 400 := hI0.iv 1 (mF 1 rfl) rfl (Nat.le_of_ble_eq_true rfl) rfl
        refine lv_if_ne (tgt := 23) hx hb dX12_ranked_18 (by decide) (fun c12 => ?_) (fun c12 => ?_)
        · --18 taken
          refine lv_aload_n hx hb dX12_ranked_23 rfl (lv_at hl 0 rfl) ?_
          refine th_getL (ci := 13) (C := RX12) (T := TX12) (N := 6) (v := .ref (ad 4)) hx hb hts hinX12 hown hK hP hI 0 (mF 0 rfl) rfl rfl 3 (Nat.le_of_ble_eq_true rfl) (hts _ (vA_in _ _ (in_18 _ (zs16 (zs16 (zs1 (zs0))))))) (fun _ h9 => h9) (hI.fr 0 (mF 0 rfl) rfl (Nat.le_of_ble_eq_true rfl) 4 rfl) dX12_ranked_24 ?_
          refine lv_iload_n hx hb dX12_ranked_27 rfl (lv_at hl 2 rfl) ?_
          refine th_vL (va_runV (As := [.int a1]) (rest := []) ⟨hx, hb, hml, hown, hts⟩ (q_tallyX l dC dI cT cf hC ad E H.size a1 hI (by exact hh0)) (cwV 1 hts (gi_V (in_21 _ (zs16 (zs4 (zs1 (zs1 (zs0)))))) (in_21 _ (zs16 (zs4 (zs1 (zs1 (zs1 (zs0))))))) (in_21 _ (zs16 (zs4 (zs4 (zs0))))) (in_18 _ (zs16 (zs16 (zs0)))) (in_21 _ (zs16 (zs4 (zs4 (zs1 (zs0))))))) rfl rfl rfl ⟨rfl, hz_yX8_tally_1⟩ ⟨Nat.le_of_ble_eq_true rfl, Nat.le_of_ble_eq_true rfl⟩) ⟨HWL_bl, va_recv hK hP (ci := 9) (q0 := posL 4 (LC cf)) rfl (hI.ob 4 (mF 4 rfl) rfl), (HWL_wi hP hK (WL_D hD) hS hA hEV)⟩ rfl rfl hl.1 rfl (lv_room (Nat.le_of_ble_eq_true rfl)) dX12_ranked_28 ⟨Nat.le_of_ble_eq_true rfl, Nat.le_of_ble_eq_true rfl⟩) (WL_D hD) hS hA (fun E14 H locs hw hP hS => ?_)
          obtain ⟨hI, kq15, hw⟩ := hw
          have hKb := hKp
          have hKp := hKp.tr kq15 (wl_sub rfl rfl)
          have f16 := hw
          refine lv_aload_n hx hb dX12_ranked_31 rfl (lv_at hl 0 rfl) ?_
          refine th_getL (ci := 13) (C := RX12) (T := TX12) (N := 6) (v := .ref (ad 4)) hx hb hts hinX12 hown hK hP hI 0 (mF 0 rfl) rfl rfl 3 (Nat.le_of_ble_eq_true rfl) (hts _ (vA_in _ _ (in_18 _ (zs16 (zs16 (zs1 (zs0))))))) (fun _ h9 => h9) (hI.fr 0 (mF 0 rfl) rfl (Nat.le_of_ble_eq_true rfl) 4 rfl) dX12_ranked_32 ?_
          refine lv_iload_n hx hb dX12_ranked_35 rfl (lv_at hl 1 rfl) ?_
          refine th_iL (va_runV (As := [.int a0]) (rest := []) ⟨hx, hb, hml, hown, hts⟩ (q_boatAtX l dC dI cT cf hC ad E14 H.size a0 hI (by (try rw [hKp.ei 1 1 rfl]); obtain ⟨K9, o9, h8, h9⟩ := f16; rw [h8]; (try rw [show xi (E14 1) 1 = (xi (E 1) 1) from hKp.ei 1 1 rfl]); exact h9.ke (by omega))) (cwV 1 hts (gi_V (in_22 _ (zs4 (zs1 (zs0)))) (in_22 _ (zs4 (zs1 (zs1 (zs0))))) (in_22 _ (zs4 (zs1 (zs1 (zs1 (zs0)))))) (in_18 _ (zs16 (zs16 (zs0)))) (in_22 _ (zs4 (zs4 (zs0))))) rfl rfl rfl ⟨rfl, hz_yX8_boatAt_1⟩ ⟨Nat.le_of_ble_eq_true rfl, Nat.le_of_ble_eq_true rfl⟩) ⟨HWL_bl, va_recv hK hP (ci := 9) (q0 := posL 4 (LC cf)) rfl (hI.ob 4 (mF 4 rfl) rfl), (HWL_wi hP hK (WL_D hD) hS hA hEV)⟩ rfl rfl hl.1 rfl (lv_room (Nat.le_of_ble_eq_true rfl)) dX12_ranked_36 ⟨Nat.le_of_ble_eq_true rfl, Nat.le_of_ble_eq_true rfl⟩) (WL_D hD) hS hA (fun r17 E18 H locs hw hP hS => ?_)
          obtain ⟨hI, kq19, hw⟩ := hw
          have hKb := hKp
          have hKp := hKp.tr kq19 (wl_sub rfl rfl)
          obtain ⟨f20, f21⟩ := hw
          have i22 : 0 ≤ (xi (E 1) 1).toInt ∧ (xi (E 1) 1).toInt ≤ 16 := hI0.iv 1 (mF 1 rfl) rfl (Nat.le_of_ble_eq_true rfl) rfl
          try rw [hKb.ei 1 1 rfl] at f21
          rw [hQ]
          exact W.iret (v := r17) hx hb hr (fun t ht hW => ⟨⟨r17, E18, rfl, ⟨hI, hKp, ⟨fun _ => by obtain ⟨K9, o9, h8, h9⟩ := f16; have h7 := f21; rw [h8] at h7; (try rw [show xi (E14 1) 1 = (xi (E 1) 1) from hKb.ei 1 1 rfl] at h7); exact ⟨K9, o9, _, _, _, _, h9, h7⟩, fun g9 => by exfalso; omega⟩⟩, by show va_P (dC, dI) vwCl (WL (LC cf) ad E18) t.heap; rw [ht]; exact hP⟩, hS.F ht⟩) hS.2.2 dX12_ranked_39
        · --18 not
          exact absurd c12 (by decide)
      · -- isKnownC, case 1
        obtain ⟨rfl, f23⟩ := hw
        have i24 : 0 ≤ (xi (E 1) 0).toInt ∧ (xi (E 1) 0).toInt ≤ 400 := hI0.iv 1 (mF 1 rfl) rfl (Nat.le_of_ble_eq_true rfl) rfl
        refine lv_if_ne (tgt := 23) hx hb dX12_ranked_18 (by decide) (fun c25 => ?_) (fun c25 => ?_)
        · --18 taken
          exact absurd c25 (by decide)
        · --18 not
          refine lv_iconst (v := -1) hx hb dX12_ranked_21 (by decide) ?_
          rw [hQ]
          exact W.iret (v := (-1)) hx hb hr (fun t ht hW => ⟨⟨(-1), E, rfl, ⟨hI, hKp, ⟨fun g9 => by exfalso; omega, fun _ => rfl⟩⟩, by show va_P (dC, dI) vwCl (WL (LC cf) ad E) t.heap; rw [ht]; exact hP⟩, hS.F ht⟩) hS.2.2 dX12_ranked_22
  · -- cwithin, case 1
    obtain ⟨rfl, f26⟩ := hw
    have t27 : ¬ ((0 : Int) ≤ a0.toInt ∧ a0.toInt ≤ 15) := f26
    refine lv_if_eq (tgt := 21) hx hb dX12_ranked_7 (by decide) (fun c28 => ?_) (fun c28 => ?_)
    · --7 taken
      refine lv_iconst (v := -1) hx hb dX12_ranked_21 (by decide) ?_
      rw [hQ]
      exact W.iret (v := (-1)) hx hb hr (fun t ht hW => ⟨⟨(-1), E, rfl, ⟨hI, hKp, ⟨fun g9 => by exfalso; omega, fun _ => rfl⟩⟩, by show va_P (dC, dI) vwCl (WL (LC cf) ad E) t.heap; rw [ht]; exact hP⟩, hS.F ht⟩) hS.2.2 dX12_ranked_22
    · --7 not
      exact absurd c28 (by decide)
