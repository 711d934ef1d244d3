set_option maxRecDepth 100000 in
theorem zh_dX5_enteredIn_0_0 : zc cX5_enteredIn 0 [3, 61, 3, 62, 29, 16, 16, 162, 0, 21, 42, 29, 27, 182, 0, 55] = true := by decide +kernel
set_option maxRecDepth 100000 in
theorem zh_dX5_enteredIn_16_16 : zc cX5_enteredIn 16 [153, 0, 6, 132, 2, 1, 132, 3, 1, 167, 255, 235, 28, 172] = true := by decide +kernel
set_option maxRecDepth 100000 in
theorem zh_dX5_leaning_0_0 : zc cX5_leaning 0 [3, 60, 3, 61, 28, 16, 16, 162, 0, 84, 28, 4, 96, 62, 29, 16] = true := by decide +kernel
set_option maxRecDepth 100000 in
theorem zh_dX5_leaning_15_16 : zc cX5_leaning 16 [16, 162, 0, 68, 42, 180, 0, 18, 28, 46, 2, 159, 0, 52, 42, 180] = true := by decide +kernel
set_option maxRecDepth 100000 in
theorem zh_dX5_leaning_31_32 : zc cX5_leaning 32 [0, 18, 29, 46, 2, 160, 0, 6, 167, 0, 39, 27, 42, 180, 0, 18] = true := by decide +kernel
set_option maxRecDepth 100000 in
theorem zh_dX5_leaning_48_48 : zc cX5_leaning 48 [29, 46, 42, 180, 0, 18, 28, 46, 100, 184, 0, 59, 42, 180, 0, 21] = true := by decide +kernel
set_option maxRecDepth 100000 in
theorem zh_dX5_leaning_64_64 : zc cX5_leaning 64 [29, 46, 42, 180, 0, 21, 28, 46, 100, 184, 0, 59, 104, 96, 60, 132] = true := by decide +kernel
set_option maxRecDepth 100000 in
theorem zh_dX5_leaning_79_80 : zc cX5_leaning 80 [3, 1, 167, 255, 188, 132, 2, 1, 167, 255, 172, 27, 172] = true := by decide +kernel
set_option maxRecDepth 100000 in
theorem zh_dX12_lean_0_0 : zc cX12_lean 0 [42, 180, 0, 10, 27, 182, 0, 135, 154, 0, 6, 18, 172, 172, 42, 180] = true := by decide +kernel
set_option maxRecDepth 100000 in
theorem zh_dX12_lean_15_16 : zc cX12_lean 16 [0, 10, 180, 0, 127, 27, 182, 0, 138, 192, 0, 130, 182, 1, 23, 172] = true := by decide +kernel
set_option maxRecDepth 100000 in
theorem zh_dX13_lean_0_0 : zc cX13_lean 0 [42, 3, 181, 0, 228, 42, 27, 182, 1, 137, 154, 0, 7, 19, 1, 175] = true := by decide +kernel
set_option maxRecDepth 100000 in
theorem zh_dX13_lean_16_16 : zc cX13_lean 16 [172, 3, 61, 16, 16, 27, 104, 62, 29, 16, 16, 27, 104, 42, 180, 0] = true := by decide +kernel
set_option maxRecDepth 100000 in
theorem zh_dX13_lean_30_32 : zc cX13_lean 32 [239, 96, 162, 0, 115, 16, 16, 27, 104, 54, 4, 21, 4, 16, 16, 27] = true := by decide +kernel
set_option maxRecDepth 100000 in
theorem zh_dX13_lean_48_48 : zc cX13_lean 48 [104, 42, 180, 0, 239, 96, 162, 0, 89, 42, 180, 0, 77, 29, 46, 2] = true := by decide +kernel
set_option maxRecDepth 100000 in
theorem zh_dX13_lean_64_64 : zc cX13_lean 64 [159, 0, 73, 42, 180, 0, 77, 21, 4, 46, 2, 159, 0, 62, 42, 180] = true := by decide +kernel
set_option maxRecDepth 100000 in
theorem zh_dX13_lean_79_80 : zc cX13_lean 80 [0, 77, 29, 46, 42, 180, 0, 77, 21, 4, 46, 162, 0, 46, 42, 180] = true := by decide +kernel
set_option maxRecDepth 100000 in
theorem zh_dX13_lean_95_96 : zc cX13_lean 96 [0, 80, 29, 46, 42, 180, 0, 80, 21, 4, 46, 160, 0, 6, 167, 0] = true := by decide +kernel
set_option maxRecDepth 100000 in
theorem zh_dX13_lean_110_112 : zc cX13_lean 112 [27, 28, 42, 180, 0, 80, 29, 46, 42, 180, 0, 80, 21, 4, 46, 162] = true := by decide +kernel
set_option maxRecDepth 100000 in
theorem zh_dX13_lean_127_128 : zc cX13_lean 128 [0, 7, 4, 167, 0, 4, 2, 96, 61, 132, 4, 1, 167, 255, 159, 132] = true := by decide +kernel
set_option maxRecDepth 100000 in
theorem zh_dX13_lean_143_144 : zc cX13_lean 144 [3, 1, 167, 255, 134, 28, 172] = true := by decide +kernel
set_option maxRecDepth 100000 in
theorem zh_dJ6_signum_0f7a4_0_0 : zc cJ6_signum_0f7a4 0 [26, 16, 31, 122, 26, 116, 16, 31, 124, 128, 172] = true := by decide +kernel
theorem dX5_enteredIn_0 : decode cX5_enteredIn 0 = .ok (.iconst 0, 1) := zo_3 (zi_at zh_dX5_enteredIn_0_0 0 rfl)
theorem dX5_enteredIn_1 : decode cX5_enteredIn 1 = .ok (.istore_n 2, 1) := zo_61 (zi_at zh_dX5_enteredIn_0_0 1 rfl)
theorem dX5_enteredIn_2 : decode cX5_enteredIn 2 = .ok (.iconst 0, 1) := zo_3 (zi_at zh_dX5_enteredIn_0_0 2 rfl)
theorem dX5_enteredIn_3 : decode cX5_enteredIn 3 = .ok (.istore_n 3, 1) := zo_62 (zi_at zh_dX5_enteredIn_0_0 3 rfl)
theorem dX5_enteredIn_4 : decode cX5_enteredIn 4 = .ok (.iload_n 3, 1) := zo_29 (zi_at zh_dX5_enteredIn_0_0 4 rfl)
theorem dX5_enteredIn_5 : decode cX5_enteredIn 5 = .ok (.bipush 16, 2) := zo_16 (zi_at zh_dX5_enteredIn_0_0 5 rfl) (zi_at zh_dX5_enteredIn_0_0 6 rfl) rfl
theorem dX5_enteredIn_7 : decode cX5_enteredIn 7 = .ok (.if_icmp .ge 21, 3) := zo_162 (zi_at zh_dX5_enteredIn_0_0 7 rfl) (zi_at zh_dX5_enteredIn_0_0 8 rfl) (zi_at zh_dX5_enteredIn_0_0 9 rfl) rfl
theorem dX5_enteredIn_10 : decode cX5_enteredIn 10 = .ok (.aload_n 0, 1) := zo_42 (zi_at zh_dX5_enteredIn_0_0 10 rfl)
theorem dX5_enteredIn_11 : decode cX5_enteredIn 11 = .ok (.iload_n 3, 1) := zo_29 (zi_at zh_dX5_enteredIn_0_0 11 rfl)
theorem dX5_enteredIn_12 : decode cX5_enteredIn 12 = .ok (.iload_n 1, 1) := zo_27 (zi_at zh_dX5_enteredIn_0_0 12 rfl)
theorem dX5_enteredIn_13 : decode cX5_enteredIn 13 = .ok (.invokevirtual 55, 3) := zo_182 (zi_at zh_dX5_enteredIn_0_0 13 rfl) (zi_at zh_dX5_enteredIn_0_0 14 rfl) (zi_at zh_dX5_enteredIn_0_0 15 rfl) rfl
theorem dX5_enteredIn_16 : decode cX5_enteredIn 16 = .ok (.ifCond .eq 6, 3) := zo_153 (zi_at zh_dX5_enteredIn_16_16 0 rfl) (zi_at zh_dX5_enteredIn_16_16 1 rfl) (zi_at zh_dX5_enteredIn_16_16 2 rfl) rfl
theorem dX5_enteredIn_19 : decode cX5_enteredIn 19 = .ok (.iinc 2 1, 3) := zo_132 (zi_at zh_dX5_enteredIn_16_16 3 rfl) (zi_at zh_dX5_enteredIn_16_16 4 rfl) (zi_at zh_dX5_enteredIn_16_16 5 rfl) rfl
theorem dX5_enteredIn_22 : decode cX5_enteredIn 22 = .ok (.iinc 3 1, 3) := zo_132 (zi_at zh_dX5_enteredIn_16_16 6 rfl) (zi_at zh_dX5_enteredIn_16_16 7 rfl) (zi_at zh_dX5_enteredIn_16_16 8 rfl) rfl
theorem dX5_enteredIn_25 : decode cX5_enteredIn 25 = .ok (.goto (-21), 3) := zo_167 (zi_at zh_dX5_enteredIn_16_16 9 rfl) (zi_at zh_dX5_enteredIn_16_16 10 rfl) (zi_at zh_dX5_enteredIn_16_16 11 rfl) rfl
theorem dX5_enteredIn_28 : decode cX5_enteredIn 28 = .ok (.iload_n 2, 1) := zo_28 (zi_at zh_dX5_enteredIn_16_16 12 rfl)
theorem dX5_enteredIn_29 : decode cX5_enteredIn 29 = .ok (.ireturn, 1) := zo_172 (zi_at zh_dX5_enteredIn_16_16 13 rfl)
theorem dX5_leaning_0 : decode cX5_leaning 0 = .ok (.iconst 0, 1) := zo_3 (zi_at zh_dX5_leaning_0_0 0 rfl)
theorem dX5_leaning_1 : decode cX5_leaning 1 = .ok (.istore_n 1, 1) := zo_60 (zi_at zh_dX5_leaning_0_0 1 rfl)
theorem dX5_leaning_2 : decode cX5_leaning 2 = .ok (.iconst 0, 1) := zo_3 (zi_at zh_dX5_leaning_0_0 2 rfl)
theorem dX5_leaning_3 : decode cX5_leaning 3 = .ok (.istore_n 2, 1) := zo_61 (zi_at zh_dX5_leaning_0_0 3 rfl)
theorem dX5_leaning_4 : decode cX5_leaning 4 = .ok (.iload_n 2, 1) := zo_28 (zi_at zh_dX5_leaning_0_0 4 rfl)
theorem dX5_leaning_5 : decode cX5_leaning 5 = .ok (.bipush 16, 2) := zo_16 (zi_at zh_dX5_leaning_0_0 5 rfl) (zi_at zh_dX5_leaning_0_0 6 rfl) rfl
theorem dX5_leaning_7 : decode cX5_leaning 7 = .ok (.if_icmp .ge 84, 3) := zo_162 (zi_at zh_dX5_leaning_0_0 7 rfl) (zi_at zh_dX5_leaning_0_0 8 rfl) (zi_at zh_dX5_leaning_0_0 9 rfl) rfl
theorem dX5_leaning_10 : decode cX5_leaning 10 = .ok (.iload_n 2, 1) := zo_28 (zi_at zh_dX5_leaning_0_0 10 rfl)
theorem dX5_leaning_11 : decode cX5_leaning 11 = .ok (.iconst 1, 1) := zo_4 (zi_at zh_dX5_leaning_0_0 11 rfl)
theorem dX5_leaning_12 : decode cX5_leaning 12 = .ok (.iadd, 1) := zo_96 (zi_at zh_dX5_leaning_0_0 12 rfl)
theorem dX5_leaning_13 : decode cX5_leaning 13 = .ok (.istore_n 3, 1) := zo_62 (zi_at zh_dX5_leaning_0_0 13 rfl)
theorem dX5_leaning_14 : decode cX5_leaning 14 = .ok (.iload_n 3, 1) := zo_29 (zi_at zh_dX5_leaning_0_0 14 rfl)
theorem dX5_leaning_15 : decode cX5_leaning 15 = .ok (.bipush 16, 2) := zo_16 (zi_at zh_dX5_leaning_0_0 15 rfl) (zi_at zh_dX5_leaning_15_16 0 rfl) rfl
theorem dX5_leaning_17 : decode cX5_leaning 17 = .ok (.if_icmp .ge 68, 3) := zo_162 (zi_at zh_dX5_leaning_15_16 1 rfl) (zi_at zh_dX5_leaning_15_16 2 rfl) (zi_at zh_dX5_leaning_15_16 3 rfl) rfl
theorem dX5_leaning_20 : decode cX5_leaning 20 = .ok (.aload_n 0, 1) := zo_42 (zi_at zh_dX5_leaning_15_16 4 rfl)
theorem dX5_leaning_21 : decode cX5_leaning 21 = .ok (.getfield 18, 3) := zo_180 (zi_at zh_dX5_leaning_15_16 5 rfl) (zi_at zh_dX5_leaning_15_16 6 rfl) (zi_at zh_dX5_leaning_15_16 7 rfl) rfl
theorem dX5_leaning_24 : decode cX5_leaning 24 = .ok (.iload_n 2, 1) := zo_28 (zi_at zh_dX5_leaning_15_16 8 rfl)
theorem dX5_leaning_25 : decode cX5_leaning 25 = .ok (.iaload, 1) := zo_46 (zi_at zh_dX5_leaning_15_16 9 rfl)
theorem dX5_leaning_26 : decode cX5_leaning 26 = .ok (.iconst (-1), 1) := zo_2 (zi_at zh_dX5_leaning_15_16 10 rfl)
theorem dX5_leaning_27 : decode cX5_leaning 27 = .ok (.if_icmp .eq 52, 3) := zo_159 (zi_at zh_dX5_leaning_15_16 11 rfl) (zi_at zh_dX5_leaning_15_16 12 rfl) (zi_at zh_dX5_leaning_15_16 13 rfl) rfl
theorem dX5_leaning_30 : decode cX5_leaning 30 = .ok (.aload_n 0, 1) := zo_42 (zi_at zh_dX5_leaning_15_16 14 rfl)
theorem dX5_leaning_31 : decode cX5_leaning 31 = .ok (.getfield 18, 3) := zo_180 (zi_at zh_dX5_leaning_15_16 15 rfl) (zi_at zh_dX5_leaning_31_32 0 rfl) (zi_at zh_dX5_leaning_31_32 1 rfl) rfl
theorem dX5_leaning_34 : decode cX5_leaning 34 = .ok (.iload_n 3, 1) := zo_29 (zi_at zh_dX5_leaning_31_32 2 rfl)
theorem dX5_leaning_35 : decode cX5_leaning 35 = .ok (.iaload, 1) := zo_46 (zi_at zh_dX5_leaning_31_32 3 rfl)
theorem dX5_leaning_36 : decode cX5_leaning 36 = .ok (.iconst (-1), 1) := zo_2 (zi_at zh_dX5_leaning_31_32 4 rfl)
theorem dX5_leaning_37 : decode cX5_leaning 37 = .ok (.if_icmp .ne 6, 3) := zo_160 (zi_at zh_dX5_leaning_31_32 5 rfl) (zi_at zh_dX5_leaning_31_32 6 rfl) (zi_at zh_dX5_leaning_31_32 7 rfl) rfl
theorem dX5_leaning_40 : decode cX5_leaning 40 = .ok (.goto 39, 3) := zo_167 (zi_at zh_dX5_leaning_31_32 8 rfl) (zi_at zh_dX5_leaning_31_32 9 rfl) (zi_at zh_dX5_leaning_31_32 10 rfl) rfl
theorem dX5_leaning_43 : decode cX5_leaning 43 = .ok (.iload_n 1, 1) := zo_27 (zi_at zh_dX5_leaning_31_32 11 rfl)
theorem dX5_leaning_44 : decode cX5_leaning 44 = .ok (.aload_n 0, 1) := zo_42 (zi_at zh_dX5_leaning_31_32 12 rfl)
theorem dX5_leaning_45 : decode cX5_leaning 45 = .ok (.getfield 18, 3) := zo_180 (zi_at zh_dX5_leaning_31_32 13 rfl) (zi_at zh_dX5_leaning_31_32 14 rfl) (zi_at zh_dX5_leaning_31_32 15 rfl) rfl
theorem dX5_leaning_48 : decode cX5_leaning 48 = .ok (.iload_n 3, 1) := zo_29 (zi_at zh_dX5_leaning_48_48 0 rfl)
theorem dX5_leaning_49 : decode cX5_leaning 49 = .ok (.iaload, 1) := zo_46 (zi_at zh_dX5_leaning_48_48 1 rfl)
theorem dX5_leaning_50 : decode cX5_leaning 50 = .ok (.aload_n 0, 1) := zo_42 (zi_at zh_dX5_leaning_48_48 2 rfl)
theorem dX5_leaning_51 : decode cX5_leaning 51 = .ok (.getfield 18, 3) := zo_180 (zi_at zh_dX5_leaning_48_48 3 rfl) (zi_at zh_dX5_leaning_48_48 4 rfl) (zi_at zh_dX5_leaning_48_48 5 rfl) rfl
theorem dX5_leaning_54 : decode cX5_leaning 54 = .ok (.iload_n 2, 1) := zo_28 (zi_at zh_dX5_leaning_48_48 6 rfl)
theorem dX5_leaning_55 : decode cX5_leaning 55 = .ok (.iaload, 1) := zo_46 (zi_at zh_dX5_leaning_48_48 7 rfl)
theorem dX5_leaning_56 : decode cX5_leaning 56 = .ok (.isub, 1) := zo_100 (zi_at zh_dX5_leaning_48_48 8 rfl)
theorem dX5_leaning_57 : decode cX5_leaning 57 = .ok (.invokestatic 59, 3) := zo_184 (zi_at zh_dX5_leaning_48_48 9 rfl) (zi_at zh_dX5_leaning_48_48 10 rfl) (zi_at zh_dX5_leaning_48_48 11 rfl) rfl
theorem dX5_leaning_60 : decode cX5_leaning 60 = .ok (.aload_n 0, 1) := zo_42 (zi_at zh_dX5_leaning_48_48 12 rfl)
theorem dX5_leaning_61 : decode cX5_leaning 61 = .ok (.getfield 21, 3) := zo_180 (zi_at zh_dX5_leaning_48_48 13 rfl) (zi_at zh_dX5_leaning_48_48 14 rfl) (zi_at zh_dX5_leaning_48_48 15 rfl) rfl
theorem dX5_leaning_64 : decode cX5_leaning 64 = .ok (.iload_n 3, 1) := zo_29 (zi_at zh_dX5_leaning_64_64 0 rfl)
theorem dX5_leaning_65 : decode cX5_leaning 65 = .ok (.iaload, 1) := zo_46 (zi_at zh_dX5_leaning_64_64 1 rfl)
theorem dX5_leaning_66 : decode cX5_leaning 66 = .ok (.aload_n 0, 1) := zo_42 (zi_at zh_dX5_leaning_64_64 2 rfl)
theorem dX5_leaning_67 : decode cX5_leaning 67 = .ok (.getfield 21, 3) := zo_180 (zi_at zh_dX5_leaning_64_64 3 rfl) (zi_at zh_dX5_leaning_64_64 4 rfl) (zi_at zh_dX5_leaning_64_64 5 rfl) rfl
theorem dX5_leaning_70 : decode cX5_leaning 70 = .ok (.iload_n 2, 1) := zo_28 (zi_at zh_dX5_leaning_64_64 6 rfl)
theorem dX5_leaning_71 : decode cX5_leaning 71 = .ok (.iaload, 1) := zo_46 (zi_at zh_dX5_leaning_64_64 7 rfl)
theorem dX5_leaning_72 : decode cX5_leaning 72 = .ok (.isub, 1) := zo_100 (zi_at zh_dX5_leaning_64_64 8 rfl)
theorem dX5_leaning_73 : decode cX5_leaning 73 = .ok (.invokestatic 59, 3) := zo_184 (zi_at zh_dX5_leaning_64_64 9 rfl) (zi_at zh_dX5_leaning_64_64 10 rfl) (zi_at zh_dX5_leaning_64_64 11 rfl) rfl
theorem dX5_leaning_76 : decode cX5_leaning 76 = .ok (.imul, 1) := zo_104 (zi_at zh_dX5_leaning_64_64 12 rfl)
theorem dX5_leaning_77 : decode cX5_leaning 77 = .ok (.iadd, 1) := zo_96 (zi_at zh_dX5_leaning_64_64 13 rfl)
theorem dX5_leaning_78 : decode cX5_leaning 78 = .ok (.istore_n 1, 1) := zo_60 (zi_at zh_dX5_leaning_64_64 14 rfl)
theorem dX5_leaning_79 : decode cX5_leaning 79 = .ok (.iinc 3 1, 3) := zo_132 (zi_at zh_dX5_leaning_64_64 15 rfl) (zi_at zh_dX5_leaning_79_80 0 rfl) (zi_at zh_dX5_leaning_79_80 1 rfl) rfl
theorem dX5_leaning_82 : decode cX5_leaning 82 = .ok (.goto (-68), 3) := zo_167 (zi_at zh_dX5_leaning_79_80 2 rfl) (zi_at zh_dX5_leaning_79_80 3 rfl) (zi_at zh_dX5_leaning_79_80 4 rfl) rfl
theorem dX5_leaning_85 : decode cX5_leaning 85 = .ok (.iinc 2 1, 3) := zo_132 (zi_at zh_dX5_leaning_79_80 5 rfl) (zi_at zh_dX5_leaning_79_80 6 rfl) (zi_at zh_dX5_leaning_79_80 7 rfl) rfl
theorem dX5_leaning_88 : decode cX5_leaning 88 = .ok (.goto (-84), 3) := zo_167 (zi_at zh_dX5_leaning_79_80 8 rfl) (zi_at zh_dX5_leaning_79_80 9 rfl) (zi_at zh_dX5_leaning_79_80 10 rfl) rfl
theorem dX5_leaning_91 : decode cX5_leaning 91 = .ok (.iload_n 1, 1) := zo_27 (zi_at zh_dX5_leaning_79_80 11 rfl)
theorem dX5_leaning_92 : decode cX5_leaning 92 = .ok (.ireturn, 1) := zo_172 (zi_at zh_dX5_leaning_79_80 12 rfl)
theorem dX12_lean_0 : decode cX12_lean 0 = .ok (.aload_n 0, 1) := zo_42 (zi_at zh_dX12_lean_0_0 0 rfl)
theorem dX12_lean_1 : decode cX12_lean 1 = .ok (.getfield 10, 3) := zo_180 (zi_at zh_dX12_lean_0_0 1 rfl) (zi_at zh_dX12_lean_0_0 2 rfl) (zi_at zh_dX12_lean_0_0 3 rfl) rfl
theorem dX12_lean_4 : decode cX12_lean 4 = .ok (.iload_n 1, 1) := zo_27 (zi_at zh_dX12_lean_0_0 4 rfl)
theorem dX12_lean_5 : decode cX12_lean 5 = .ok (.invokevirtual 135, 3) := zo_182 (zi_at zh_dX12_lean_0_0 5 rfl) (zi_at zh_dX12_lean_0_0 6 rfl) (zi_at zh_dX12_lean_0_0 7 rfl) rfl
theorem dX12_lean_8 : decode cX12_lean 8 = .ok (.ifCond .ne 6, 3) := zo_154 (zi_at zh_dX12_lean_0_0 8 rfl) (zi_at zh_dX12_lean_0_0 9 rfl) (zi_at zh_dX12_lean_0_0 10 rfl) rfl
theorem dX12_lean_11 : decode cX12_lean 11 = .ok (.ldc 172, 2) := zo_18 (zi_at zh_dX12_lean_0_0 11 rfl) (zi_at zh_dX12_lean_0_0 12 rfl)
theorem dX12_lean_13 : decode cX12_lean 13 = .ok (.ireturn, 1) := zo_172 (zi_at zh_dX12_lean_0_0 13 rfl)
theorem dX12_lean_14 : decode cX12_lean 14 = .ok (.aload_n 0, 1) := zo_42 (zi_at zh_dX12_lean_0_0 14 rfl)
theorem dX12_lean_15 : decode cX12_lean 15 = .ok (.getfield 10, 3) := zo_180 (zi_at zh_dX12_lean_0_0 15 rfl) (zi_at zh_dX12_lean_15_16 0 rfl) (zi_at zh_dX12_lean_15_16 1 rfl) rfl
theorem dX12_lean_18 : decode cX12_lean 18 = .ok (.getfield 127, 3) := zo_180 (zi_at zh_dX12_lean_15_16 2 rfl) (zi_at zh_dX12_lean_15_16 3 rfl) (zi_at zh_dX12_lean_15_16 4 rfl) rfl
theorem dX12_lean_21 : decode cX12_lean 21 = .ok (.iload_n 1, 1) := zo_27 (zi_at zh_dX12_lean_15_16 5 rfl)
theorem dX12_lean_22 : decode cX12_lean 22 = .ok (.invokevirtual 138, 3) := zo_182 (zi_at zh_dX12_lean_15_16 6 rfl) (zi_at zh_dX12_lean_15_16 7 rfl) (zi_at zh_dX12_lean_15_16 8 rfl) rfl
theorem dX12_lean_25 : decode cX12_lean 25 = .ok (.checkcast 130, 3) := zo_192 (zi_at zh_dX12_lean_15_16 9 rfl) (zi_at zh_dX12_lean_15_16 10 rfl) (zi_at zh_dX12_lean_15_16 11 rfl) rfl
theorem dX12_lean_28 : decode cX12_lean 28 = .ok (.invokevirtual 279, 3) := zo_182 (zi_at zh_dX12_lean_15_16 12 rfl) (zi_at zh_dX12_lean_15_16 13 rfl) (zi_at zh_dX12_lean_15_16 14 rfl) rfl
theorem dX12_lean_31 : decode cX12_lean 31 = .ok (.ireturn, 1) := zo_172 (zi_at zh_dX12_lean_15_16 15 rfl)
theorem dX13_lean_0 : decode cX13_lean 0 = .ok (.aload_n 0, 1) := zo_42 (zi_at zh_dX13_lean_0_0 0 rfl)
theorem dX13_lean_1 : decode cX13_lean 1 = .ok (.iconst 0, 1) := zo_3 (zi_at zh_dX13_lean_0_0 1 rfl)
theorem dX13_lean_2 : decode cX13_lean 2 = .ok (.putfield 228, 3) := zo_181 (zi_at zh_dX13_lean_0_0 2 rfl) (zi_at zh_dX13_lean_0_0 3 rfl) (zi_at zh_dX13_lean_0_0 4 rfl) rfl
theorem dX13_lean_5 : decode cX13_lean 5 = .ok (.aload_n 0, 1) := zo_42 (zi_at zh_dX13_lean_0_0 5 rfl)
theorem dX13_lean_6 : decode cX13_lean 6 = .ok (.iload_n 1, 1) := zo_27 (zi_at zh_dX13_lean_0_0 6 rfl)
theorem dX13_lean_7 : decode cX13_lean 7 = .ok (.invokevirtual 393, 3) := zo_182 (zi_at zh_dX13_lean_0_0 7 rfl) (zi_at zh_dX13_lean_0_0 8 rfl) (zi_at zh_dX13_lean_0_0 9 rfl) rfl
theorem dX13_lean_10 : decode cX13_lean 10 = .ok (.ifCond .ne 7, 3) := zo_154 (zi_at zh_dX13_lean_0_0 10 rfl) (zi_at zh_dX13_lean_0_0 11 rfl) (zi_at zh_dX13_lean_0_0 12 rfl) rfl
theorem dX13_lean_13 : decode cX13_lean 13 = .ok (.ldc_w 431, 3) := zo_19 (zi_at zh_dX13_lean_0_0 13 rfl) (zi_at zh_dX13_lean_0_0 14 rfl) (zi_at zh_dX13_lean_0_0 15 rfl) rfl
theorem dX13_lean_16 : decode cX13_lean 16 = .ok (.ireturn, 1) := zo_172 (zi_at zh_dX13_lean_16_16 0 rfl)
theorem dX13_lean_17 : decode cX13_lean 17 = .ok (.iconst 0, 1) := zo_3 (zi_at zh_dX13_lean_16_16 1 rfl)
theorem dX13_lean_18 : decode cX13_lean 18 = .ok (.istore_n 2, 1) := zo_61 (zi_at zh_dX13_lean_16_16 2 rfl)
theorem dX13_lean_19 : decode cX13_lean 19 = .ok (.bipush 16, 2) := zo_16 (zi_at zh_dX13_lean_16_16 3 rfl) (zi_at zh_dX13_lean_16_16 4 rfl) rfl
theorem dX13_lean_21 : decode cX13_lean 21 = .ok (.iload_n 1, 1) := zo_27 (zi_at zh_dX13_lean_16_16 5 rfl)
theorem dX13_lean_22 : decode cX13_lean 22 = .ok (.imul, 1) := zo_104 (zi_at zh_dX13_lean_16_16 6 rfl)
theorem dX13_lean_23 : decode cX13_lean 23 = .ok (.istore_n 3, 1) := zo_62 (zi_at zh_dX13_lean_16_16 7 rfl)
theorem dX13_lean_24 : decode cX13_lean 24 = .ok (.iload_n 3, 1) := zo_29 (zi_at zh_dX13_lean_16_16 8 rfl)
theorem dX13_lean_25 : decode cX13_lean 25 = .ok (.bipush 16, 2) := zo_16 (zi_at zh_dX13_lean_16_16 9 rfl) (zi_at zh_dX13_lean_16_16 10 rfl) rfl
theorem dX13_lean_27 : decode cX13_lean 27 = .ok (.iload_n 1, 1) := zo_27 (zi_at zh_dX13_lean_16_16 11 rfl)
theorem dX13_lean_28 : decode cX13_lean 28 = .ok (.imul, 1) := zo_104 (zi_at zh_dX13_lean_16_16 12 rfl)
theorem dX13_lean_29 : decode cX13_lean 29 = .ok (.aload_n 0, 1) := zo_42 (zi_at zh_dX13_lean_16_16 13 rfl)
theorem dX13_lean_30 : decode cX13_lean 30 = .ok (.getfield 239, 3) := zo_180 (zi_at zh_dX13_lean_16_16 14 rfl) (zi_at zh_dX13_lean_16_16 15 rfl) (zi_at zh_dX13_lean_30_32 0 rfl) rfl
theorem dX13_lean_33 : decode cX13_lean 33 = .ok (.iadd, 1) := zo_96 (zi_at zh_dX13_lean_30_32 1 rfl)
theorem dX13_lean_34 : decode cX13_lean 34 = .ok (.if_icmp .ge 115, 3) := zo_162 (zi_at zh_dX13_lean_30_32 2 rfl) (zi_at zh_dX13_lean_30_32 3 rfl) (zi_at zh_dX13_lean_30_32 4 rfl) rfl
theorem dX13_lean_37 : decode cX13_lean 37 = .ok (.bipush 16, 2) := zo_16 (zi_at zh_dX13_lean_30_32 5 rfl) (zi_at zh_dX13_lean_30_32 6 rfl) rfl
theorem dX13_lean_39 : decode cX13_lean 39 = .ok (.iload_n 1, 1) := zo_27 (zi_at zh_dX13_lean_30_32 7 rfl)
theorem dX13_lean_40 : decode cX13_lean 40 = .ok (.imul, 1) := zo_104 (zi_at zh_dX13_lean_30_32 8 rfl)
theorem dX13_lean_41 : decode cX13_lean 41 = .ok (.istore 4, 2) := zo_54 (zi_at zh_dX13_lean_30_32 9 rfl) (zi_at zh_dX13_lean_30_32 10 rfl)
theorem dX13_lean_43 : decode cX13_lean 43 = .ok (.iload 4, 2) := zo_21 (zi_at zh_dX13_lean_30_32 11 rfl) (zi_at zh_dX13_lean_30_32 12 rfl)
theorem dX13_lean_45 : decode cX13_lean 45 = .ok (.bipush 16, 2) := zo_16 (zi_at zh_dX13_lean_30_32 13 rfl) (zi_at zh_dX13_lean_30_32 14 rfl) rfl
theorem dX13_lean_47 : decode cX13_lean 47 = .ok (.iload_n 1, 1) := zo_27 (zi_at zh_dX13_lean_30_32 15 rfl)
theorem dX13_lean_48 : decode cX13_lean 48 = .ok (.imul, 1) := zo_104 (zi_at zh_dX13_lean_48_48 0 rfl)
theorem dX13_lean_49 : decode cX13_lean 49 = .ok (.aload_n 0, 1) := zo_42 (zi_at zh_dX13_lean_48_48 1 rfl)
theorem dX13_lean_50 : decode cX13_lean 50 = .ok (.getfield 239, 3) := zo_180 (zi_at zh_dX13_lean_48_48 2 rfl) (zi_at zh_dX13_lean_48_48 3 rfl) (zi_at zh_dX13_lean_48_48 4 rfl) rfl
theorem dX13_lean_53 : decode cX13_lean 53 = .ok (.iadd, 1) := zo_96 (zi_at zh_dX13_lean_48_48 5 rfl)
theorem dX13_lean_54 : decode cX13_lean 54 = .ok (.if_icmp .ge 89, 3) := zo_162 (zi_at zh_dX13_lean_48_48 6 rfl) (zi_at zh_dX13_lean_48_48 7 rfl) (zi_at zh_dX13_lean_48_48 8 rfl) rfl
theorem dX13_lean_57 : decode cX13_lean 57 = .ok (.aload_n 0, 1) := zo_42 (zi_at zh_dX13_lean_48_48 9 rfl)
theorem dX13_lean_58 : decode cX13_lean 58 = .ok (.getfield 77, 3) := zo_180 (zi_at zh_dX13_lean_48_48 10 rfl) (zi_at zh_dX13_lean_48_48 11 rfl) (zi_at zh_dX13_lean_48_48 12 rfl) rfl
theorem dX13_lean_61 : decode cX13_lean 61 = .ok (.iload_n 3, 1) := zo_29 (zi_at zh_dX13_lean_48_48 13 rfl)
theorem dX13_lean_62 : decode cX13_lean 62 = .ok (.iaload, 1) := zo_46 (zi_at zh_dX13_lean_48_48 14 rfl)
theorem dX13_lean_63 : decode cX13_lean 63 = .ok (.iconst (-1), 1) := zo_2 (zi_at zh_dX13_lean_48_48 15 rfl)
theorem dX13_lean_64 : decode cX13_lean 64 = .ok (.if_icmp .eq 73, 3) := zo_159 (zi_at zh_dX13_lean_64_64 0 rfl) (zi_at zh_dX13_lean_64_64 1 rfl) (zi_at zh_dX13_lean_64_64 2 rfl) rfl
theorem dX13_lean_67 : decode cX13_lean 67 = .ok (.aload_n 0, 1) := zo_42 (zi_at zh_dX13_lean_64_64 3 rfl)
theorem dX13_lean_68 : decode cX13_lean 68 = .ok (.getfield 77, 3) := zo_180 (zi_at zh_dX13_lean_64_64 4 rfl) (zi_at zh_dX13_lean_64_64 5 rfl) (zi_at zh_dX13_lean_64_64 6 rfl) rfl
theorem dX13_lean_71 : decode cX13_lean 71 = .ok (.iload 4, 2) := zo_21 (zi_at zh_dX13_lean_64_64 7 rfl) (zi_at zh_dX13_lean_64_64 8 rfl)
theorem dX13_lean_73 : decode cX13_lean 73 = .ok (.iaload, 1) := zo_46 (zi_at zh_dX13_lean_64_64 9 rfl)
theorem dX13_lean_74 : decode cX13_lean 74 = .ok (.iconst (-1), 1) := zo_2 (zi_at zh_dX13_lean_64_64 10 rfl)
theorem dX13_lean_75 : decode cX13_lean 75 = .ok (.if_icmp .eq 62, 3) := zo_159 (zi_at zh_dX13_lean_64_64 11 rfl) (zi_at zh_dX13_lean_64_64 12 rfl) (zi_at zh_dX13_lean_64_64 13 rfl) rfl
theorem dX13_lean_78 : decode cX13_lean 78 = .ok (.aload_n 0, 1) := zo_42 (zi_at zh_dX13_lean_64_64 14 rfl)
theorem dX13_lean_79 : decode cX13_lean 79 = .ok (.getfield 77, 3) := zo_180 (zi_at zh_dX13_lean_64_64 15 rfl) (zi_at zh_dX13_lean_79_80 0 rfl) (zi_at zh_dX13_lean_79_80 1 rfl) rfl
theorem dX13_lean_82 : decode cX13_lean 82 = .ok (.iload_n 3, 1) := zo_29 (zi_at zh_dX13_lean_79_80 2 rfl)
theorem dX13_lean_83 : decode cX13_lean 83 = .ok (.iaload, 1) := zo_46 (zi_at zh_dX13_lean_79_80 3 rfl)
theorem dX13_lean_84 : decode cX13_lean 84 = .ok (.aload_n 0, 1) := zo_42 (zi_at zh_dX13_lean_79_80 4 rfl)
theorem dX13_lean_85 : decode cX13_lean 85 = .ok (.getfield 77, 3) := zo_180 (zi_at zh_dX13_lean_79_80 5 rfl) (zi_at zh_dX13_lean_79_80 6 rfl) (zi_at zh_dX13_lean_79_80 7 rfl) rfl
theorem dX13_lean_88 : decode cX13_lean 88 = .ok (.iload 4, 2) := zo_21 (zi_at zh_dX13_lean_79_80 8 rfl) (zi_at zh_dX13_lean_79_80 9 rfl)
theorem dX13_lean_90 : decode cX13_lean 90 = .ok (.iaload, 1) := zo_46 (zi_at zh_dX13_lean_79_80 10 rfl)
theorem dX13_lean_91 : decode cX13_lean 91 = .ok (.if_icmp .ge 46, 3) := zo_162 (zi_at zh_dX13_lean_79_80 11 rfl) (zi_at zh_dX13_lean_79_80 12 rfl) (zi_at zh_dX13_lean_79_80 13 rfl) rfl
theorem dX13_lean_94 : decode cX13_lean 94 = .ok (.aload_n 0, 1) := zo_42 (zi_at zh_dX13_lean_79_80 14 rfl)
theorem dX13_lean_95 : decode cX13_lean 95 = .ok (.getfield 80, 3) := zo_180 (zi_at zh_dX13_lean_79_80 15 rfl) (zi_at zh_dX13_lean_95_96 0 rfl) (zi_at zh_dX13_lean_95_96 1 rfl) rfl
theorem dX13_lean_98 : decode cX13_lean 98 = .ok (.iload_n 3, 1) := zo_29 (zi_at zh_dX13_lean_95_96 2 rfl)
theorem dX13_lean_99 : decode cX13_lean 99 = .ok (.iaload, 1) := zo_46 (zi_at zh_dX13_lean_95_96 3 rfl)
theorem dX13_lean_100 : decode cX13_lean 100 = .ok (.aload_n 0, 1) := zo_42 (zi_at zh_dX13_lean_95_96 4 rfl)
theorem dX13_lean_101 : decode cX13_lean 101 = .ok (.getfield 80, 3) := zo_180 (zi_at zh_dX13_lean_95_96 5 rfl) (zi_at zh_dX13_lean_95_96 6 rfl) (zi_at zh_dX13_lean_95_96 7 rfl) rfl
theorem dX13_lean_104 : decode cX13_lean 104 = .ok (.iload 4, 2) := zo_21 (zi_at zh_dX13_lean_95_96 8 rfl) (zi_at zh_dX13_lean_95_96 9 rfl)
theorem dX13_lean_106 : decode cX13_lean 106 = .ok (.iaload, 1) := zo_46 (zi_at zh_dX13_lean_95_96 10 rfl)
theorem dX13_lean_107 : decode cX13_lean 107 = .ok (.if_icmp .ne 6, 3) := zo_160 (zi_at zh_dX13_lean_95_96 11 rfl) (zi_at zh_dX13_lean_95_96 12 rfl) (zi_at zh_dX13_lean_95_96 13 rfl) rfl
theorem dX13_lean_110 : decode cX13_lean 110 = .ok (.goto 27, 3) := zo_167 (zi_at zh_dX13_lean_95_96 14 rfl) (zi_at zh_dX13_lean_95_96 15 rfl) (zi_at zh_dX13_lean_110_112 0 rfl) rfl
theorem dX13_lean_113 : decode cX13_lean 113 = .ok (.iload_n 2, 1) := zo_28 (zi_at zh_dX13_lean_110_112 1 rfl)
theorem dX13_lean_114 : decode cX13_lean 114 = .ok (.aload_n 0, 1) := zo_42 (zi_at zh_dX13_lean_110_112 2 rfl)
theorem dX13_lean_115 : decode cX13_lean 115 = .ok (.getfield 80, 3) := zo_180 (zi_at zh_dX13_lean_110_112 3 rfl) (zi_at zh_dX13_lean_110_112 4 rfl) (zi_at zh_dX13_lean_110_112 5 rfl) rfl
theorem dX13_lean_118 : decode cX13_lean 118 = .ok (.iload_n 3, 1) := zo_29 (zi_at zh_dX13_lean_110_112 6 rfl)
theorem dX13_lean_119 : decode cX13_lean 119 = .ok (.iaload, 1) := zo_46 (zi_at zh_dX13_lean_110_112 7 rfl)
theorem dX13_lean_120 : decode cX13_lean 120 = .ok (.aload_n 0, 1) := zo_42 (zi_at zh_dX13_lean_110_112 8 rfl)
theorem dX13_lean_121 : decode cX13_lean 121 = .ok (.getfield 80, 3) := zo_180 (zi_at zh_dX13_lean_110_112 9 rfl) (zi_at zh_dX13_lean_110_112 10 rfl) (zi_at zh_dX13_lean_110_112 11 rfl) rfl
theorem dX13_lean_124 : decode cX13_lean 124 = .ok (.iload 4, 2) := zo_21 (zi_at zh_dX13_lean_110_112 12 rfl) (zi_at zh_dX13_lean_110_112 13 rfl)
theorem dX13_lean_126 : decode cX13_lean 126 = .ok (.iaload, 1) := zo_46 (zi_at zh_dX13_lean_110_112 14 rfl)
theorem dX13_lean_127 : decode cX13_lean 127 = .ok (.if_icmp .ge 7, 3) := zo_162 (zi_at zh_dX13_lean_110_112 15 rfl) (zi_at zh_dX13_lean_127_128 0 rfl) (zi_at zh_dX13_lean_127_128 1 rfl) rfl
theorem dX13_lean_130 : decode cX13_lean 130 = .ok (.iconst 1, 1) := zo_4 (zi_at zh_dX13_lean_127_128 2 rfl)
theorem dX13_lean_131 : decode cX13_lean 131 = .ok (.goto 4, 3) := zo_167 (zi_at zh_dX13_lean_127_128 3 rfl) (zi_at zh_dX13_lean_127_128 4 rfl) (zi_at zh_dX13_lean_127_128 5 rfl) rfl
theorem dX13_lean_134 : decode cX13_lean 134 = .ok (.iconst (-1), 1) := zo_2 (zi_at zh_dX13_lean_127_128 6 rfl)
theorem dX13_lean_135 : decode cX13_lean 135 = .ok (.iadd, 1) := zo_96 (zi_at zh_dX13_lean_127_128 7 rfl)
theorem dX13_lean_136 : decode cX13_lean 136 = .ok (.istore_n 2, 1) := zo_61 (zi_at zh_dX13_lean_127_128 8 rfl)
theorem dX13_lean_137 : decode cX13_lean 137 = .ok (.iinc 4 1, 3) := zo_132 (zi_at zh_dX13_lean_127_128 9 rfl) (zi_at zh_dX13_lean_127_128 10 rfl) (zi_at zh_dX13_lean_127_128 11 rfl) rfl
theorem dX13_lean_140 : decode cX13_lean 140 = .ok (.goto (-97), 3) := zo_167 (zi_at zh_dX13_lean_127_128 12 rfl) (zi_at zh_dX13_lean_127_128 13 rfl) (zi_at zh_dX13_lean_127_128 14 rfl) rfl
theorem dX13_lean_143 : decode cX13_lean 143 = .ok (.iinc 3 1, 3) := zo_132 (zi_at zh_dX13_lean_127_128 15 rfl) (zi_at zh_dX13_lean_143_144 0 rfl) (zi_at zh_dX13_lean_143_144 1 rfl) rfl
theorem dX13_lean_146 : decode cX13_lean 146 = .ok (.goto (-122), 3) := zo_167 (zi_at zh_dX13_lean_143_144 2 rfl) (zi_at zh_dX13_lean_143_144 3 rfl) (zi_at zh_dX13_lean_143_144 4 rfl) rfl
theorem dX13_lean_149 : decode cX13_lean 149 = .ok (.iload_n 2, 1) := zo_28 (zi_at zh_dX13_lean_143_144 5 rfl)
theorem dX13_lean_150 : decode cX13_lean 150 = .ok (.ireturn, 1) := zo_172 (zi_at zh_dX13_lean_143_144 6 rfl)
theorem dJ6_signum_0f7a4_0 : decode cJ6_signum_0f7a4 0 = .ok (.iload_n 0, 1) := zo_26 (zi_at zh_dJ6_signum_0f7a4_0_0 0 rfl)
theorem dJ6_signum_0f7a4_1 : decode cJ6_signum_0f7a4 1 = .ok (.bipush 31, 2) := zo_16 (zi_at zh_dJ6_signum_0f7a4_0_0 1 rfl) (zi_at zh_dJ6_signum_0f7a4_0_0 2 rfl) rfl
theorem dJ6_signum_0f7a4_3 : decode cJ6_signum_0f7a4 3 = .ok (.ishr, 1) := zo_122 (zi_at zh_dJ6_signum_0f7a4_0_0 3 rfl)
theorem dJ6_signum_0f7a4_4 : decode cJ6_signum_0f7a4 4 = .ok (.iload_n 0, 1) := zo_26 (zi_at zh_dJ6_signum_0f7a4_0_0 4 rfl)
theorem dJ6_signum_0f7a4_5 : decode cJ6_signum_0f7a4 5 = .ok (.ineg, 1) := zo_116 (zi_at zh_dJ6_signum_0f7a4_0_0 5 rfl)
theorem dJ6_signum_0f7a4_6 : decode cJ6_signum_0f7a4 6 = .ok (.bipush 31, 2) := zo_16 (zi_at zh_dJ6_signum_0f7a4_0_0 6 rfl) (zi_at zh_dJ6_signum_0f7a4_0_0 7 rfl) rfl
theorem dJ6_signum_0f7a4_8 : decode cJ6_signum_0f7a4 8 = .ok (.iushr, 1) := zo_124 (zi_at zh_dJ6_signum_0f7a4_0_0 8 rfl)
theorem dJ6_signum_0f7a4_9 : decode cJ6_signum_0f7a4 9 = .ok (.ior, 1) := zo_128 (zi_at zh_dJ6_signum_0f7a4_0_0 9 rfl)
theorem dJ6_signum_0f7a4_10 : decode cJ6_signum_0f7a4 10 = .ok (.ireturn, 1) := zo_172 (zi_at zh_dJ6_signum_0f7a4_0_0 10 rfl)
theorem hz_yJ6_signum_0f7a4_1 : yJ6_signum_0f7a4.cls ≠ "java/lang/invoke/MethodHandle" ∧ yJ6_signum_0f7a4.cls ≠ "java/lang/invoke/VarHandle" ∧ (parseMethodDescriptor yJ6_signum_0f7a4.desc).map (fun d => d.parameters.length) = some 1 := by decide +kernel
theorem hz_yX5_leaning_0 : yX5_leaning.cls ≠ "java/lang/invoke/MethodHandle" ∧ yX5_leaning.cls ≠ "java/lang/invoke/VarHandle" ∧ (parseMethodDescriptor yX5_leaning.desc).map (fun d => d.parameters.length) = some 0 := by decide +kernel

/-! ===== signs, sums of ints, who is entered ===== -/
def sgN (x : Int32) : Int32 := if 0 < x.toInt then 1 else if x.toInt < 0 then -1 else 0
theorem sg_all : ∀ k : Nat, k < 1201 → (((nI k - 600) >>> ((31 : Int32) &&& 31)) ||| ((-(nI k - 600)).toUInt32 >>> ((31 : Int32).toUInt32 &&& Int32.toUInt32 31)).toInt32) = sgN (nI k - 600) := by decide +kernel
theorem sg_e {x y1 y2 y3 y4 : Int32} (hx : -600 ≤ x.toInt ∧ x.toInt ≤ 600) (e1 : y1 = x >>> ((31 : Int32) &&& 31)) (e2 : y2 = -x) (e3 : y3 = (y2.toUInt32 >>> ((31 : Int32).toUInt32 &&& Int32.toUInt32 31)).toInt32) (e4 : y4 = y1 ||| y3) : y4 = sgN x := by
  obtain ⟨k, hk⟩ : ∃ k : Nat, k = (x.toInt + 600).toNat := ⟨_, rfl⟩
  have e0 : x = nI k - 600 := by
    apply Int32.toInt_inj.mp
    obtain ⟨t, -⟩ := ti_sub (x := nI k) (y := 600) (w := nI k - 600) (a := 0) (b := 1200) (c := 600) (d := 600) (e := -600) (f := 600) (by rw [nI_toInt (by omega)]; omega) (by decide) rfl (by decide)
    have h6 : (600 : Int32).toInt = 600 := rfl
    rw [t, nI_toInt (by omega), h6]
    omega
  rw [e4, e1, e3, e2, e0]
  exact sg_all k (by omega)
def S32 (f : Nat → Int32) : Nat → Int32
  | 0 => 0
  | n + 1 => S32 f n + f n
theorem S32_c {f g : Nat → Int32} {n : Nat} (h : ∀ k, k < n → f k = g k) : S32 f n = S32 g n := by
  induction n with
  | zero => rfl
  | succ n ih =>
    show S32 f n + f n = S32 g n + g n
    rw [ih (fun k hk => h k (by omega)), h n (by omega)]
theorem S32_z {f : Nat → Int32} {n : Nat} (h : ∀ k, k < n → f k = 0) : S32 f n = 0 := by
  induction n with
  | zero => rfl
  | succ n ih =>
    show S32 f n + f n = 0
    rw [ih (fun k hk => h k (by omega)), h n (by omega)]
    rfl
theorem S32_a (f g : Nat → Int32) (n : Nat) : S32 (fun k => f k + g k) n = S32 f n + S32 g n := by
  induction n with
  | zero => rfl
  | succ n ih =>
    show S32 (fun k => f k + g k) n + (f n + g n) = (S32 f n + f n) + (S32 g n + g n)
    rw [ih, Int32.add_assoc, Int32.add_assoc, ← Int32.add_assoc (S32 g n) (f n), Int32.add_comm (S32 g n) (f n), Int32.add_assoc]
theorem S32_x {f : Nat → Int32} {n m : Nat} (hm : n ≤ m) (h : ∀ k, n ≤ k → k < m → f k = 0) : S32 f m = S32 f n := by
  induction m with
  | zero => rw [show n = 0 by omega]
  | succ m ih =>
    by_cases e : n = m + 1
    · rw [e]
    · show S32 f m + f m = S32 f n
      rw [ih (by omega) (fun k h1 h2 => h k h1 (by omega)), h m (by omega) (by omega), Int32.add_zero]
/-- LEAN of a pair on the class's side, on the reference's -/
def lnP (g h : Nat → Int32) (a b : Nat) : Int32 := if (g a).toInt = -1 ∨ (g b).toInt = -1 then 0 else sgN (g b - g a) * sgN (h b - h a)
def mnP (g h : Nat → Int32) (a b : Nat) : Int32 := if (g a).toInt = -1 ∨ (g b).toInt = -1 ∨ (g b).toInt ≤ (g a).toInt ∨ (h a).toInt = (h b).toInt then 0 else if (h a).toInt < (h b).toInt then 1 else -1
def lnR (g h : Nat → Int32) (a : Nat) : Nat → Int32 := fun b => if a < b then lnP g h a b else 0
def lnA (g h : Nat → Int32) : Nat → Int32 := S32 (fun a => S32 (lnR g h a) 16)
def mnR (g h : Nat → Int32) (B a : Nat) : Nat → Int32 := fun b => mnP g h a (B + b)
def mnA (g h : Nat → Int32) (B N : Nat) : Nat → Int32 := S32 (fun a => S32 (mnR g h B (B + a)) N)
theorem lnR_z {g h : Nat → Int32} {a n : Nat} (hn : n ≤ a + 1) : S32 (lnR g h a) n = 0 := S32_z (fun k hk => if_neg (by omega))
theorem lnR_s0 {g h : Nat → Int32} {a b : Nat} (hz : (g a).toInt = -1 ∨ (g b).toInt = -1) : S32 (lnR g h a) (b + 1) = S32 (lnR g h a) b := by
  show S32 (lnR g h a) b + lnR g h a b = _
  unfold lnR lnP
  rw [if_pos hz, ite_self, Int32.add_zero]
theorem lnR_s1 {g h : Nat → Int32} {a b : Nat} (hab : a < b) (hz : ¬ ((g a).toInt = -1 ∨ (g b).toInt = -1)) : S32 (lnR g h a) (b + 1) = S32 (lnR g h a) b + sgN (g b - g a) * sgN (h b - h a) := by
  show S32 (lnR g h a) b + lnR g h a b = _
  rw [show lnR g h a b = sgN (g b - g a) * sgN (h b - h a) from (if_pos hab).trans (if_neg hz)]
theorem mnR_s {g h : Nat → Int32} {B a n c : Nat} (e : B + n = c) : S32 (mnR g h B a) (n + 1) = S32 (mnR g h B a) n + mnP g h a c := by
  rw [← e]
  rfl
theorem sgN_d {x y : Int32} (hx : -600 ≤ x.toInt ∧ x.toInt ≤ 600) (hy : -600 ≤ y.toInt ∧ y.toInt ≤ 600) : sgN (x - y) = if y.toInt < x.toInt then 1 else if x.toInt < y.toInt then -1 else 0 := by
  obtain ⟨t, -⟩ := ti_sub (e := -1200) (f := 1200) hx hy rfl (by decide)
  unfold sgN
  rw [t]
  by_cases h1 : y.toInt < x.toInt
  · rw [if_pos h1, if_pos (by omega)]
  · rw [if_neg h1, if_neg (by omega)]
    by_cases h2 : x.toInt < y.toInt
    · rw [if_pos h2, if_pos (by omega)]
    · rw [if_neg h2, if_neg (by omega)]
theorem ln_pair {g h : Nat → Int32} {a b : Nat} (ha : -1 ≤ (g a).toInt ∧ (g a).toInt ≤ 9) (hb : -1 ≤ (g b).toInt ∧ (g b).toInt ≤ 9) (ka : 0 ≤ (h a).toInt ∧ (h a).toInt ≤ 600) (kb : 0 ≤ (h b).toInt ∧ (h b).toInt ≤ 600) : lnP g h a b = mnP g h a b + mnP g h b a := by
  unfold lnP mnP
  rw [sgN_d (x := g b) (y := g a) (by omega) (by omega), sgN_d (x := h b) (y := h a) (by omega) (by omega)]
  by_cases z : (g a).toInt = -1 ∨ (g b).toInt = -1
  · rw [if_pos z, if_pos (by omega), if_pos (by omega)]
    rfl
  · rw [if_neg z]
    by_cases c1 : (g a).toInt < (g b).toInt
    · rw [if_pos c1, if_pos (show (g b).toInt = -1 ∨ (g a).toInt = -1 ∨ (g a).toInt ≤ (g b).toInt ∨ (h b).toInt = (h a).toInt by omega), Int32.add_zero, Int32.one_mul]
      by_cases d1 : (h a).toInt < (h b).toInt
      · rw [if_pos d1, if_neg (by omega), if_pos d1]
      · rw [if_neg d1]
        by_cases d2 : (h b).toInt < (h a).toInt
        · rw [if_pos d2, if_neg (by omega), if_neg d1]
        · rw [if_neg d2, if_pos (by omega)]
    · rw [if_neg c1]
      by_cases c2 : (g b).toInt < (g a).toInt
      · rw [if_pos c2, if_pos (show (g a).toInt = -1 ∨ (g b).toInt = -1 ∨ (g b).toInt ≤ (g a).toInt ∨ (h a).toInt = (h b).toInt by omega), Int32.zero_add]
        by_cases d1 : (h a).toInt < (h b).toInt
        · rw [if_pos d1, if_neg (by omega), if_neg (by omega)]
          rfl
        · rw [if_neg d1]
          by_cases d2 : (h b).toInt < (h a).toInt
          · rw [if_pos d2, if_neg (by omega), if_pos d2]
            rfl
          · rw [if_neg d2, if_pos (by omega)]
            rfl
      · rw [if_neg c2, Int32.zero_mul, if_pos (show (g a).toInt = -1 ∨ (g b).toInt = -1 ∨ (g b).toInt ≤ (g a).toInt ∨ (h a).toInt = (h b).toInt by omega), if_pos (show (g b).toInt = -1 ∨ (g a).toInt = -1 ∨ (g a).toInt ≤ (g b).toInt ∨ (h b).toInt = (h a).toInt by omega)]
        rfl
theorem mnP_d {g h : Nat → Int32} {a : Nat} : mnP g h a a = 0 := if_pos (Or.inr (Or.inr (Or.inl (Int.le_refl _))))
theorem ln_sq {g h : Nat → Int32} (hg : ∀ b, b < 16 → -1 ≤ (g b).toInt ∧ (g b).toInt ≤ 9) (hh : ∀ b, b < 16 → 0 ≤ (h b).toInt ∧ (h b).toInt ≤ 600) : ∀ n, n ≤ 16 → S32 (fun a => S32 (lnR g h a) n) n = S32 (fun a => S32 (fun b => mnP g h a b) n) n := by
  intro n
  induction n with
  | zero => intro _; rfl
  | succ n ih =>
    intro hn
    have i0 := ih (by omega)
    have e1 : S32 (fun a => S32 (lnR g h a) (n + 1)) n = S32 (fun a => S32 (lnR g h a) n) n + S32 (fun a => mnP g h a n + mnP g h n a) n := by
      rw [← S32_a]
      refine S32_c (fun k hk => ?_)
      show S32 (lnR g h k) n + lnR g h k n = _
      rw [show lnR g h k n = lnP g h k n from if_pos hk, ln_pair (hg k (by omega)) (hg n (by omega)) (hh k (by omega)) (hh n (by omega))]
    have e2 : S32 (fun a => S32 (fun b => mnP g h a b) (n + 1)) n = S32 (fun a => S32 (fun b => mnP g h a b) n) n + S32 (fun a => mnP g h a n) n := by
      rw [← S32_a]
      exact S32_c (fun k hk => rfl)
    show S32 (fun a => S32 (lnR g h a) (n + 1)) n + S32 (lnR g h n) (n + 1) = S32 (fun a => S32 (fun b => mnP g h a b) (n + 1)) n + (S32 (fun b => mnP g h n b) n + mnP g h n n)
    rw [e1, e2, i0, lnR_z (Nat.le_refl _), mnP_d, Int32.add_zero, Int32.add_zero, S32_a, Int32.add_assoc]
theorem ln_mn {g h g' h' : Nat → Int32} {B N : Nat} (hN : N ≤ 16) (hg : ∀ b, b < 16 → -1 ≤ (g b).toInt ∧ (g b).toInt ≤ 9) (hh : ∀ b, b < 16 → 0 ≤ (h b).toInt ∧ (h b).toInt ≤ 600) (eg : ∀ b, b < 16 → g b = g' (B + b)) (eh : ∀ b, b < 16 → ¬ (g b).toInt = -1 → h b = h' (B + b)) (hz : ∀ b, N ≤ b → b < 16 → (g b).toInt = -1) : lnA g h 16 = mnA g' h' B N N := by
  have pe : ∀ a b, a < 16 → b < 16 → mnP g h a b = mnP g' h' (B + a) (B + b) := by
    intro a b ha hb
    unfold mnP
    rw [← eg a ha, ← eg b hb]
    by_cases z : (g a).toInt = -1 ∨ (g b).toInt = -1
    · rw [if_pos (by omega), if_pos (by omega)]
    · rw [← eh a ha (by omega), ← eh b hb (by omega)]
  unfold lnA mnA
  rw [ln_sq hg hh 16 (Nat.le_refl _), S32_x hN (fun k h1 h2 => S32_z (fun j hj => by
    unfold mnP
    rw [if_pos (Or.inl (hz k h1 h2))]))]
  refine S32_c (fun a ha => ?_)
  rw [S32_x hN (fun k h1 h2 => by
    unfold mnP
    rw [if_pos (Or.inr (Or.inl (hz k h1 h2)))])]
  exact S32_c (fun b hb => pe a b (by omega) (by omega))
/-- how many are entered, on the class's side, on the reference's -/
def entC (g : Nat → Int32) (q : Int) : Nat → Nat
  | 0 => 0
  | n + 1 => entC g q n + (if ¬ (g n).toInt = -1 ∧ (g n).toInt ≤ q then 1 else 0)
def entM (g : Nat → Int32) (q : Int) (B : Nat) : Nat → Nat
  | 0 => 0
  | n + 1 => entM g q B n + (if (g (B + n)).toInt ≤ q then 1 else 0)
theorem entC_1 {g : Nat → Int32} {q : Int} {n : Nat} (h : ¬ (g n).toInt = -1 ∧ (g n).toInt ≤ q) : entC g q (n + 1) = entC g q n + 1 := by
  show _ + (if _ then _ else _) = _
  rw [if_pos h]
theorem entC_0 {g : Nat → Int32} {q : Int} {n : Nat} (h : ¬ (¬ (g n).toInt = -1 ∧ (g n).toInt ≤ q)) : entC g q (n + 1) = entC g q n := by
  show _ + (if _ then _ else _) = _
  rw [if_neg h, Nat.add_zero]
theorem entM_1 {g : Nat → Int32} {q : Int} {B n c : Nat} (e : B + n = c) (h : (g c).toInt ≤ q) : entM g q B (n + 1) = entM g q B n + 1 := by
  subst e
  show _ + (if _ then _ else _) = _
  rw [if_pos h]
theorem entM_0 {g : Nat → Int32} {q : Int} {B n c : Nat} (e : B + n = c) (h : ¬ (g c).toInt ≤ q) : entM g q B (n + 1) = entM g q B n := by
  subst e
  show _ + (if _ then _ else _) = _
  rw [if_neg h, Nat.add_zero]
def v_csignumX : List Cond := .code yJ6_signum_0f7a4 cJ6_signum_0f7a4 1 (some .int) :: vA
abbrev rm_csignumX : Room := { frames := 0, cells := 0, slots := 0, locals := 0 }
set_option maxHeartbeats 4000000 in
set_option maxRecDepth 100000 in
theorem q_csignumX (l : Launch) (a0 : Int32) (hh0 : -600 ≤ a0.toInt ∧ a0.toInt ≤ 600) : Met l yJ6_signum_0f7a4 v_csignumX rm_csignumX (va_Pc [.int a0] (fun _ => True)) (va_Qi (S := Unit) (fun r _ => (r = sgN a0)) (fun _ _ => True) (fun _ => False)) 0 0 (fun _ => False) := by
  refine Met.ofW (cc := cJ6_signum_0f7a4) (maxL := 1) (ret := (some .int)) (by decide) rfl ?_
  intro p e s m args below meth c s₁ B hml hv
  obtain ⟨hargs, -⟩ := hv
  have hx := B.exec
  have hb := B.bytes
  have hr := B.returns
  have hts := atoms_spec (ws := v_csignumX) B.pre
  have hown : s.vm.findClass RJ6 = some m.cls := findClass_of_methodNamed B.named
  have hlocks := B.notSynchronized
  have hS : va_S (fun _ : Nat => False) s.heap s.heap [] := va_S.rf
  have hl := lv_entry ([.int a0]) (n := 1) (Nat.le_of_ble_eq_true rfl)
  obtain ⟨Q, hQ⟩ : ∃ Q, Q = MQ below (va_Qi (S := Unit) (fun r _ => (r = sgN a0)) (fun _ _ => True) (fun _ => False)) args s 0 0 (fun _ => False) := ⟨_, rfl⟩
  rw [← hQ, show entryFrame m args 1 = _ from (congrArg (fun z => entryFrame m z 1) hargs).trans (lg_entry_eq _ _ _)]
  generalize (lg_sl ([.int a0]) ++ List.replicate (1 - (lg_sl ([.int a0])).length) Slot.unset).toArray = ls at hl ⊢
  have hl : lv_has ls 1 [(0, .int a0)] := hl
  refine lv_iload_n hx hb dJ6_signum_0f7a4_0 rfl (lv_at hl 0 rfl) ?_
  refine lv_bipush (v := 31) hx hb dJ6_signum_0f7a4_1 (by decide) ?_
  refine lv_ishr hx hb dJ6_signum_0f7a4_3 ?_
  refine lv_topi (fun y1 ey1 => ?_)
  refine lv_iload_n hx hb dJ6_signum_0f7a4_4 rfl (lv_at hl 0 rfl) ?_
  refine lv_ineg hx hb dJ6_signum_0f7a4_5 ?_
  refine lv_topi (fun y2 ey2 => ?_)
  refine lv_bipush (v := 31) hx hb dJ6_signum_0f7a4_6 (by decide) ?_
  refine lv_iushr hx hb dJ6_signum_0f7a4_8 rfl ?_
  refine lv_topi (fun y3 ey3 => ?_)
  refine lv_ior hx hb dJ6_signum_0f7a4_9 ?_
  refine lv_topi (fun y4 ey4 => ?_)
  rw [hQ]
  exact W.iret (v := y4) hx hb hr (fun t ht hW => ⟨⟨y4, (), rfl, sg_e hh0 ey1 ey2 ey3 ey4, trivial⟩, hS.F ht⟩) hS.2.2 dJ6_signum_0f7a4_10
def v_leaningX : List Cond := .code yX5_leaning cX5_leaning 4 (some .int) :: vA
abbrev rm_leaningX : Room := { frames := 1, cells := 0, slots := 0, locals := 40 }
set_option maxHeartbeats 4000000 in
set_option maxRecDepth 100000 in
theorem q_leaningX (l : Launch) (dC : Nat → ClassId) (dI : Nat → Nat → Nat) (cT : Nat → ClassId) (cf : Nat → Nat) (hC : CF cf) (ad : Nat → Nat) (E : Nat → va_E) (sz : Nat) (i : Nat) (hI0 : IXL cT (shC cf) (spC cf) (LC cf) ad E) (hh0 : i < cf 2) : Met l yX5_leaning v_leaningX rm_leaningX (va_Pc [.ref (ad (64 * (i + 1) + 6))] (HWL dC dI (TYC cT) cf ad E sz)) (va_Qi (S := Unit) (fun r _ => (r = lnA (xi (E (64 * (i + 1) + 9))) (xi (E (64 * (i + 1) + 10))) 16)) (fun _ _ => True) (fun _ => False)) 0 0 (fun _ => False) := by
  obtain ⟨⟨hc0, hc1, hc2, hc3, hc4, hc5⟩, hcr⟩ := id hC
  refine Met.ofW (cc := cX5_leaning) (maxL := 4) (ret := (some .int)) (by decide) rfl ?_
  intro p e s m args below meth c s₁ B hml hv
  obtain ⟨hargs, hsz, hP, hK, hD0, hEV⟩ := hv
  subst hsz
  have hx := B.exec
  have hb := B.bytes
  have hr := B.returns
  have hts := atoms_spec (ws := v_leaningX) B.pre
  have hown : s.vm.findClass RX5 = some m.cls := findClass_of_methodNamed B.named
  have hlocks := B.notSynchronized
  have hinX5 : ∀ w ∈ u_ws RX5 TX5 12, w ∈ v_leaningX := fun w h => vA_in _ w (in_X5 w h)
  have hS : va_S (fun _ : Nat => False) s.heap s.heap [] := va_S.rf
  have hD := hD0
  have hI := hI0
  have hKp : Kp (wl [] []) E E := Kp.rf
  have hl := lv_entry ([.ref (ad (64 * (i + 1) + 6))]) (n := 4) (Nat.le_of_ble_eq_true rfl)
  obtain ⟨Q, hQ⟩ : ∃ Q, Q = MQ below (va_Qi (S := Unit) (fun r _ => (r = lnA (xi (E (64 * (i + 1) + 9))) (xi (E (64 * (i + 1) + 10))) 16)) (fun _ _ => True) (fun _ => False)) args s 0 0 (fun _ => False) := ⟨_, rfl⟩
  rw [← hQ, show entryFrame m args 4 = _ from (congrArg (fun z => entryFrame m z 4) hargs).trans (lg_entry_eq _ _ _)]
  generalize (lg_sl ([.ref (ad (64 * (i + 1) + 6))]) ++ List.replicate (4 - (lg_sl ([.ref (ad (64 * (i + 1) + 6))])).length) Slot.unset).toArray = ls at hl ⊢
  have hl : lv_has ls 4 [(0, .ref (ad (64 * (i + 1) + 6)))] := hl
  refine lv_iconst (v := 0) hx hb dX5_leaning_0 (by decide) ?_
  refine lv_istore_n (lv' := [(1, .int 0), (0, .ref (ad (64 * (i + 1) + 6)))]) hx hb dX5_leaning_1 rfl hl (by decide) rfl (fun ls hl => ?_)
  refine lv_iconst (v := 0) hx hb dX5_leaning_2 (by decide) ?_
  refine lv_istore_n (lv' := [(2, .int 0), (1, .int 0), (0, .ref (ad (64 * (i + 1) + 6)))]) hx hb dX5_leaning_3 rfl hl (by decide) rfl (fun ls hl => ?_)
  have hL4 : ∀ d : Nat, ∀ (v4_2 : Int32) (v4_1 : Int32) (H : Heap) (locs : List Loc) (ls : Array Slot), 0 ≤ v4_2.toInt ∧ v4_2.toInt ≤ 16 → v4_1 = lnA (xi (E (64 * (i + 1) + 9))) (xi (E (64 * (i + 1) + 10))) v4_2.toNatClampNeg → 16 - v4_2.toInt < (d : Int) → va_P (dC, dI) vwCl (WL (LC cf) ad E) H → va_S (fun _ : Nat => False) s.heap H locs → lv_has ls 4 [(2, .int v4_2), (1, .int v4_1), (0, .ref (ad (64 * (i + 1) + 6)))] → W p l e (headSpec v_leaningX rm_leaningX).room s m args below meth c H locs 0 0 Q (F0 m 4 ls []) := by
    intro d
    induction d with
    | zero =>
      intro v4_2 v4_1 H locs ls hv4_2 hx4_0 hx4_1 hP hS hl
      exact absurd hx4_1 (by first | exact ms_zu hv4_2.2 | omega)
    | succ d ih4 =>
      intro v4_2 v4_1 H locs ls hv4_2 hx4_0 hx4_1 hP hS hl
      refine lv_iload_n hx hb dX5_leaning_4 rfl (lv_at hl 0 rfl) ?_
      refine lv_bipush (v := 16) hx hb dX5_leaning_5 (by decide) ?_
      refine lv_icmp_ge (tgt := 91) hx hb dX5_leaning_7 (by decide) (fun c1 => ?_) (fun c1 => ?_)
      · --7 taken
        have t2 : (16 : Int) ≤ v4_2.toInt := ti_le c1
        have i3 : 16 ≤ v4_2.toInt ∧ v4_2.toInt ≤ 16 := iv_le_r t2 (il_ 16) hv4_2 (by decide)
        refine lv_iload_n hx hb dX5_leaning_91 rfl (lv_at hl 1 rfl) ?_
        rw [hQ]
        exact W.iret (v := v4_1) hx hb hr (fun t ht hW => ⟨⟨v4_1, (), rfl, (by have h9 := hx4_0; rw [show v4_2.toNatClampNeg = 16 by rw [tn_]; omega] at h9; exact h9), trivial⟩, hS.F ht⟩) hS.2.2 dX5_leaning_92
      · --7 not
        have t4 : v4_2.toInt < 16 := ti_nle c1
        have i5 : 0 ≤ v4_2.toInt ∧ v4_2.toInt ≤ 15 := iv_lt_l t4 hv4_2 (il_ 16) (by decide)
        refine lv_iload_n hx hb dX5_leaning_10 rfl (lv_at hl 0 rfl) ?_
        refine lv_iconst (v := 1) hx hb dX5_leaning_11 (by decide) ?_
        refine lv_iadd hx hb dX5_leaning_12 ?_
        refine lv_topi (fun y6 ey6 => ?_)
        obtain ⟨ty6, iy6⟩ := ti_add (e := 1) (f := 16) i5 ln_1 ey6 (by decide)
        have ty6 : y6.toInt = v4_2.toInt + 1 := ty6
        have iy6 : 1 ≤ y6.toInt ∧ y6.toInt ≤ 16 := iy6
        refine lv_istore_n (lv' := [(3, .int y6), (2, .int v4_2), (1, .int v4_1), (0, .ref (ad (64 * (i + 1) + 6)))]) hx hb dX5_leaning_13 rfl hl (by decide) rfl (fun ls hl => ?_)
        have hL14 : ∀ d : Nat, ∀ (v14_3 : Int32) (v14_1 : Int32) (H : Heap) (locs : List Loc) (ls : Array Slot), 1 ≤ v14_3.toInt ∧ v14_3.toInt ≤ 16 → v14_1 = lnA (xi (E (64 * (i + 1) + 9))) (xi (E (64 * (i + 1) + 10))) v4_2.toNatClampNeg + S32 (lnR (xi (E (64 * (i + 1) + 9))) (xi (E (64 * (i + 1) + 10))) v4_2.toNatClampNeg) v14_3.toNatClampNeg → v4_2.toInt < v14_3.toInt → 16 - v14_3.toInt < (d : Int) → va_P (dC, dI) vwCl (WL (LC cf) ad E) H → va_S (fun _ : Nat => False) s.heap H locs → lv_has ls 4 [(3, .int v14_3), (2, .int v4_2), (1, .int v14_1), (0, .ref (ad (64 * (i + 1) + 6)))] → W p l e (headSpec v_leaningX rm_leaningX).room s m args below meth c H locs 0 0 Q (F0 m 14 ls []) := by
          intro d
          induction d with
          | zero =>
            intro v14_3 v14_1 H locs ls hv14_3 hx14_0 hx14_1 hx14_2 hP hS hl
            exact absurd hx14_2 (by first | exact ms_zu hv14_3.2 | omega)
          | succ d ih14 =>
            intro v14_3 v14_1 H locs ls hv14_3 hx14_0 hx14_1 hx14_2 hP hS hl
            refine lv_iload_n hx hb dX5_leaning_14 rfl (lv_at hl 0 rfl) ?_
            refine lv_bipush (v := 16) hx hb dX5_leaning_15 (by decide) ?_
            refine lv_icmp_ge (tgt := 85) hx hb dX5_leaning_17 (by decide) (fun c7 => ?_) (fun c7 => ?_)
            · --17 taken
              have t8 : (16 : Int) ≤ v14_3.toInt := ti_le c7
              have i9 : 16 ≤ v14_3.toInt ∧ v14_3.toInt ≤ 16 := iv_le_r t8 (il_ 16) hv14_3 (by decide)
              obtain ⟨y10, ey10⟩ : ∃ y : Int32, y = v4_2 + (1 : Int32) := ⟨_, rfl⟩
              obtain ⟨ty10, iy10⟩ := ti_add (e := 1) (f := 16) i5 ln_1 ey10 (by decide)
              have ty10 : y10.toInt = v4_2.toInt + 1 := ty10
              have iy10 : 1 ≤ y10.toInt ∧ y10.toInt ≤ 16 := iy10
              refine lv_iinc (v := y10) (lv' := [(2, .int y10), (3, .int v14_3), (1, .int v14_1), (0, .ref (ad (64 * (i + 1) + 6)))]) hx hb dX5_leaning_85 hl (k := 1) rfl (by rw [ey10]; rfl) (by decide) rfl (fun ls hl => ?_)
              refine lv_goto (tgt := 4) hx hb dX5_leaning_88 (by decide) ?_
              exact ih4 y10 v14_1 _ _ _ (iv_w iy10 (by decide)) (by rw [tn_s ty10 hv4_2 (by decide)]; have h9 := hx14_0; rw [show v14_3.toNatClampNeg = 16 by rw [tn_]; omega] at h9; exact h9) (by first | exact ms_su hx4_1 ty10 (by decide) | omega) hP hS (lv_sub hl [0, 2, 3] rfl)
            · --17 not
              have t11 : v14_3.toInt < 16 := ti_nle c7
              have i12 : 1 ≤ v14_3.toInt ∧ v14_3.toInt ≤ 15 := iv_lt_l t11 hv14_3 (il_ 16) (by decide)
              refine lv_aload_n hx hb dX5_leaning_20 rfl (lv_at hl 3 rfl) ?_
              refine th_getL (ci := 6) (C := RX5) (T := TX5) (N := 12) (v := .ref (ad (64 * (i + 1) + 9))) hx hb hts hinX5 hown hK hP hI (64 * (i + 1) + 6) (mP 6 i (by decide) hh0 (kl_le hC 2 (by decide))) (shC_p 6 i (by decide)) rfl 9 (Nat.le_of_ble_eq_true rfl) (hts _ (vA_in _ _ (in_19 _ (zs16 (zs16 (zs0)))))) (fun _ h9 => h9) (hI.fr (64 * (i + 1) + 6) (mP 6 i (by decide) hh0 (kl_le hC 2 (by decide))) (shC_p 6 i (by decide)) (Nat.le_of_ble_eq_true rfl) (64 * (i + 1) + 9) (spC_p 6 i (by decide) 9)) dX5_leaning_21 ?_
              refine lv_iload_n hx hb dX5_leaning_24 rfl (lv_at hl 1 rfl) ?_
              have n14 : vp_in v4_2 16 := (iv_in (n := 16) i5 (by decide))
              refine th_ialdL hx hb hK hP hI (64 * (i + 1) + 9) (mP 9 i (by decide) hh0 (kl_le hC 2 (by decide))) (shC_p 9 i (by decide)) rfl n14 dX5_leaning_25 (fun y13 ey13 => ?_)
              have iy13 : -1 ≤ y13.toInt ∧ y13.toInt ≤ 9 := hI.el (64 * (i + 1) + 9) (mP 9 i (by decide) hh0 (kl_le hC 2 (by decide))) (shC_p 9 i (by decide)) n14 (fun j9 => spC_p 9 i (by decide) j9) ey13
              have ey13 := ey13.trans (hKp.ei (64 * (i + 1) + 9) _ (wl_p rfl rfl (by omega)))
              refine lv_iconst (v := -1) hx hb dX5_leaning_26 (by decide) ?_
              refine lv_icmp_eq (tgt := 79) hx hb dX5_leaning_27 (by decide) (fun c15 => ?_) (fun c15 => ?_)
              · --27 taken
                have t16 : y13.toInt = -1 := ti_eq c15
                have i17 : -1 ≤ y13.toInt ∧ y13.toInt ≤ -1 := iv_eqi t16 iy13 (il_ (-1)) (by decide)
                obtain ⟨y18, ey18⟩ : ∃ y : Int32, y = v14_3 + (1 : Int32) := ⟨_, rfl⟩
                obtain ⟨ty18, iy18⟩ := ti_add (e := 2) (f := 16) i12 ln_1 ey18 (by decide)
                have ty18 : y18.toInt = v14_3.toInt + 1 := ty18
                have iy18 : 2 ≤ y18.toInt ∧ y18.toInt ≤ 16 := iy18
                refine lv_iinc (v := y18) (lv' := [(3, .int y18), (2, .int v4_2), (1, .int v14_1), (0, .ref (ad (64 * (i + 1) + 6)))]) hx hb dX5_leaning_79 hl (k := 0) rfl (by rw [ey18]; rfl) (by decide) rfl (fun ls hl => ?_)
                refine lv_goto (tgt := 14) hx hb dX5_leaning_82 (by decide) ?_
                exact ih14 y18 v14_1 _ _ _ (iv_w iy18 (by decide)) (by have gy13 := congrArg Int32.toInt ey13; rw [tn_s ty18 hv14_3 (by decide), lnR_s0 (by omega)]; exact hx14_0) (by omega) (by first | exact ms_su hx14_2 ty18 (by decide) | omega) hP hS (lv_sub hl [0, 1, 2, 3] rfl)
              · --27 not
                have t19 : ¬ y13.toInt = -1 := ti_ne c15
                have i20 : 0 ≤ y13.toInt ∧ y13.toInt ≤ 9 := iv_ne_l t19 iy13 (il_ (-1))
                refine lv_aload_n hx hb dX5_leaning_30 rfl (lv_at hl 3 rfl) ?_
                refine th_getL (ci := 6) (C := RX5) (T := TX5) (N := 12) (v := .ref (ad (64 * (i + 1) + 9))) hx hb hts hinX5 hown hK hP hI (64 * (i + 1) + 6) (mP 6 i (by decide) hh0 (kl_le hC 2 (by decide))) (shC_p 6 i (by decide)) rfl 9 (Nat.le_of_ble_eq_true rfl) (hts _ (vA_in _ _ (in_19 _ (zs16 (zs16 (zs0)))))) (fun _ h9 => h9) (hI.fr (64 * (i + 1) + 6) (mP 6 i (by decide) hh0 (kl_le hC 2 (by decide))) (shC_p 6 i (by decide)) (Nat.le_of_ble_eq_true rfl) (64 * (i + 1) + 9) (spC_p 6 i (by decide) 9)) dX5_leaning_31 ?_
                refine lv_iload_n hx hb dX5_leaning_34 rfl (lv_at hl 0 rfl) ?_
                have n22 : vp_in v14_3 16 := (iv_in (n := 16) i12 (by decide))
                refine th_ialdL hx hb hK hP hI (64 * (i + 1) + 9) (mP 9 i (by decide) hh0 (kl_le hC 2 (by decide))) (shC_p 9 i (by decide)) rfl n22 dX5_leaning_35 (fun y21 ey21 => ?_)
                have iy21 : -1 ≤ y21.toInt ∧ y21.toInt ≤ 9 := hI.el (64 * (i + 1) + 9) (mP 9 i (by decide) hh0 (kl_le hC 2 (by decide))) (shC_p 9 i (by decide)) n22 (fun j9 => spC_p 9 i (by decide) j9) ey21
                have ey21 := ey21.trans (hKp.ei (64 * (i + 1) + 9) _ (wl_p rfl rfl (by omega)))
                refine lv_iconst (v := -1) hx hb dX5_leaning_36 (by decide) ?_
                refine lv_icmp_ne (tgt := 43) hx hb dX5_leaning_37 (by decide) (fun c23 => ?_) (fun c23 => ?_)
                · --37 taken
                  have t24 : ¬ y21.toInt = -1 := ti_ne c23
                  have i25 : 0 ≤ y21.toInt ∧ y21.toInt ≤ 9 := iv_ne_l t24 iy21 (il_ (-1))
                  refine lv_iload_n hx hb dX5_leaning_43 rfl (lv_at hl 2 rfl) ?_
                  refine lv_aload_n hx hb dX5_leaning_44 rfl (lv_at hl 3 rfl) ?_
                  refine th_getL (ci := 6) (C := RX5) (T := TX5) (N := 12) (v := .ref (ad (64 * (i + 1) + 9))) hx hb hts hinX5 hown hK hP hI (64 * (i + 1) + 6) (mP 6 i (by decide) hh0 (kl_le hC 2 (by decide))) (shC_p 6 i (by decide)) rfl 9 (Nat.le_of_ble_eq_true rfl) (hts _ (vA_in _ _ (in_19 _ (zs16 (zs16 (zs0)))))) (fun _ h9 => h9) (hI.fr (64 * (i + 1) + 6) (mP 6 i (by decide) hh0 (kl_le hC 2 (by decide))) (shC_p 6 i (by decide)) (Nat.le_of_ble_eq_true rfl) (64 * (i + 1) + 9) (spC_p 6 i (by decide) 9)) dX5_leaning_45 ?_
                  refine lv_iload_n hx hb dX5_leaning_48 rfl (lv_at hl 0 rfl) ?_
                  have n27 : vp_in v14_3 16 := (iv_in (n := 16) i12 (by decide))
                  refine th_ialdL hx hb hK hP hI (64 * (i + 1) + 9) (mP 9 i (by decide) hh0 (kl_le hC 2 (by decide))) (shC_p 9 i (by decide)) rfl n27 dX5_leaning_49 (fun y26 ey26 => ?_)
                  have iy26 : -1 ≤ y26.toInt ∧ y26.toInt ≤ 9 := hI.el (64 * (i + 1) + 9) (mP 9 i (by decide) hh0 (kl_le hC 2 (by decide))) (shC_p 9 i (by decide)) n27 (fun j9 => spC_p 9 i (by decide) j9) ey26
                  have ey26 := ey26.trans (hKp.ei (64 * (i + 1) + 9) _ (wl_p rfl rfl (by omega)))
                  refine lv_aload_n hx hb dX5_leaning_50 rfl (lv_at hl 3 rfl) ?_
                  refine th_getL (ci := 6) (C := RX5) (T := TX5) (N := 12) (v := .ref (ad (64 * (i + 1) + 9))) hx hb hts hinX5 hown hK hP hI (64 * (i + 1) + 6) (mP 6 i (by decide) hh0 (kl_le hC 2 (by decide))) (shC_p 6 i (by decide)) rfl 9 (Nat.le_of_ble_eq_true rfl) (hts _ (vA_in _ _ (in_19 _ (zs16 (zs16 (zs0)))))) (fun _ h9 => h9) (hI.fr (64 * (i + 1) + 6) (mP 6 i (by decide) hh0 (kl_le hC 2 (by decide))) (shC_p 6 i (by decide)) (Nat.le_of_ble_eq_true rfl) (64 * (i + 1) + 9) (spC_p 6 i (by decide) 9)) dX5_leaning_51 ?_
                  refine lv_iload_n hx hb dX5_leaning_54 rfl (lv_at hl 1 rfl) ?_
                  have n29 : vp_in v4_2 16 := (iv_in (n := 16) i5 (by decide))
                  refine th_ialdL hx hb hK hP hI (64 * (i + 1) + 9) (mP 9 i (by decide) hh0 (kl_le hC 2 (by decide))) (shC_p 9 i (by decide)) rfl n29 dX5_leaning_55 (fun y28 ey28 => ?_)
                  have iy28 : -1 ≤ y28.toInt ∧ y28.toInt ≤ 9 := hI.el (64 * (i + 1) + 9) (mP 9 i (by decide) hh0 (kl_le hC 2 (by decide))) (shC_p 9 i (by decide)) n29 (fun j9 => spC_p 9 i (by decide) j9) ey28
                  have ey28 := ey28.trans (hKp.ei (64 * (i + 1) + 9) _ (wl_p rfl rfl (by omega)))
                  refine lv_isub hx hb dX5_leaning_56 ?_
                  refine lv_topi (fun y30 ey30 => ?_)
                  obtain ⟨ty30, iy30⟩ := ti_sub (e := (-10)) (f := 10) iy26 iy28 ey30 (by decide)
                  have ty30 : y30.toInt = y26.toInt - y28.toInt := ty30
                  have iy30 : -10 ≤ y30.toInt ∧ y30.toInt ≤ 10 := iy30
                  refine th_pi (va_runS (As := [.int y30]) (rest := [.int v14_1]) ⟨hx, hb, hml, hown, hts⟩ (q_csignumX l y30 (iv_w iy30 (by decide))) (va_cwS 1 hts (gi_S (in_19 _ (zs16 (zs16 (zs1 (zs1 (zs0)))))) (in_19 _ (zs16 (zs16 (zs1 (zs1 (zs1 (zs0))))))) (in_4 _ (zs16 (zs4 (zs4 (zs1 (zs1 (zs1 (zs0)))))))) (in_2 _ (zs4 (zs4 (zs4 (zs1 (zs1 (zs0)))))))) rfl rfl rfl hz_yJ6_signum_0f7a4_1 ⟨Nat.le_of_ble_eq_true rfl, Nat.le_of_ble_eq_true rfl⟩) ⟨fun _ _ _ _ q => q, fun _ _ _ => ⟨rfl, trivial⟩⟩ rfl rfl hl.1 rfl (lv_room (Nat.le_of_ble_eq_true rfl)) dX5_leaning_57 ⟨Nat.le_of_ble_eq_true rfl, Nat.le_of_ble_eq_true rfl⟩) hS (fun r31 H1 locs1 hw hk1 hS => ?_)
                  have hP := ub_keep hP hk1
                  generalize H1 = H at hP hS ⊢
                  generalize locs1 = locs at hS ⊢
                  have f32 := hw
                  refine lv_aload_n hx hb dX5_leaning_60 rfl (lv_at hl 3 rfl) ?_
                  refine th_getL (ci := 6) (C := RX5) (T := TX5) (N := 12) (v := .ref (ad (64 * (i + 1) + 10))) hx hb hts hinX5 hown hK hP hI (64 * (i + 1) + 6) (mP 6 i (by decide) hh0 (kl_le hC 2 (by decide))) (shC_p 6 i (by decide)) rfl 10 (Nat.le_of_ble_eq_true rfl) (hts _ (vA_in _ _ (in_19 _ (zs16 (zs16 (zs1 (zs0))))))) (fun _ h9 => h9) (hI.fr (64 * (i + 1) + 6) (mP 6 i (by decide) hh0 (kl_le hC 2 (by decide))) (shC_p 6 i (by decide)) (Nat.le_of_ble_eq_true rfl) (64 * (i + 1) + 10) (spC_p 6 i (by decide) 10)) dX5_leaning_61 ?_
                  refine lv_iload_n hx hb dX5_leaning_64 rfl (lv_at hl 0 rfl) ?_
                  have n34 : vp_in v14_3 16 := (iv_in (n := 16) i12 (by decide))
                  refine th_ialdL hx hb hK hP hI (64 * (i + 1) + 10) (mP 10 i (by decide) hh0 (kl_le hC 2 (by decide))) (shC_p 10 i (by decide)) rfl n34 dX5_leaning_65 (fun y33 ey33 => ?_)
                  have iy33 : 0 ≤ y33.toInt ∧ y33.toInt ≤ 600 := hI.el (64 * (i + 1) + 10) (mP 10 i (by decide) hh0 (kl_le hC 2 (by decide))) (shC_p 10 i (by decide)) n34 (fun j9 => spC_p 10 i (by decide) j9) ey33
                  have ey33 := ey33.trans (hKp.ei (64 * (i + 1) + 10) _ (wl_p rfl rfl (by omega)))
                  refine lv_aload_n hx hb dX5_leaning_66 rfl (lv_at hl 3 rfl) ?_
                  refine th_getL (ci := 6) (C := RX5) (T := TX5) (N := 12) (v := .ref (ad (64 * (i + 1) + 10))) hx hb hts hinX5 hown hK hP hI (64 * (i + 1) + 6) (mP 6 i (by decide) hh0 (kl_le hC 2 (by decide))) (shC_p 6 i (by decide)) rfl 10 (Nat.le_of_ble_eq_true rfl) (hts _ (vA_in _ _ (in_19 _ (zs16 (zs16 (zs1 (zs0))))))) (fun _ h9 => h9) (hI.fr (64 * (i + 1) + 6) (mP 6 i (by decide) hh0 (kl_le hC 2 (by decide))) (shC_p 6 i (by decide)) (Nat.le_of_ble_eq_true rfl) (64 * (i + 1) + 10) (spC_p 6 i (by decide) 10)) dX5_leaning_67 ?_
                  refine lv_iload_n hx hb dX5_leaning_70 rfl (lv_at hl 1 rfl) ?_
                  have n36 : vp_in v4_2 16 := (iv_in (n := 16) i5 (by decide))
                  refine th_ialdL hx hb hK hP hI (64 * (i + 1) + 10) (mP 10 i (by decide) hh0 (kl_le hC 2 (by decide))) (shC_p 10 i (by decide)) rfl n36 dX5_leaning_71 (fun y35 ey35 => ?_)
                  have iy35 : 0 ≤ y35.toInt ∧ y35.toInt ≤ 600 := hI.el (64 * (i + 1) + 10) (mP 10 i (by decide) hh0 (kl_le hC 2 (by decide))) (shC_p 10 i (by decide)) n36 (fun j9 => spC_p 10 i (by decide) j9) ey35
                  have ey35 := ey35.trans (hKp.ei (64 * (i + 1) + 10) _ (wl_p rfl rfl (by omega)))
                  refine lv_isub hx hb dX5_leaning_72 ?_
                  refine lv_topi (fun y37 ey37 => ?_)
                  obtain ⟨ty37, iy37⟩ := ti_sub (e := (-600)) (f := 600) iy33 iy35 ey37 (by decide)
                  have ty37 : y37.toInt = y33.toInt - y35.toInt := ty37
                  have iy37 : -600 ≤ y37.toInt ∧ y37.toInt ≤ 600 := iy37
                  refine th_pi (va_runS (As := [.int y37]) (rest := [.int r31, .int v14_1]) ⟨hx, hb, hml, hown, hts⟩ (q_csignumX l y37 iy37) (va_cwS 1 hts (gi_S (in_19 _ (zs16 (zs16 (zs1 (zs1 (zs0)))))) (in_19 _ (zs16 (zs16 (zs1 (zs1 (zs1 (zs0))))))) (in_4 _ (zs16 (zs4 (zs4 (zs1 (zs1 (zs1 (zs0)))))))) (in_2 _ (zs4 (zs4 (zs4 (zs1 (zs1 (zs0)))))))) rfl rfl rfl hz_yJ6_signum_0f7a4_1 ⟨Nat.le_of_ble_eq_true rfl, Nat.le_of_ble_eq_true rfl⟩) ⟨fun _ _ _ _ q => q, fun _ _ _ => ⟨rfl, trivial⟩⟩ rfl rfl hl.1 rfl (lv_room (Nat.le_of_ble_eq_true rfl)) dX5_leaning_73 ⟨Nat.le_of_ble_eq_true rfl, Nat.le_of_ble_eq_true rfl⟩) hS (fun r38 H1 locs1 hw hk1 hS => ?_)
                  have hP := ub_keep hP hk1
                  generalize H1 = H at hP hS ⊢
                  generalize locs1 = locs at hS ⊢
                  have f39 := hw
                  refine lv_imul hx hb dX5_leaning_76 ?_
                  refine lv_topi (fun y40 ey40 => ?_)
                  refine lv_iadd hx hb dX5_leaning_77 ?_
                  refine lv_topi (fun y41 ey41 => ?_)
                  refine lv_istore_n (lv' := [(1, .int y41), (3, .int v14_3), (2, .int v4_2), (0, .ref (ad (64 * (i + 1) + 6)))]) hx hb dX5_leaning_78 rfl hl (by decide) rfl (fun ls hl => ?_)
                  obtain ⟨y42, ey42⟩ : ∃ y : Int32, y = v14_3 + (1 : Int32) := ⟨_, rfl⟩
                  obtain ⟨ty42, iy42⟩ := ti_add (e := 2) (f := 16) i12 ln_1 ey42 (by decide)
                  have ty42 : y42.toInt = v14_3.toInt + 1 := ty42
                  have iy42 : 2 ≤ y42.toInt ∧ y42.toInt ≤ 16 := iy42
                  refine lv_iinc (v := y42) (lv' := [(3, .int y42), (1, .int y41), (2, .int v4_2), (0, .ref (ad (64 * (i + 1) + 6)))]) hx hb dX5_leaning_79 hl (k := 1) rfl (by rw [ey42]; rfl) (by decide) rfl (fun ls hl => ?_)
                  refine lv_goto (tgt := 14) hx hb dX5_leaning_82 (by decide) ?_
                  exact ih14 y42 y41 _ _ _ (iv_w iy42 (by decide)) (by have gy13 := congrArg Int32.toInt ey13; have gy21 := congrArg Int32.toInt ey21; rw [tn_s ty42 hv14_3 (by decide), lnR_s1 (by rw [tn_, tn_]; omega) (by omega), ey41, ey40, f32, f39, ey30, ey37, ey26, ey28, ey33, ey35, hx14_0, Int32.add_assoc]) (by omega) (by first | exact ms_su hx14_2 ty42 (by decide) | omega) hP hS (lv_sub hl [0, 2, 1, 3] rfl)
                · --37 not
                  have t43 : y21.toInt = -1 := ti_eq c23
                  have i44 : -1 ≤ y21.toInt ∧ y21.toInt ≤ -1 := iv_eqi t43 iy21 (il_ (-1)) (by decide)
                  refine lv_goto (tgt := 79) hx hb dX5_leaning_40 (by decide) ?_
                  obtain ⟨y45, ey45⟩ : ∃ y : Int32, y = v14_3 + (1 : Int32) := ⟨_, rfl⟩
                  obtain ⟨ty45, iy45⟩ := ti_add (e := 2) (f := 16) i12 ln_1 ey45 (by decide)
                  have ty45 : y45.toInt = v14_3.toInt + 1 := ty45
                  have iy45 : 2 ≤ y45.toInt ∧ y45.toInt ≤ 16 := iy45
                  refine lv_iinc (v := y45) (lv' := [(3, .int y45), (2, .int v4_2), (1, .int v14_1), (0, .ref (ad (64 * (i + 1) + 6)))]) hx hb dX5_leaning_79 hl (k := 0) rfl (by rw [ey45]; rfl) (by decide) rfl (fun ls hl => ?_)
                  refine lv_goto (tgt := 14) hx hb dX5_leaning_82 (by decide) ?_
                  exact ih14 y45 v14_1 _ _ _ (iv_w iy45 (by decide)) (by have gy13 := congrArg Int32.toInt ey13; have gy21 := congrArg Int32.toInt ey21; rw [tn_s ty45 hv14_3 (by decide), lnR_s0 (by omega)]; exact hx14_0) (by omega) (by first | exact ms_su hx14_2 ty45 (by decide) | omega) hP hS (lv_sub hl [0, 1, 2, 3] rfl)
        exact hL14 (16) y6 v4_1 _ _ _ iy6 (by rw [lnR_z (by rw [tn_, tn_]; omega), Int32.add_zero]; exact hx4_0) (by omega) (by have h9 := iy6; first | exact ms_bu h9.1 (by decide) | omega) hP hS (lv_sub hl [0, 1, 2, 3] rfl)
  exact hL4 (17) (0 : Int32) (0 : Int32) _ _ _ (iv_w ln_0 (by decide)) rfl (by have h9 := ln_0; first | exact ms_bu h9.1 (by decide) | omega) hP hS (lv_sub hl [0, 1, 2] rfl)
def v_u_leanX : List Cond := .code yX12_lean cX12_lean 2 (some .int) :: vA
abbrev rm_u_leanX : Room := { frames := 3, cells := 0, slots := 0, locals := 120 }
def w_u_leanX : Nat → Nat → Bool := wl [] []
set_option maxHeartbeats 4000000 in
set_option maxRecDepth 100000 in
theorem q_u_leanX (l : Launch) (dC : Nat → ClassId) (dI : Nat → Nat → Nat) (cT : Nat → ClassId) (cf : Nat → Nat) (hC : CF cf) (ad : Nat → Nat) (E : Nat → va_E) (sz : Nat) (a0 : Int32) (hI0 : IXL cT (shC cf) (spC cf) (LC cf) ad E)  : Met l yX12_lean v_u_leanX rm_u_leanX (va_Pc [.ref (ad 0), .int a0] (HWL dC dI (TYC cT) cf ad E sz)) (va_Qi (S := Nat → va_E) (fun r u => IXL cT (shC cf) (spC cf) (LC cf) ad u ∧ Kp w_u_leanX E u ∧ (((((0 ≤ a0.toInt ∧ a0.toInt < ((cf 2 : Nat) : Int)) → (r = lnA (xi (E (64 * (a0.toNatClampNeg + 1) + 9))) (xi (E (64 * (a0.toNatClampNeg + 1) + 10))) 16)) ∧ (¬ (0 ≤ a0.toInt ∧ a0.toInt < ((cf 2 : Nat) : Int)) → (r = -1000000000)))))) (HBL dC dI (LC cf) ad) (va_A (WL (LC cf) ad E) sz)) 0 0 (va_A (WL (LC cf) ad E) sz) := by
  obtain ⟨⟨hc0, hc1, hc2, hc3, hc4, hc5⟩, hcr⟩ := id hC
  refine Met.ofW (cc := cX12_lean) (maxL := 2) (ret := (some .int)) (by decide) rfl ?_
  intro p e s m args below meth c s₁ B hml hv
  obtain ⟨hargs, hsz, hP, hK, hD0, hEV⟩ := hv
  subst hsz
  have hx := B.exec
  have hb := B.bytes
  have hr := B.returns
  have hts := atoms_spec (ws := v_u_leanX) B.pre
  have hown : s.vm.findClass RX12 = some m.cls := findClass_of_methodNamed B.named
  have hlocks := B.notSynchronized
  have hinX0 : ∀ w ∈ u_ws RX0 TX0 11, w ∈ v_u_leanX := fun w h => vA_in _ w (in_X0 w h)
  have hinX12 : ∀ w ∈ u_ws RX12 TX12 6, w ∈ v_u_leanX := fun w h => vA_in _ w (in_X12 w h)
  generalize hAe : va_A (WL (LC cf) ad E) s.heap.size = A at hEV ⊢
  have hA : ∀ q : Nat, s.heap.size ≤ q → A q := fun q h => by rw [← hAe]; exact Or.inr h
  have hD : va_D A (WL (LC cf) ad E) := by rw [← hAe]; exact hD0.self
  have hS : va_S A s.heap s.heap [] := va_S.rf
  have hI := hI0
  have hKp : Kp w_u_leanX E E := Kp.rf
  have hl := lv_entry ([.ref (ad 0), .int a0]) (n := 2) (Nat.le_of_ble_eq_true rfl)
  obtain ⟨Q, hQ⟩ : ∃ Q, Q = MQ below (va_Qi (S := Nat → va_E) (fun r u => IXL cT (shC cf) (spC cf) (LC cf) ad u ∧ Kp w_u_leanX E u ∧ (((((0 ≤ a0.toInt ∧ a0.toInt < ((cf 2 : Nat) : Int)) → (r = lnA (xi (E (64 * (a0.toNatClampNeg + 1) + 9))) (xi (E (64 * (a0.toNatClampNeg + 1) + 10))) 16)) ∧ (¬ (0 ≤ a0.toInt ∧ a0.toInt < ((cf 2 : Nat) : Int)) → (r = -1000000000)))))) (HBL dC dI (LC cf) ad) (A)) args s 0 0 (A) := ⟨_, rfl⟩
  rw [← hQ, show entryFrame m args 2 = _ from (congrArg (fun z => entryFrame m z 2) hargs).trans (lg_entry_eq _ _ _)]
  generalize (lg_sl ([.ref (ad 0), .int a0]) ++ List.replicate (2 - (lg_sl ([.ref (ad 0), .int a0])).length) Slot.unset).toArray = ls at hl ⊢
  have hl : lv_has ls 2 [(0, .ref (ad 0)), (1, .int a0)] := hl
  refine lv_aload_n hx hb dX12_lean_0 rfl (lv_at hl 0 rfl) ?_
  refine th_getL (ci := 13) (C := RX12) (T := TX12) (N := 6) (v := .ref (ad 1)) hx hb hts hinX12 hown hK hP hI 0 (mF 0 rfl) rfl rfl 0 (Nat.le_of_ble_eq_true rfl) (hts _ (vA_in _ _ (in_10 _ (zs16 (zs1 (zs0)))))) (fun _ h9 => h9) (hI.fr 0 (mF 0 rfl) rfl (Nat.le_of_ble_eq_true rfl) 1 rfl) dX12_lean_1 ?_
  refine lv_iload_n hx hb dX12_lean_4 rfl (lv_at hl 1 rfl) ?_
  refine th_riL (va_runV (As := [.int a0]) (rest := []) ⟨hx, hb, hml, hown, hts⟩ (q_isRaceC l dC dI cT cf hC ad E s.heap.size a0 hI) (cwV 1 hts (gi_V (in_18 _ zs0) (in_6 _ (zs4 (zs1 (zs1 (zs1 (zs0)))))) (in_6 _ (zs4 (zs4 (zs0)))) (in_5 _ (zs4 (zs1 (zs1 (zs0))))) (in_6 _ (zs4 (zs4 (zs1 (zs0)))))) rfl rfl rfl ⟨rfl, hz_yX0_isRace_1⟩ ⟨Nat.le_of_ble_eq_true rfl, Nat.le_of_ble_eq_true rfl⟩) ⟨HWL_bl, va_recv hK hP (ci := 1) (q0 := posL 1 (LC cf)) rfl (hI.ob 1 (mF 1 rfl) rfl), (HWL_wi hP hK (WL_D hD) hS hA hEV)⟩ rfl rfl hl.1 rfl (lv_room (Nat.le_of_ble_eq_true rfl)) dX12_lean_5 ⟨Nat.le_of_ble_eq_true rfl, Nat.le_of_ble_eq_true rfl⟩) hS hP (fun r1 H locs hw hP hS => ?_)
  rcases hw with hw | hw
  · -- isRaceC, case 0
    obtain ⟨rfl, f2, f3⟩ := hw
    refine lv_if_ne (tgt := 14) hx hb dX12_lean_8 (by decide) (fun c4 => ?_) (fun c4 => ?_)
    · --8 taken
      refine lv_aload_n hx hb dX12_lean_14 rfl (lv_at hl 0 rfl) ?_
      refine th_getL (ci := 13) (C := RX12) (T := TX12) (N := 6) (v := .ref (ad 1)) hx hb hts hinX12 hown hK hP hI 0 (mF 0 rfl) rfl rfl 0 (Nat.le_of_ble_eq_true rfl) (hts _ (vA_in _ _ (in_10 _ (zs16 (zs1 (zs0)))))) (fun _ h9 => h9) (hI.fr 0 (mF 0 rfl) rfl (Nat.le_of_ble_eq_true rfl) 1 rfl) dX12_lean_15 ?_
      refine th_getL (ci := 1) (C := RX0) (T := TX0) (N := 11) (v := .ref (ad 9)) hx hb hts hinX0 hown hK hP hI 1 (mF 1 rfl) rfl rfl 5 (Nat.le_of_ble_eq_true rfl) (hts _ (vA_in _ _ (in_14 _ (zs4 (zs1 (zs1 (zs1 (zs0)))))))) (fun _ h9 => h9) (hI.fr 1 (mF 1 rfl) rfl (Nat.le_of_ble_eq_true rfl) 9 rfl) dX12_lean_18 ?_
      refine lv_iload_n hx hb dX12_lean_21 rfl (lv_at hl 1 rfl) ?_
      refine th_rrL (va_runV (As := [.int a0]) (rest := []) ⟨hx, hb, hml, hown, hts⟩ (q_get2 l dC dI cT cf hC ad E H.size a0 hI (by omega)) (cwV 1 hts (gi_V (in_14 _ (zs16 (zs4 (zs4 (zs0))))) (in_4 _ (zs16 (zs16 (zs4 (zs1 (zs1 (zs0))))))) (in_4 _ (zs16 (zs16 (zs4 (zs1 (zs1 (zs1 (zs0)))))))) (in_3 _ (zs16 (zs1 (zs1 (zs0))))) (in_3 _ (zs16 (zs16 (zs4 (zs1 (zs1 (zs1 (zs0))))))))) rfl rfl rfl ⟨rfl, hz_yJx4a65c_get_915e3_1⟩ ⟨Nat.le_of_ble_eq_true rfl, Nat.le_of_ble_eq_true rfl⟩) ⟨HWL_bl, va_recv hK hP (ci := 0) (q0 := posL 9 (LC cf)) rfl (hI.ob 9 (mF 9 rfl) rfl), (HWL_wi hP hK (WL_D hD) hS hA hEV)⟩ rfl rfl hl.1 rfl (lv_room (Nat.le_of_ble_eq_true rfl)) dX12_lean_22 ⟨Nat.le_of_ble_eq_true rfl, Nat.le_of_ble_eq_true rfl⟩) hS hP (fun r5 H locs hw hP hS => ?_)
      obtain rfl := hw
      have lv6 : a0.toNatClampNeg < cf 2 := by rw [tn_]; omega
      refine va_castS (cC := dC 6) hx hb hown (hts _ (vA_in _ _ (in_17 _ (zs16 (zs16 (zs4 (zs1 (zs1 (zs0))))))))) (hK.1 6 _ rfl).2 (va_recv hK hP (ci := 6) (q0 := posL (64 * (a0.toNatClampNeg + 1) + 6) (LC cf)) rfl (hI.ob (64 * (a0.toNatClampNeg + 1) + 6) (mP 6 a0.toNatClampNeg (by decide) lv6 (kl_le hC 2 (by decide))) (shC_p 6 a0.toNatClampNeg (by decide)))) dX12_lean_25 ?_
      refine th_riL (va_runV (As := []) (rest := []) ⟨hx, hb, hml, hown, hts⟩ (q_leaningX l dC dI cT cf hC ad E H.size a0.toNatClampNeg hI (by omega)) (cwV 0 hts (gi_V (in_19 _ (zs16 (zs4 (zs4 (zs4 (zs0)))))) (in_19 _ (zs16 (zs4 (zs4 (zs4 (zs1 (zs0))))))) (in_19 _ (zs16 (zs4 (zs4 (zs4 (zs1 (zs1 (zs0)))))))) (in_6 _ (zs16 (zs1 (zs0)))) (in_19 _ (zs16 (zs4 (zs4 (zs4 (zs1 (zs1 (zs1 (zs0)))))))))) rfl rfl rfl ⟨rfl, hz_yX5_leaning_0⟩ ⟨Nat.le_of_ble_eq_true rfl, Nat.le_of_ble_eq_true rfl⟩) ⟨HWL_bl, va_recv hK hP (ci := 6) (q0 := posL (64 * (a0.toNatClampNeg + 1) + 6) (LC cf)) rfl (hI.ob (64 * (a0.toNatClampNeg + 1) + 6) (mP 6 a0.toNatClampNeg (by decide) lv6 (kl_le hC 2 (by decide))) (shC_p 6 a0.toNatClampNeg (by decide))), (HWL_wi hP hK (WL_D hD) hS hA hEV)⟩ rfl rfl hl.1 rfl (lv_room (Nat.le_of_ble_eq_true rfl)) dX12_lean_28 ⟨Nat.le_of_ble_eq_true rfl, Nat.le_of_ble_eq_true rfl⟩) hS hP (fun r7 H locs hw hP hS => ?_)
      have f8 := hw
      rw [hQ]
      exact W.iret (v := r7) hx hb hr (fun t ht hW => ⟨⟨r7, E, rfl, ⟨hI, hKp, ⟨fun _ => f8, fun g9 => by exfalso; omega⟩⟩, by show va_P (dC, dI) vwCl (WL (LC cf) ad E) t.heap; rw [ht]; exact hP⟩, hS.F ht⟩) hS.2.2 dX12_lean_31
    · --8 not
      exact absurd c4 (by decide)
  · -- isRaceC, case 1
    obtain ⟨rfl, f9⟩ := hw
    refine lv_if_ne (tgt := 14) hx hb dX12_lean_8 (by decide) (fun c10 => ?_) (fun c10 => ?_)
    · --8 taken
      exact absurd c10 (by decide)
    · --8 not
      refine lv_ldc hx hb hown (hts _ (vA_in _ _ (in_11 _ (zs4 (zs1 (zs1 (zs1 (zs0)))))))) dX12_lean_11 ?_
      rw [hQ]
      exact W.iret (v := (-1000000000)) hx hb hr (fun t ht hW => ⟨⟨(-1000000000), E, rfl, ⟨hI, hKp, ⟨fun g9 => by exfalso; omega, fun _ => rfl⟩⟩, by show va_P (dC, dI) vwCl (WL (LC cf) ad E) t.heap; rw [ht]; exact hP⟩, hS.F ht⟩) hS.2.2 dX12_lean_13
def v_leanX : List Cond := .code yX13_lean cX13_lean 5 (some .int) :: vA
abbrev rm_leanX : Room := { frames := 1, cells := 0, slots := 0, locals := 40 }
def w_leanX : Nat → Nat → Bool := wl [] [(0, 0)]
set_option maxHeartbeats 4000000 in
set_option maxRecDepth 100000 in
theorem q_leanX (l : Launch) (dC : Nat → ClassId) (dI : Nat → Nat → Nat) (cT : Nat → ClassId) (ad : Nat → Nat) (E : Nat → va_E) (sz : Nat) (a0 : Int32) (hI0 : IX cT shM spM 72 ad E)  : Met l yX13_lean v_leanX rm_leanX (va_Pc [.ref (ad 0), .int a0] (HW dC dI (TYM cT) 72 ad E sz)) (va_Qi (S := Nat → va_E) (fun r u => IX cT shM spM 72 ad u ∧ Kp w_leanX E u ∧ (((((0 ≤ a0.toInt ∧ a0.toInt < (xi (E 0) 46).toInt) → (r = mnA (xi (E 22)) (xi (E 23)) (16 * a0.toInt).toNat (xi (E 0) 8).toNatClampNeg (xi (E 0) 8).toNatClampNeg)) ∧ (¬ (0 ≤ a0.toInt ∧ a0.toInt < (xi (E 0) 46).toInt) → (r = -1000000000)))))) (HB dC dI 72 ad) (va_A (WX 72 ad E) sz)) 0 0 (va_A (WX 72 ad E) sz) := by
  refine Met.ofW (cc := cX13_lean) (maxL := 5) (ret := (some .int)) (by decide) rfl ?_
  intro p e s m args below meth c s₁ B hml hv
  obtain ⟨hargs, hsz, hP, hK, hD0, hEV⟩ := hv
  subst hsz
  have hx := B.exec
  have hb := B.bytes
  have hr := B.returns
  have hts := atoms_spec (ws := v_leanX) B.pre
  have hown : s.vm.findClass RX13 = some m.cls := findClass_of_methodNamed B.named
  have hlocks := B.notSynchronized
  have hinX13 : ∀ w ∈ u_ws RX13 TX13 97, w ∈ v_leanX := fun w h => vA_in _ w (in_X13 w h)
  generalize hAe : va_A (WX 72 ad E) s.heap.size = A at hEV ⊢
  have hA : ∀ q : Nat, s.heap.size ≤ q → A q := fun q h => by rw [← hAe]; exact Or.inr h
  have hD : va_D A (WX 72 ad E) := by rw [← hAe]; exact hD0.self
  have hS : va_S A s.heap s.heap [] := va_S.rf
  have hI := hI0
  have hKp : Kp w_leanX E E := Kp.rf
  have hl := lv_entry ([.ref (ad 0), .int a0]) (n := 5) (Nat.le_of_ble_eq_true rfl)
  obtain ⟨Q, hQ⟩ : ∃ Q, Q = MQ below (va_Qi (S := Nat → va_E) (fun r u => IX cT shM spM 72 ad u ∧ Kp w_leanX E u ∧ (((((0 ≤ a0.toInt ∧ a0.toInt < (xi (E 0) 46).toInt) → (r = mnA (xi (E 22)) (xi (E 23)) (16 * a0.toInt).toNat (xi (E 0) 8).toNatClampNeg (xi (E 0) 8).toNatClampNeg)) ∧ (¬ (0 ≤ a0.toInt ∧ a0.toInt < (xi (E 0) 46).toInt) → (r = -1000000000)))))) (HB dC dI 72 ad) (A)) args s 0 0 (A) := ⟨_, rfl⟩
  rw [← hQ, show entryFrame m args 5 = _ from (congrArg (fun z => entryFrame m z 5) hargs).trans (lg_entry_eq _ _ _)]
  generalize (lg_sl ([.ref (ad 0), .int a0]) ++ List.replicate (5 - (lg_sl ([.ref (ad 0), .int a0])).length) Slot.unset).toArray = ls at hl ⊢
  have hl : lv_has ls 5 [(0, .ref (ad 0)), (1, .int a0)] := hl
  refine lv_aload_n hx hb dX13_lean_0 rfl (lv_at hl 0 rfl) ?_
  refine lv_iconst (v := 0) hx hb dX13_lean_1 (by decide) ?_
  refine th_put (ci := 14) (C := RX13) (T := TX13) (N := 97) (v := .int 0) (ty := .int) hx hb hts hinX13 tyX13 tyX13_ok nmX13 hown hK hP (WX_D hD) hS hI 0 (Nat.le_of_ble_eq_true rfl) rfl rfl 0 (Nat.le_of_ble_eq_true rfl) (hts _ (vA_in _ _ (in_24 _ (zs4 (zs4 (zs1 (zs1 (zs0)))))))) (fun _ h9 => h9) rfl (by decide +kernel) rfl rfl (okI rfl (iv_w ln_0 (by decide))) dX13_lean_2 (fun H locs E1 pw2 hI hP hS => ?_)
  have hKp := hKp.pw pw2 rfl
  refine lv_aload_n hx hb dX13_lean_5 rfl (lv_at hl 0 rfl) ?_
  refine lv_iload_n hx hb dX13_lean_6 rfl (lv_at hl 1 rfl) ?_
  refine th_ri (va_runV (As := [.int a0]) (rest := []) ⟨hx, hb, hml, hown, hts⟩ (q_isRace l dC dI cT ad E1 H.size a0 hI) (cwV 1 hts (gi_V (in_24 _ (zs4 (zs4 (zs4 (zs0))))) (in_24 _ (zs4 (zs4 (zs4 (zs1 (zs0)))))) (in_24 _ (zs4 (zs4 (zs4 (zs1 (zs1 (zs0))))))) (in_24 _ (zs4 (zs4 (zs4 (zs1 (zs1 (zs1 (zs0)))))))) (in_24 _ (zs16 (zs0)))) rfl rfl rfl ⟨rfl, hz_yX13_isRace_1⟩ ⟨Nat.le_of_ble_eq_true rfl, Nat.le_of_ble_eq_true rfl⟩) ⟨HW_bl, va_recv hK hP (ci := 14) (q0 := 0) rfl (hI.ob 0 (Nat.le_of_ble_eq_true rfl) rfl), (HW_wi hP hK (WX_D hD) hS hA hEV)⟩ rfl rfl hl.1 rfl (lv_room (Nat.le_of_ble_eq_true rfl)) dX13_lean_7 ⟨Nat.le_of_ble_eq_true rfl, Nat.le_of_ble_eq_true rfl⟩) hS hP (fun r3 H locs hw hP hS => ?_)
  rcases hw with hw | hw
  · -- isRace, case 0
    obtain ⟨rfl, f4, f5⟩ := hw
    have i6 : 0 ≤ (xi (E 0) 46).toInt ∧ (xi (E 0) 46).toInt ≤ 20 := (show 0 ≤ (xi (E 0) 46).toInt ∧ (xi (E 0) 46).toInt ≤ 20 from hI0.iv 0 (Nat.le_of_ble_eq_true rfl) rfl (Nat.le_of_ble_eq_true rfl) rfl)
    try rw [hKp.ei 0 46 rfl] at f4
    refine lv_if_ne (tgt := 17) hx hb dX13_lean_10 (by decide) (fun c7 => ?_) (fun c7 => ?_)
    · --10 taken
      refine lv_iconst (v := 0) hx hb dX13_lean_17 (by decide) ?_
      refine lv_istore_n (lv' := [(2, .int 0), (0, .ref (ad 0)), (1, .int a0)]) hx hb dX13_lean_18 rfl hl (by decide) rfl (fun ls hl => ?_)
      refine lv_bipush (v := 16) hx hb dX13_lean_19 (by decide) ?_
      refine lv_iload_n hx hb dX13_lean_21 rfl (lv_at hl 2 rfl) ?_
      refine lv_imul hx hb dX13_lean_22 ?_
      refine lv_topi (fun y8 ey8 => ?_)
      obtain ⟨ty8, iy8⟩ := ti_mul (e := 0) (f := 304) ln_16 f5 ey8 (by decide)
      have ty8 : y8.toInt = 16 * a0.toInt := ty8
      have iy8 : 0 ≤ y8.toInt ∧ y8.toInt ≤ 304 := iy8
      refine lv_istore_n (lv' := [(3, .int y8), (2, .int 0), (0, .ref (ad 0)), (1, .int a0)]) hx hb dX13_lean_23 rfl hl (by decide) rfl (fun ls hl => ?_)
      have hL24 : ∀ d : Nat, ∀ (v24_3 : Int32) (v24_2 : Int32) (H : Heap) (locs : List Loc) (ls : Array Slot), 0 ≤ v24_3.toInt ∧ v24_3.toInt ≤ 320 → v24_2 = mnA (xi (E 22)) (xi (E 23)) (16 * a0.toInt).toNat (xi (E 0) 8).toNatClampNeg (v24_3.toInt - 16 * a0.toInt).toNat → 16 * a0.toInt ≤ v24_3.toInt → v24_3.toInt ≤ 16 * a0.toInt + (xi (E 0) 8).toInt → 320 - v24_3.toInt < (d : Int) → va_P (dC, dI) vwCl (WX 72 ad E1) H → va_S A s.heap H locs → lv_has ls 5 [(3, .int v24_3), (2, .int v24_2), (0, .ref (ad 0)), (1, .int a0)] → W p l e (headSpec v_leanX rm_leanX).room s m args below meth c H locs 0 0 Q (F0 m 24 ls []) := by
        intro d
        induction d with
        | zero =>
          intro v24_3 v24_2 H locs ls hv24_3 hx24_0 hx24_1 hx24_2 hx24_3 hP hS hl
          exact absurd hx24_3 (by first | exact ms_zu hv24_3.2 | omega)
        | succ d ih24 =>
          intro v24_3 v24_2 H locs ls hv24_3 hx24_0 hx24_1 hx24_2 hx24_3 hP hS hl
          refine lv_iload_n hx hb dX13_lean_24 rfl (lv_at hl 0 rfl) ?_
          refine lv_bipush (v := 16) hx hb dX13_lean_25 (by decide) ?_
          refine lv_iload_n hx hb dX13_lean_27 rfl (lv_at hl 3 rfl) ?_
          refine lv_imul hx hb dX13_lean_28 ?_
          refine lv_topi (fun y9 ey9 => ?_)
          obtain ⟨ty9, iy9⟩ := ti_mul (e := 0) (f := 304) ln_16 f5 ey9 (by decide)
          have ty9 : y9.toInt = 16 * a0.toInt := ty9
          have iy9 : 0 ≤ y9.toInt ∧ y9.toInt ≤ 304 := iy9
          refine lv_aload_n hx hb dX13_lean_29 rfl (lv_at hl 2 rfl) ?_
          have i10 : 0 ≤ (xi (E 0) 8).toInt ∧ (xi (E 0) 8).toInt ≤ 16 := hI0.iv 0 (Nat.le_of_ble_eq_true rfl) rfl (Nat.le_of_ble_eq_true rfl) rfl
          refine th_get (ci := 14) (C := RX13) (T := TX13) (N := 97) (v := .int (xi (E 0) 8)) hx hb hts hinX13 hown hK hP hI 0 (Nat.le_of_ble_eq_true rfl) rfl rfl 8 (Nat.le_of_ble_eq_true rfl) (hts _ (vA_in _ _ (in_24 _ (zs16 (zs4 (zs1 (zs1 (zs0)))))))) (fun _ h9 => h9) (th_v0 hKp hI0 0 (Nat.le_of_ble_eq_true rfl) rfl (Nat.le_of_ble_eq_true rfl) rfl rfl) dX13_lean_30 ?_
          refine lv_iadd hx hb dX13_lean_33 ?_
          refine lv_topi (fun y11 ey11 => ?_)
          obtain ⟨ty11, iy11⟩ := ti_add (e := 0) (f := 320) iy9 i10 ey11 (by decide)
          have ty11 : y11.toInt = y9.toInt + (xi (E 0) 8).toInt := ty11
          have iy11 : 0 ≤ y11.toInt ∧ y11.toInt ≤ 320 := iy11
          refine lv_icmp_ge (tgt := 149) hx hb dX13_lean_34 (by decide) (fun c12 => ?_) (fun c12 => ?_)
          · --34 taken
            have t13 : y11.toInt ≤ v24_3.toInt := ti_le c12
            refine lv_iload_n hx hb dX13_lean_149 rfl (lv_at hl 1 rfl) ?_
            rw [hQ]
            exact W.iret (v := v24_2) hx hb hr (fun t ht hW => ⟨⟨v24_2, E1, rfl, ⟨hI, hKp, ⟨fun _ => by have h9 := hx24_0; rw [show (v24_3.toInt - 16 * a0.toInt).toNat = (xi (E 0) 8).toNatClampNeg by rw [tn_]; omega] at h9; exact h9, fun g9 => by exfalso; omega⟩⟩, by show va_P (dC, dI) vwCl (WX 72 ad E1) t.heap; rw [ht]; exact hP⟩, hS.F ht⟩) hS.2.2 dX13_lean_150
          · --34 not
            have t14 : v24_3.toInt < y11.toInt := ti_nle c12
            have i15 : 0 ≤ v24_3.toInt ∧ v24_3.toInt ≤ 319 := iv_lt_l t14 hv24_3 iy11 (by decide)
            have i16 : 1 ≤ y11.toInt ∧ y11.toInt ≤ 320 := iv_lt_r t14 hv24_3 iy11 (by decide)
            refine lv_bipush (v := 16) hx hb dX13_lean_37 (by decide) ?_
            refine lv_iload_n hx hb dX13_lean_39 rfl (lv_at hl 3 rfl) ?_
            refine lv_imul hx hb dX13_lean_40 ?_
            refine lv_topi (fun y17 ey17 => ?_)
            obtain ⟨ty17, iy17⟩ := ti_mul (e := 0) (f := 304) ln_16 f5 ey17 (by decide)
            have ty17 : y17.toInt = 16 * a0.toInt := ty17
            have iy17 : 0 ≤ y17.toInt ∧ y17.toInt ≤ 304 := iy17
            refine lv_istore (lv' := [(4, .int y17), (3, .int v24_3), (2, .int v24_2), (0, .ref (ad 0)), (1, .int a0)]) hx hb dX13_lean_41 hl (by decide) rfl (fun ls hl => ?_)
            have hL43 : ∀ d : Nat, ∀ (v43_4 : Int32) (v43_2 : Int32) (H : Heap) (locs : List Loc) (ls : Array Slot), 0 ≤ v43_4.toInt ∧ v43_4.toInt ≤ 320 → v43_2 = mnA (xi (E 22)) (xi (E 23)) (16 * a0.toInt).toNat (xi (E 0) 8).toNatClampNeg (v24_3.toInt - 16 * a0.toInt).toNat + S32 (mnR (xi (E 22)) (xi (E 23)) (16 * a0.toInt).toNat v24_3.toNatClampNeg) (v43_4.toInt - 16 * a0.toInt).toNat → 16 * a0.toInt ≤ v43_4.toInt → v43_4.toInt ≤ 16 * a0.toInt + (xi (E 0) 8).toInt → 320 - v43_4.toInt < (d : Int) → va_P (dC, dI) vwCl (WX 72 ad E1) H → va_S A s.heap H locs → lv_has ls 5 [(4, .int v43_4), (3, .int v24_3), (2, .int v43_2), (0, .ref (ad 0)), (1, .int a0)] → W p l e (headSpec v_leanX rm_leanX).room s m args below meth c H locs 0 0 Q (F0 m 43 ls []) := by
              intro d
              induction d with
              | zero =>
                intro v43_4 v43_2 H locs ls hv43_4 hx43_0 hx43_1 hx43_2 hx43_3 hP hS hl
                exact absurd hx43_3 (by first | exact ms_zu hv43_4.2 | omega)
              | succ d ih43 =>
                intro v43_4 v43_2 H locs ls hv43_4 hx43_0 hx43_1 hx43_2 hx43_3 hP hS hl
                refine lv_iload hx hb dX13_lean_43 (lv_at hl 0 rfl) ?_
                refine lv_bipush (v := 16) hx hb dX13_lean_45 (by decide) ?_
                refine lv_iload_n hx hb dX13_lean_47 rfl (lv_at hl 4 rfl) ?_
                refine lv_imul hx hb dX13_lean_48 ?_
                refine lv_topi (fun y18 ey18 => ?_)
                obtain ⟨ty18, iy18⟩ := ti_mul (e := 0) (f := 304) ln_16 f5 ey18 (by decide)
                have ty18 : y18.toInt = 16 * a0.toInt := ty18
                have iy18 : 0 ≤ y18.toInt ∧ y18.toInt ≤ 304 := iy18
                refine lv_aload_n hx hb dX13_lean_49 rfl (lv_at hl 3 rfl) ?_
                refine th_get (ci := 14) (C := RX13) (T := TX13) (N := 97) (v := .int (xi (E 0) 8)) hx hb hts hinX13 hown hK hP hI 0 (Nat.le_of_ble_eq_true rfl) rfl rfl 8 (Nat.le_of_ble_eq_true rfl) (hts _ (vA_in _ _ (in_24 _ (zs16 (zs4 (zs1 (zs1 (zs0)))))))) (fun _ h9 => h9) (th_v0 hKp hI0 0 (Nat.le_of_ble_eq_true rfl) rfl (Nat.le_of_ble_eq_true rfl) rfl rfl) dX13_lean_50 ?_
                refine lv_iadd hx hb dX13_lean_53 ?_
                refine lv_topi (fun y19 ey19 => ?_)
                obtain ⟨ty19, iy19⟩ := ti_add (e := 0) (f := 320) iy18 i10 ey19 (by decide)
                have ty19 : y19.toInt = y18.toInt + (xi (E 0) 8).toInt := ty19
                have iy19 : 0 ≤ y19.toInt ∧ y19.toInt ≤ 320 := iy19
                refine lv_icmp_ge (tgt := 143) hx hb dX13_lean_54 (by decide) (fun c20 => ?_) (fun c20 => ?_)
                · --54 taken
                  have t21 : y19.toInt ≤ v43_4.toInt := ti_le c20
                  obtain ⟨y22, ey22⟩ : ∃ y : Int32, y = v24_3 + (1 : Int32) := ⟨_, rfl⟩
                  obtain ⟨ty22, iy22⟩ := ti_add (e := 1) (f := 320) i15 ln_1 ey22 (by decide)
                  have ty22 : y22.toInt = v24_3.toInt + 1 := ty22
                  have iy22 : 1 ≤ y22.toInt ∧ y22.toInt ≤ 320 := iy22
                  refine lv_iinc (v := y22) (lv' := [(3, .int y22), (4, .int v43_4), (2, .int v43_2), (0, .ref (ad 0)), (1, .int a0)]) hx hb dX13_lean_143 hl (k := 1) rfl (by rw [ey22]; rfl) (by decide) rfl (fun ls hl => ?_)
                  refine lv_goto (tgt := 24) hx hb dX13_lean_146 (by decide) ?_
                  exact ih24 y22 v43_2 _ _ _ (iv_w iy22 (by decide)) (by have h9 := hx43_0; rw [show (v43_4.toInt - 16 * a0.toInt).toNat = (xi (E 0) 8).toNatClampNeg by rw [tn_]; omega] at h9; rw [show (y22.toInt - 16 * a0.toInt).toNat = (v24_3.toInt - 16 * a0.toInt).toNat + 1 by omega, h9, show v24_3.toNatClampNeg = (16 * a0.toInt).toNat + (v24_3.toInt - 16 * a0.toInt).toNat by rw [tn_]; omega]; rfl) (by omega) (by omega) (by first | exact ms_su hx24_3 ty22 (by decide) | omega) hP hS (lv_sub hl [0, 2, 3, 4] rfl)
                · --54 not
                  have t23 : v43_4.toInt < y19.toInt := ti_nle c20
                  have i24 : 0 ≤ v43_4.toInt ∧ v43_4.toInt ≤ 319 := iv_lt_l t23 hv43_4 iy19 (by decide)
                  have i25 : 1 ≤ y19.toInt ∧ y19.toInt ≤ 320 := iv_lt_r t23 hv43_4 iy19 (by decide)
                  refine lv_aload_n hx hb dX13_lean_57 rfl (lv_at hl 3 rfl) ?_
                  refine th_get (ci := 14) (C := RX13) (T := TX13) (N := 97) (v := .ref (ad 22)) hx hb hts hinX13 hown hK hP hI 0 (Nat.le_of_ble_eq_true rfl) rfl rfl 36 (Nat.le_of_ble_eq_true rfl) (hts _ (vA_in _ _ (in_32 _ (zs4 (zs1 (zs1 (zs1 (zs0)))))))) (fun _ h9 => h9) (hI.fr 0 (Nat.le_of_ble_eq_true rfl) rfl (Nat.le_of_ble_eq_true rfl) 22 rfl) dX13_lean_58 ?_
                  refine lv_iload_n hx hb dX13_lean_61 rfl (lv_at hl 1 rfl) ?_
                  have n27 : vp_in v24_3 320 := (iv_in (n := 320) i15 (by decide))
                  refine th_iald hx hb hK hP hI 22 (Nat.le_of_ble_eq_true rfl) rfl rfl n27 dX13_lean_62 (fun y26 ey26 => ?_)
                  have iy26 : -1 ≤ y26.toInt ∧ y26.toInt ≤ 9 := hI.el 22 (Nat.le_of_ble_eq_true rfl) rfl n27 (fun _ => rfl) ey26
                  have ey26 := ey26.trans (hKp.ei 22 _ rfl)
                  refine lv_iconst (v := -1) hx hb dX13_lean_63 (by decide) ?_
                  refine lv_icmp_eq (tgt := 137) hx hb dX13_lean_64 (by decide) (fun c28 => ?_) (fun c28 => ?_)
                  · --64 taken
                    have t29 : y26.toInt = -1 := ti_eq c28
                    have i30 : -1 ≤ y26.toInt ∧ y26.toInt ≤ -1 := iv_eqi t29 iy26 (il_ (-1)) (by decide)
                    obtain ⟨y31, ey31⟩ : ∃ y : Int32, y = v43_4 + (1 : Int32) := ⟨_, rfl⟩
                    obtain ⟨ty31, iy31⟩ := ti_add (e := 1) (f := 320) i24 ln_1 ey31 (by decide)
                    have ty31 : y31.toInt = v43_4.toInt + 1 := ty31
                    have iy31 : 1 ≤ y31.toInt ∧ y31.toInt ≤ 320 := iy31
                    refine lv_iinc (v := y31) (lv' := [(4, .int y31), (3, .int v24_3), (2, .int v43_2), (0, .ref (ad 0)), (1, .int a0)]) hx hb dX13_lean_137 hl (k := 0) rfl (by rw [ey31]; rfl) (by decide) rfl (fun ls hl => ?_)
                    refine lv_goto (tgt := 43) hx hb dX13_lean_140 (by decide) ?_
                    exact ih43 y31 v43_2 _ _ _ (iv_w iy31 (by decide)) (by have gy26 := congrArg Int32.toInt ey26; rw [show (y31.toInt - 16 * a0.toInt).toNat = (v43_4.toInt - 16 * a0.toInt).toNat + 1 by omega, mnR_s (c := v43_4.toNatClampNeg) (by rw [tn_]; omega)]; rw [show mnP (xi (E 22)) (xi (E 23)) v24_3.toNatClampNeg v43_4.toNatClampNeg = 0 from if_pos (by omega), Int32.add_zero]; exact hx43_0) (by omega) (by omega) (by first | exact ms_su hx43_3 ty31 (by decide) | omega) hP hS (lv_sub hl [0, 1, 2, 3, 4] rfl)
                  · --64 not
                    have t32 : ¬ y26.toInt = -1 := ti_ne c28
                    have i33 : 0 ≤ y26.toInt ∧ y26.toInt ≤ 9 := iv_ne_l t32 iy26 (il_ (-1))
                    refine lv_aload_n hx hb dX13_lean_67 rfl (lv_at hl 3 rfl) ?_
                    refine th_get (ci := 14) (C := RX13) (T := TX13) (N := 97) (v := .ref (ad 22)) hx hb hts hinX13 hown hK hP hI 0 (Nat.le_of_ble_eq_true rfl) rfl rfl 36 (Nat.le_of_ble_eq_true rfl) (hts _ (vA_in _ _ (in_32 _ (zs4 (zs1 (zs1 (zs1 (zs0)))))))) (fun _ h9 => h9) (hI.fr 0 (Nat.le_of_ble_eq_true rfl) rfl (Nat.le_of_ble_eq_true rfl) 22 rfl) dX13_lean_68 ?_
                    refine lv_iload hx hb dX13_lean_71 (lv_at hl 0 rfl) ?_
                    have n35 : vp_in v43_4 320 := (iv_in (n := 320) i24 (by decide))
                    refine th_iald hx hb hK hP hI 22 (Nat.le_of_ble_eq_true rfl) rfl rfl n35 dX13_lean_73 (fun y34 ey34 => ?_)
                    have iy34 : -1 ≤ y34.toInt ∧ y34.toInt ≤ 9 := hI.el 22 (Nat.le_of_ble_eq_true rfl) rfl n35 (fun _ => rfl) ey34
                    have ey34 := ey34.trans (hKp.ei 22 _ rfl)
                    refine lv_iconst (v := -1) hx hb dX13_lean_74 (by decide) ?_
                    refine lv_icmp_eq (tgt := 137) hx hb dX13_lean_75 (by decide) (fun c36 => ?_) (fun c36 => ?_)
                    · --75 taken
                      have t37 : y34.toInt = -1 := ti_eq c36
                      have i38 : -1 ≤ y34.toInt ∧ y34.toInt ≤ -1 := iv_eqi t37 iy34 (il_ (-1)) (by decide)
                      obtain ⟨y39, ey39⟩ : ∃ y : Int32, y = v43_4 + (1 : Int32) := ⟨_, rfl⟩
                      obtain ⟨ty39, iy39⟩ := ti_add (e := 1) (f := 320) i24 ln_1 ey39 (by decide)
                      have ty39 : y39.toInt = v43_4.toInt + 1 := ty39
                      have iy39 : 1 ≤ y39.toInt ∧ y39.toInt ≤ 320 := iy39
                      refine lv_iinc (v := y39) (lv' := [(4, .int y39), (3, .int v24_3), (2, .int v43_2), (0, .ref (ad 0)), (1, .int a0)]) hx hb dX13_lean_137 hl (k := 0) rfl (by rw [ey39]; rfl) (by decide) rfl (fun ls hl => ?_)
                      refine lv_goto (tgt := 43) hx hb dX13_lean_140 (by decide) ?_
                      exact ih43 y39 v43_2 _ _ _ (iv_w iy39 (by decide)) (by have gy26 := congrArg Int32.toInt ey26; have gy34 := congrArg Int32.toInt ey34; rw [show (y39.toInt - 16 * a0.toInt).toNat = (v43_4.toInt - 16 * a0.toInt).toNat + 1 by omega, mnR_s (c := v43_4.toNatClampNeg) (by rw [tn_]; omega)]; rw [show mnP (xi (E 22)) (xi (E 23)) v24_3.toNatClampNeg v43_4.toNatClampNeg = 0 from if_pos (by omega), Int32.add_zero]; exact hx43_0) (by omega) (by omega) (by first | exact ms_su hx43_3 ty39 (by decide) | omega) hP hS (lv_sub hl [0, 1, 2, 3, 4] rfl)
                    · --75 not
                      have t40 : ¬ y34.toInt = -1 := ti_ne c36
                      have i41 : 0 ≤ y34.toInt ∧ y34.toInt ≤ 9 := iv_ne_l t40 iy34 (il_ (-1))
                      refine lv_aload_n hx hb dX13_lean_78 rfl (lv_at hl 3 rfl) ?_
                      refine th_get (ci := 14) (C := RX13) (T := TX13) (N := 97) (v := .ref (ad 22)) hx hb hts hinX13 hown hK hP hI 0 (Nat.le_of_ble_eq_true rfl) rfl rfl 36 (Nat.le_of_ble_eq_true rfl) (hts _ (vA_in _ _ (in_32 _ (zs4 (zs1 (zs1 (zs1 (zs0)))))))) (fun _ h9 => h9) (hI.fr 0 (Nat.le_of_ble_eq_true rfl) rfl (Nat.le_of_ble_eq_true rfl) 22 rfl) dX13_lean_79 ?_
                      refine lv_iload_n hx hb dX13_lean_82 rfl (lv_at hl 1 rfl) ?_
                      have n43 : vp_in v24_3 320 := (iv_in (n := 320) i15 (by decide))
                      refine th_iald hx hb hK hP hI 22 (Nat.le_of_ble_eq_true rfl) rfl rfl n43 dX13_lean_83 (fun y42 ey42 => ?_)
                      have iy42 : -1 ≤ y42.toInt ∧ y42.toInt ≤ 9 := hI.el 22 (Nat.le_of_ble_eq_true rfl) rfl n43 (fun _ => rfl) ey42
                      have ey42 := ey42.trans (hKp.ei 22 _ rfl)
                      refine lv_aload_n hx hb dX13_lean_84 rfl (lv_at hl 3 rfl) ?_
                      refine th_get (ci := 14) (C := RX13) (T := TX13) (N := 97) (v := .ref (ad 22)) hx hb hts hinX13 hown hK hP hI 0 (Nat.le_of_ble_eq_true rfl) rfl rfl 36 (Nat.le_of_ble_eq_true rfl) (hts _ (vA_in _ _ (in_32 _ (zs4 (zs1 (zs1 (zs1 (zs0)))))))) (fun _ h9 => h9) (hI.fr 0 (Nat.le_of_ble_eq_true rfl) rfl (Nat.le_of_ble_eq_true rfl) 22 rfl) dX13_lean_85 ?_
                      refine lv_iload hx hb dX13_lean_88 (lv_at hl 0 rfl) ?_
                      have n45 : vp_in v43_4 320 := (iv_in (n := 320) i24 (by decide))
                      refine th_iald hx hb hK hP hI 22 (Nat.le_of_ble_eq_true rfl) rfl rfl n45 dX13_lean_90 (fun y44 ey44 => ?_)
                      have iy44 : -1 ≤ y44.toInt ∧ y44.toInt ≤ 9 := hI.el 22 (Nat.le_of_ble_eq_true rfl) rfl n45 (fun _ => rfl) ey44
                      have ey44 := ey44.trans (hKp.ei 22 _ rfl)
                      refine lv_icmp_ge (tgt := 137) hx hb dX13_lean_91 (by decide) (fun c46 => ?_) (fun c46 => ?_)
                      · --91 taken
                        have t47 : y44.toInt ≤ y42.toInt := ti_le c46
                        obtain ⟨y48, ey48⟩ : ∃ y : Int32, y = v43_4 + (1 : Int32) := ⟨_, rfl⟩
                        obtain ⟨ty48, iy48⟩ := ti_add (e := 1) (f := 320) i24 ln_1 ey48 (by decide)
                        have ty48 : y48.toInt = v43_4.toInt + 1 := ty48
                        have iy48 : 1 ≤ y48.toInt ∧ y48.toInt ≤ 320 := iy48
                        refine lv_iinc (v := y48) (lv' := [(4, .int y48), (3, .int v24_3), (2, .int v43_2), (0, .ref (ad 0)), (1, .int a0)]) hx hb dX13_lean_137 hl (k := 0) rfl (by rw [ey48]; rfl) (by decide) rfl (fun ls hl => ?_)
                        refine lv_goto (tgt := 43) hx hb dX13_lean_140 (by decide) ?_
                        exact ih43 y48 v43_2 _ _ _ (iv_w iy48 (by decide)) (by have gy26 := congrArg Int32.toInt ey26; have gy34 := congrArg Int32.toInt ey34; have gy42 := congrArg Int32.toInt ey42; have gy44 := congrArg Int32.toInt ey44; rw [show (y48.toInt - 16 * a0.toInt).toNat = (v43_4.toInt - 16 * a0.toInt).toNat + 1 by omega, mnR_s (c := v43_4.toNatClampNeg) (by rw [tn_]; omega)]; rw [show mnP (xi (E 22)) (xi (E 23)) v24_3.toNatClampNeg v43_4.toNatClampNeg = 0 from if_pos (by omega), Int32.add_zero]; exact hx43_0) (by omega) (by omega) (by first | exact ms_su hx43_3 ty48 (by decide) | omega) hP hS (lv_sub hl [0, 1, 2, 3, 4] rfl)
                      · --91 not
                        have t49 : y42.toInt < y44.toInt := ti_nle c46
                        have i50 : -1 ≤ y42.toInt ∧ y42.toInt ≤ 8 := iv_lt_l t49 iy42 iy44 (by decide)
                        have i51 : 0 ≤ y44.toInt ∧ y44.toInt ≤ 9 := iv_lt_r t49 iy42 iy44 (by decide)
                        refine lv_aload_n hx hb dX13_lean_94 rfl (lv_at hl 3 rfl) ?_
                        refine th_get (ci := 14) (C := RX13) (T := TX13) (N := 97) (v := .ref (ad 23)) hx hb hts hinX13 hown hK hP hI 0 (Nat.le_of_ble_eq_true rfl) rfl rfl 37 (Nat.le_of_ble_eq_true rfl) (hts _ (vA_in _ _ (in_32 _ (zs4 (zs4 (zs0)))))) (fun _ h9 => h9) (hI.fr 0 (Nat.le_of_ble_eq_true rfl) rfl (Nat.le_of_ble_eq_true rfl) 23 rfl) dX13_lean_95 ?_
                        refine lv_iload_n hx hb dX13_lean_98 rfl (lv_at hl 1 rfl) ?_
                        have n53 : vp_in v24_3 320 := (iv_in (n := 320) i15 (by decide))
                        refine th_iald hx hb hK hP hI 23 (Nat.le_of_ble_eq_true rfl) rfl rfl n53 dX13_lean_99 (fun y52 ey52 => ?_)
                        have iy52 : 0 ≤ y52.toInt ∧ y52.toInt ≤ 600 := hI.el 23 (Nat.le_of_ble_eq_true rfl) rfl n53 (fun _ => rfl) ey52
                        have ey52 := ey52.trans (hKp.ei 23 _ rfl)
                        refine lv_aload_n hx hb dX13_lean_100 rfl (lv_at hl 3 rfl) ?_
                        refine th_get (ci := 14) (C := RX13) (T := TX13) (N := 97) (v := .ref (ad 23)) hx hb hts hinX13 hown hK hP hI 0 (Nat.le_of_ble_eq_true rfl) rfl rfl 37 (Nat.le_of_ble_eq_true rfl) (hts _ (vA_in _ _ (in_32 _ (zs4 (zs4 (zs0)))))) (fun _ h9 => h9) (hI.fr 0 (Nat.le_of_ble_eq_true rfl) rfl (Nat.le_of_ble_eq_true rfl) 23 rfl) dX13_lean_101 ?_
                        refine lv_iload hx hb dX13_lean_104 (lv_at hl 0 rfl) ?_
                        have n55 : vp_in v43_4 320 := (iv_in (n := 320) i24 (by decide))
                        refine th_iald hx hb hK hP hI 23 (Nat.le_of_ble_eq_true rfl) rfl rfl n55 dX13_lean_106 (fun y54 ey54 => ?_)
                        have iy54 : 0 ≤ y54.toInt ∧ y54.toInt ≤ 600 := hI.el 23 (Nat.le_of_ble_eq_true rfl) rfl n55 (fun _ => rfl) ey54
                        have ey54 := ey54.trans (hKp.ei 23 _ rfl)
                        refine lv_icmp_ne (tgt := 113) hx hb dX13_lean_107 (by decide) (fun c56 => ?_) (fun c56 => ?_)
                        · --107 taken
                          have t57 : ¬ y52.toInt = y54.toInt := ti_ne c56
                          refine lv_iload_n hx hb dX13_lean_113 rfl (lv_at hl 2 rfl) ?_
                          refine lv_aload_n hx hb dX13_lean_114 rfl (lv_at hl 3 rfl) ?_
                          refine th_get (ci := 14) (C := RX13) (T := TX13) (N := 97) (v := .ref (ad 23)) hx hb hts hinX13 hown hK hP hI 0 (Nat.le_of_ble_eq_true rfl) rfl rfl 37 (Nat.le_of_ble_eq_true rfl) (hts _ (vA_in _ _ (in_32 _ (zs4 (zs4 (zs0)))))) (fun _ h9 => h9) (hI.fr 0 (Nat.le_of_ble_eq_true rfl) rfl (Nat.le_of_ble_eq_true rfl) 23 rfl) dX13_lean_115 ?_
                          refine lv_iload_n hx hb dX13_lean_118 rfl (lv_at hl 1 rfl) ?_
                          have n59 : vp_in v24_3 320 := (iv_in (n := 320) i15 (by decide))
                          refine th_iald hx hb hK hP hI 23 (Nat.le_of_ble_eq_true rfl) rfl rfl n59 dX13_lean_119 (fun y58 ey58 => ?_)
                          have iy58 : 0 ≤ y58.toInt ∧ y58.toInt ≤ 600 := hI.el 23 (Nat.le_of_ble_eq_true rfl) rfl n59 (fun _ => rfl) ey58
                          have ey58 := ey58.trans (hKp.ei 23 _ rfl)
                          refine lv_aload_n hx hb dX13_lean_120 rfl (lv_at hl 3 rfl) ?_
                          refine th_get (ci := 14) (C := RX13) (T := TX13) (N := 97) (v := .ref (ad 23)) hx hb hts hinX13 hown hK hP hI 0 (Nat.le_of_ble_eq_true rfl) rfl rfl 37 (Nat.le_of_ble_eq_true rfl) (hts _ (vA_in _ _ (in_32 _ (zs4 (zs4 (zs0)))))) (fun _ h9 => h9) (hI.fr 0 (Nat.le_of_ble_eq_true rfl) rfl (Nat.le_of_ble_eq_true rfl) 23 rfl) dX13_lean_121 ?_
                          refine lv_iload hx hb dX13_lean_124 (lv_at hl 0 rfl) ?_
                          have n61 : vp_in v43_4 320 := (iv_in (n := 320) i24 (by decide))
                          refine th_iald hx hb hK hP hI 23 (Nat.le_of_ble_eq_true rfl) rfl rfl n61 dX13_lean_126 (fun y60 ey60 => ?_)
                          have iy60 : 0 ≤ y60.toInt ∧ y60.toInt ≤ 600 := hI.el 23 (Nat.le_of_ble_eq_true rfl) rfl n61 (fun _ => rfl) ey60
                          have ey60 := ey60.trans (hKp.ei 23 _ rfl)
                          refine lv_icmp_ge (tgt := 134) hx hb dX13_lean_127 (by decide) (fun c62 => ?_) (fun c62 => ?_)
                          · --127 taken
                            have t63 : y60.toInt ≤ y58.toInt := ti_le c62
                            refine lv_iconst (v := -1) hx hb dX13_lean_134 (by decide) ?_
                            refine lv_iadd hx hb dX13_lean_135 ?_
                            refine lv_topi (fun y64 ey64 => ?_)
                            refine lv_istore_n (lv' := [(2, .int y64), (4, .int v43_4), (3, .int v24_3), (0, .ref (ad 0)), (1, .int a0)]) hx hb dX13_lean_136 rfl hl (by decide) rfl (fun ls hl => ?_)
                            obtain ⟨y65, ey65⟩ : ∃ y : Int32, y = v43_4 + (1 : Int32) := ⟨_, rfl⟩
                            obtain ⟨ty65, iy65⟩ := ti_add (e := 1) (f := 320) i24 ln_1 ey65 (by decide)
                            have ty65 : y65.toInt = v43_4.toInt + 1 := ty65
                            have iy65 : 1 ≤ y65.toInt ∧ y65.toInt ≤ 320 := iy65
                            refine lv_iinc (v := y65) (lv' := [(4, .int y65), (2, .int y64), (3, .int v24_3), (0, .ref (ad 0)), (1, .int a0)]) hx hb dX13_lean_137 hl (k := 1) rfl (by rw [ey65]; rfl) (by decide) rfl (fun ls hl => ?_)
                            refine lv_goto (tgt := 43) hx hb dX13_lean_140 (by decide) ?_
                            exact ih43 y65 y64 _ _ _ (iv_w iy65 (by decide)) (by have gy26 := congrArg Int32.toInt ey26; have gy34 := congrArg Int32.toInt ey34; have gy42 := congrArg Int32.toInt ey42; have gy44 := congrArg Int32.toInt ey44; have gy52 := congrArg Int32.toInt ey52; have gy54 := congrArg Int32.toInt ey54; have gy58 := congrArg Int32.toInt ey58; have gy60 := congrArg Int32.toInt ey60; rw [show (y65.toInt - 16 * a0.toInt).toNat = (v43_4.toInt - 16 * a0.toInt).toNat + 1 by omega, mnR_s (c := v43_4.toNatClampNeg) (by rw [tn_]; omega)]; rw [show mnP (xi (E 22)) (xi (E 23)) v24_3.toNatClampNeg v43_4.toNatClampNeg = -1 from (if_neg (by omega)).trans (if_neg (by omega)), ey64, hx43_0, Int32.add_assoc]) (by omega) (by omega) (by first | exact ms_su hx43_3 ty65 (by decide) | omega) hP hS (lv_sub hl [0, 2, 1, 3, 4] rfl)
                          · --127 not
                            have t66 : y58.toInt < y60.toInt := ti_nle c62
                            have i67 : 0 ≤ y58.toInt ∧ y58.toInt ≤ 599 := iv_lt_l t66 iy58 iy60 (by decide)
                            have i68 : 1 ≤ y60.toInt ∧ y60.toInt ≤ 600 := iv_lt_r t66 iy58 iy60 (by decide)
                            refine lv_iconst (v := 1) hx hb dX13_lean_130 (by decide) ?_
                            refine lv_goto (tgt := 135) hx hb dX13_lean_131 (by decide) ?_
                            refine lv_iadd hx hb dX13_lean_135 ?_
                            refine lv_topi (fun y69 ey69 => ?_)
                            refine lv_istore_n (lv' := [(2, .int y69), (4, .int v43_4), (3, .int v24_3), (0, .ref (ad 0)), (1, .int a0)]) hx hb dX13_lean_136 rfl hl (by decide) rfl (fun ls hl => ?_)
                            obtain ⟨y70, ey70⟩ : ∃ y : Int32, y = v43_4 + (1 : Int32) := ⟨_, rfl⟩
                            obtain ⟨ty70, iy70⟩ := ti_add (e := 1) (f := 320) i24 ln_1 ey70 (by decide)
                            have ty70 : y70.toInt = v43_4.toInt + 1 := ty70
                            have iy70 : 1 ≤ y70.toInt ∧ y70.toInt ≤ 320 := iy70
                            refine lv_iinc (v := y70) (lv' := [(4, .int y70), (2, .int y69), (3, .int v24_3), (0, .ref (ad 0)), (1, .int a0)]) hx hb dX13_lean_137 hl (k := 1) rfl (by rw [ey70]; rfl) (by decide) rfl (fun ls hl => ?_)
                            refine lv_goto (tgt := 43) hx hb dX13_lean_140 (by decide) ?_
                            exact ih43 y70 y69 _ _ _ (iv_w iy70 (by decide)) (by have gy26 := congrArg Int32.toInt ey26; have gy34 := congrArg Int32.toInt ey34; have gy42 := congrArg Int32.toInt ey42; have gy44 := congrArg Int32.toInt ey44; have gy52 := congrArg Int32.toInt ey52; have gy54 := congrArg Int32.toInt ey54; have gy58 := congrArg Int32.toInt ey58; have gy60 := congrArg Int32.toInt ey60; rw [show (y70.toInt - 16 * a0.toInt).toNat = (v43_4.toInt - 16 * a0.toInt).toNat + 1 by omega, mnR_s (c := v43_4.toNatClampNeg) (by rw [tn_]; omega)]; rw [show mnP (xi (E 22)) (xi (E 23)) v24_3.toNatClampNeg v43_4.toNatClampNeg = 1 from (if_neg (by omega)).trans (if_pos (by omega)), ey69, hx43_0, Int32.add_assoc]) (by omega) (by omega) (by first | exact ms_su hx43_3 ty70 (by decide) | omega) hP hS (lv_sub hl [0, 2, 1, 3, 4] rfl)
                        · --107 not
                          have t71 : y52.toInt = y54.toInt := ti_eq c56
                          refine lv_goto (tgt := 137) hx hb dX13_lean_110 (by decide) ?_
                          obtain ⟨y72, ey72⟩ : ∃ y : Int32, y = v43_4 + (1 : Int32) := ⟨_, rfl⟩
                          obtain ⟨ty72, iy72⟩ := ti_add (e := 1) (f := 320) i24 ln_1 ey72 (by decide)
                          have ty72 : y72.toInt = v43_4.toInt + 1 := ty72
                          have iy72 : 1 ≤ y72.toInt ∧ y72.toInt ≤ 320 := iy72
                          refine lv_iinc (v := y72) (lv' := [(4, .int y72), (3, .int v24_3), (2, .int v43_2), (0, .ref (ad 0)), (1, .int a0)]) hx hb dX13_lean_137 hl (k := 0) rfl (by rw [ey72]; rfl) (by decide) rfl (fun ls hl => ?_)
                          refine lv_goto (tgt := 43) hx hb dX13_lean_140 (by decide) ?_
                          exact ih43 y72 v43_2 _ _ _ (iv_w iy72 (by decide)) (by have gy26 := congrArg Int32.toInt ey26; have gy34 := congrArg Int32.toInt ey34; have gy42 := congrArg Int32.toInt ey42; have gy44 := congrArg Int32.toInt ey44; have gy52 := congrArg Int32.toInt ey52; have gy54 := congrArg Int32.toInt ey54; rw [show (y72.toInt - 16 * a0.toInt).toNat = (v43_4.toInt - 16 * a0.toInt).toNat + 1 by omega, mnR_s (c := v43_4.toNatClampNeg) (by rw [tn_]; omega)]; rw [show mnP (xi (E 22)) (xi (E 23)) v24_3.toNatClampNeg v43_4.toNatClampNeg = 0 from if_pos (by omega), Int32.add_zero]; exact hx43_0) (by omega) (by omega) (by first | exact ms_su hx43_3 ty72 (by decide) | omega) hP hS (lv_sub hl [0, 1, 2, 3, 4] rfl)
            exact hL43 (321) y17 v24_2 _ _ _ (iv_w iy17 (by decide)) (by rw [show (y17.toInt - 16 * a0.toInt).toNat = 0 by omega]; exact hx24_0.trans (Int32.add_zero _).symm) (by omega) (by omega) (by have h9 := iy17; first | exact ms_bu h9.1 (by decide) | omega) hP hS (lv_sub hl [0, 1, 2, 3, 4] rfl)
      exact hL24 (321) y8 (0 : Int32) _ _ _ (iv_w iy8 (by decide)) (by rw [show (y8.toInt - 16 * a0.toInt).toNat = 0 by omega]; rfl) (by omega) (by have b9 : (0 : Int) ≤ (xi (E 0) 8).toInt ∧ (xi (E 0) 8).toInt ≤ 16 := hI0.iv 0 (Nat.le_of_ble_eq_true rfl) rfl (Nat.le_of_ble_eq_true rfl) rfl; omega) (by have h9 := iy8; first | exact ms_bu h9.1 (by decide) | omega) hP hS (lv_sub hl [0, 1, 2, 3] rfl)
    · --10 not
      exact absurd c7 (by decide)
  · -- isRace, case 1
    obtain ⟨rfl, f73⟩ := hw
    have i74 : 0 ≤ (xi (E 0) 46).toInt ∧ (xi (E 0) 46).toInt ≤ 20 := (show 0 ≤ (xi (E 0) 46).toInt ∧ (xi (E 0) 46).toInt ≤ 20 from hI0.iv 0 (Nat.le_of_ble_eq_true rfl) rfl (Nat.le_of_ble_eq_true rfl) rfl)
    try rw [hKp.ei 0 46 rfl] at f73
    refine lv_if_ne (tgt := 17) hx hb dX13_lean_10 (by decide) (fun c75 => ?_) (fun c75 => ?_)
    · --10 taken
      exact absurd c75 (by decide)
    · --10 not
      refine lv_ldcw hx hb hown (hts _ (vA_in _ _ (in_27 _ (zs16 (zs4 (zs1 (zs0))))))) dX13_lean_13 ?_
      rw [hQ]
      exact W.iret (v := (-1000000000)) hx hb hr (fun t ht hW => ⟨⟨(-1000000000), E1, rfl, ⟨hI, hKp, ⟨fun g9 => by exfalso; omega, fun _ => rfl⟩⟩, by show va_P (dC, dI) vwCl (WX 72 ad E1) t.heap; rw [ht]; exact hP⟩, hS.F ht⟩) hS.2.2 dX13_lean_16
def v_enteredInX : List Cond := .code yX5_enteredIn cX5_enteredIn 4 (some .int) :: vA
abbrev rm_enteredInX : Room := { frames := 1, cells := 0, slots := 0, locals := 40 }
set_option maxHeartbeats 4000000 in
set_option maxRecDepth 100000 in
theorem q_enteredInX (l : Launch) (dC : Nat → ClassId) (dI : Nat → Nat → Nat) (cT : Nat → ClassId) (cf : Nat → Nat) (hC : CF cf) (ad : Nat → Nat) (E : Nat → va_E) (sz : Nat) (a0 : Int32) (i : Nat) (hI0 : IXL cT (shC cf) (spC cf) (LC cf) ad E) (hh0 : i < cf 2) : Met l yX5_enteredIn v_enteredInX rm_enteredInX (va_Pc [.ref (ad (64 * (i + 1) + 6)), .int a0] (HWL dC dI (TYC cT) cf ad E sz)) (va_Qi (S := Unit) (fun r _ => (0 ≤ r.toInt ∧ r.toInt ≤ 16) ∧ (r.toInt = (entC (xi (E (64 * (i + 1) + 7))) a0.toInt 16 : Int))) (fun _ _ => True) (fun _ => False)) 0 0 (fun _ => False) := by
  obtain ⟨⟨hc0, hc1, hc2, hc3, hc4, hc5⟩, hcr⟩ := id hC
  refine Met.ofW (cc := cX5_enteredIn) (maxL := 4) (ret := (some .int)) (by decide) rfl ?_
  intro p e s m args below meth c s₁ B hml hv
  obtain ⟨hargs, hsz, hP, hK, hD0, hEV⟩ := hv
  subst hsz
  have hx := B.exec
  have hb := B.bytes
  have hr := B.returns
  have hts := atoms_spec (ws := v_enteredInX) B.pre
  have hown : s.vm.findClass RX5 = some m.cls := findClass_of_methodNamed B.named
  have hlocks := B.notSynchronized
  have hS : va_S (fun _ : Nat => False) s.heap s.heap [] := va_S.rf
  have hD := hD0
  have hI := hI0
  have hKp : Kp (wl [] []) E E := Kp.rf
  have hl := lv_entry ([.ref (ad (64 * (i + 1) + 6)), .int a0]) (n := 4) (Nat.le_of_ble_eq_true rfl)
  obtain ⟨Q, hQ⟩ : ∃ Q, Q = MQ below (va_Qi (S := Unit) (fun r _ => (0 ≤ r.toInt ∧ r.toInt ≤ 16) ∧ (r.toInt = (entC (xi (E (64 * (i + 1) + 7))) a0.toInt 16 : Int))) (fun _ _ => True) (fun _ => False)) args s 0 0 (fun _ => False) := ⟨_, rfl⟩
  rw [← hQ, show entryFrame m args 4 = _ from (congrArg (fun z => entryFrame m z 4) hargs).trans (lg_entry_eq _ _ _)]
  generalize (lg_sl ([.ref (ad (64 * (i + 1) + 6)), .int a0]) ++ List.replicate (4 - (lg_sl ([.ref (ad (64 * (i + 1) + 6)), .int a0])).length) Slot.unset).toArray = ls at hl ⊢
  have hl : lv_has ls 4 [(0, .ref (ad (64 * (i + 1) + 6))), (1, .int a0)] := hl
  refine lv_iconst (v := 0) hx hb dX5_enteredIn_0 (by decide) ?_
  refine lv_istore_n (lv' := [(2, .int 0), (0, .ref (ad (64 * (i + 1) + 6))), (1, .int a0)]) hx hb dX5_enteredIn_1 rfl hl (by decide) rfl (fun ls hl => ?_)
  refine lv_iconst (v := 0) hx hb dX5_enteredIn_2 (by decide) ?_
  refine lv_istore_n (lv' := [(3, .int 0), (2, .int 0), (0, .ref (ad (64 * (i + 1) + 6))), (1, .int a0)]) hx hb dX5_enteredIn_3 rfl hl (by decide) rfl (fun ls hl => ?_)
  have hL4 : ∀ d : Nat, ∀ (v4_3 : Int32) (v4_2 : Int32) (H : Heap) (locs : List Loc) (ls : Array Slot), 0 ≤ v4_3.toInt ∧ v4_3.toInt ≤ 16 → 0 ≤ v4_2.toInt ∧ v4_2.toInt ≤ 16 → v4_2.toInt = (entC (xi (E (64 * (i + 1) + 7))) a0.toInt v4_3.toNatClampNeg : Int) → v4_2.toInt ≤ v4_3.toInt → 16 - v4_3.toInt < (d : Int) → va_P (dC, dI) vwCl (WL (LC cf) ad E) H → va_S (fun _ : Nat => False) s.heap H locs → lv_has ls 4 [(3, .int v4_3), (2, .int v4_2), (0, .ref (ad (64 * (i + 1) + 6))), (1, .int a0)] → W p l e (headSpec v_enteredInX rm_enteredInX).room s m args below meth c H locs 0 0 Q (F0 m 4 ls []) := by
    intro d
    induction d with
    | zero =>
      intro v4_3 v4_2 H locs ls hv4_3 hv4_2 hx4_0 hx4_1 hx4_2 hP hS hl
      exact absurd hx4_2 (by first | exact ms_zu hv4_3.2 | omega)
    | succ d ih4 =>
      intro v4_3 v4_2 H locs ls hv4_3 hv4_2 hx4_0 hx4_1 hx4_2 hP hS hl
      refine lv_iload_n hx hb dX5_enteredIn_4 rfl (lv_at hl 0 rfl) ?_
      refine lv_bipush (v := 16) hx hb dX5_enteredIn_5 (by decide) ?_
      refine lv_icmp_ge (tgt := 28) hx hb dX5_enteredIn_7 (by decide) (fun c1 => ?_) (fun c1 => ?_)
      · --7 taken
        have t2 : (16 : Int) ≤ v4_3.toInt := ti_le c1
        have i3 : 16 ≤ v4_3.toInt ∧ v4_3.toInt ≤ 16 := iv_le_r t2 (il_ 16) hv4_3 (by decide)
        refine lv_iload_n hx hb dX5_enteredIn_28 rfl (lv_at hl 1 rfl) ?_
        rw [hQ]
        exact W.iret (v := v4_2) hx hb hr (fun t ht hW => ⟨⟨v4_2, (), rfl, ⟨hv4_2, by have h9 := hx4_0; rw [show v4_3.toNatClampNeg = 16 by rw [tn_]; omega] at h9; exact h9⟩, trivial⟩, hS.F ht⟩) hS.2.2 dX5_enteredIn_29
      · --7 not
        have t4 : v4_3.toInt < 16 := ti_nle c1
        have i5 : 0 ≤ v4_3.toInt ∧ v4_3.toInt ≤ 15 := iv_lt_l t4 hv4_3 (il_ 16) (by decide)
        have i6 : 0 ≤ v4_2.toInt ∧ v4_2.toInt ≤ 15 := by omega
        refine lv_aload_n hx hb dX5_enteredIn_10 rfl (lv_at hl 2 rfl) ?_
        refine lv_iload_n hx hb dX5_enteredIn_11 rfl (lv_at hl 0 rfl) ?_
        refine lv_iload_n hx hb dX5_enteredIn_12 rfl (lv_at hl 3 rfl) ?_
        refine th_riL (va_runV (As := [.int v4_3, .int a0]) (rest := []) ⟨hx, hb, hml, hown, hts⟩ (q_isEnteredIn l dC dI cT cf hC ad E H.size v4_3 a0 i hI (by omega) i5) (cwV 2 hts (gi_V (in_12 _ (zs16 (zs16 (zs1 (zs0))))) (in_6 _ (zs4 (zs4 (zs4 (zs1 (zs1 (zs1 (zs0)))))))) (in_6 _ (zs16 (zs0))) (in_6 _ (zs16 (zs1 (zs0)))) (in_6 _ (zs16 (zs1 (zs1 (zs0)))))) rfl rfl rfl ⟨rfl, hz_yX5_isEnteredIn_2⟩ ⟨Nat.le_of_ble_eq_true rfl, Nat.le_of_ble_eq_true rfl⟩) ⟨HWL_bl, va_recv hK hP (ci := 6) (q0 := posL (64 * (i + 1) + 6) (LC cf)) rfl (hI.ob (64 * (i + 1) + 6) (mP 6 i (by decide) hh0 (kl_le hC 2 (by decide))) (shC_p 6 i (by decide))), (HWL_wiR hP hK (WL_D hD) hS hEV)⟩ rfl rfl hl.1 rfl (lv_room (Nat.le_of_ble_eq_true rfl)) dX5_enteredIn_13 ⟨Nat.le_of_ble_eq_true rfl, Nat.le_of_ble_eq_true rfl⟩) hS hP (fun r7 H locs hw hP hS => ?_)
        rcases hw with hw | hw
        · -- isEnteredIn, case 0
          obtain ⟨rfl, f8⟩ := hw
          refine lv_if_eq (tgt := 22) hx hb dX5_enteredIn_16 (by decide) (fun c9 => ?_) (fun c9 => ?_)
          · --16 taken
            exact absurd c9 (by decide)
          · --16 not
            obtain ⟨y10, ey10⟩ : ∃ y : Int32, y = v4_2 + (1 : Int32) := ⟨_, rfl⟩
            obtain ⟨ty10, iy10⟩ := ti_add (e := 1) (f := 16) i6 ln_1 ey10 (by decide)
            have ty10 : y10.toInt = v4_2.toInt + 1 := ty10
            have iy10 : 1 ≤ y10.toInt ∧ y10.toInt ≤ 16 := iy10
            refine lv_iinc (v := y10) (lv' := [(2, .int y10), (3, .int v4_3), (0, .ref (ad (64 * (i + 1) + 6))), (1, .int a0)]) hx hb dX5_enteredIn_19 hl (k := 1) rfl (by rw [ey10]; rfl) (by decide) rfl (fun ls hl => ?_)
            obtain ⟨y11, ey11⟩ : ∃ y : Int32, y = v4_3 + (1 : Int32) := ⟨_, rfl⟩
            obtain ⟨ty11, iy11⟩ := ti_add (e := 1) (f := 16) i5 ln_1 ey11 (by decide)
            have ty11 : y11.toInt = v4_3.toInt + 1 := ty11
            have iy11 : 1 ≤ y11.toInt ∧ y11.toInt ≤ 16 := iy11
            refine lv_iinc (v := y11) (lv' := [(3, .int y11), (2, .int y10), (0, .ref (ad (64 * (i + 1) + 6))), (1, .int a0)]) hx hb dX5_enteredIn_22 hl (k := 1) rfl (by rw [ey11]; rfl) (by decide) rfl (fun ls hl => ?_)
            refine lv_goto (tgt := 4) hx hb dX5_enteredIn_25 (by decide) ?_
            exact ih4 y11 y10 _ _ _ (iv_w iy11 (by decide)) (iv_w iy10 (by decide)) (by rw [tn_s ty11 hv4_3 (by decide), entC_1 (by omega)]; omega) (by have h9 := iy10; have h8 := iy11; omega) (by first | exact ms_su hx4_2 ty11 (by decide) | omega) hP hS (lv_sub hl [0, 1, 2, 3] rfl)
        · -- isEnteredIn, case 1
          obtain ⟨rfl, f12⟩ := hw
          refine lv_if_eq (tgt := 22) hx hb dX5_enteredIn_16 (by decide) (fun c13 => ?_) (fun c13 => ?_)
          · --16 taken
            obtain ⟨y14, ey14⟩ : ∃ y : Int32, y = v4_3 + (1 : Int32) := ⟨_, rfl⟩
            obtain ⟨ty14, iy14⟩ := ti_add (e := 1) (f := 16) i5 ln_1 ey14 (by decide)
            have ty14 : y14.toInt = v4_3.toInt + 1 := ty14
            have iy14 : 1 ≤ y14.toInt ∧ y14.toInt ≤ 16 := iy14
            refine lv_iinc (v := y14) (lv' := [(3, .int y14), (2, .int v4_2), (0, .ref (ad (64 * (i + 1) + 6))), (1, .int a0)]) hx hb dX5_enteredIn_22 hl (k := 0) rfl (by rw [ey14]; rfl) (by decide) rfl (fun ls hl => ?_)
            refine lv_goto (tgt := 4) hx hb dX5_enteredIn_25 (by decide) ?_
            exact ih4 y14 v4_2 _ _ _ (iv_w iy14 (by decide)) (iv_w i6 (by decide)) (by rw [tn_s ty14 hv4_3 (by decide), entC_0 (by omega)]; omega) (by have h9 := i6; have h8 := iy14; omega) (by first | exact ms_su hx4_2 ty14 (by decide) | omega) hP hS (lv_sub hl [0, 1, 2, 3] rfl)
          · --16 not
            exact absurd c13 (by decide)
  exact hL4 (17) (0 : Int32) (0 : Int32) _ _ _ (iv_w ln_0 (by decide)) (iv_w ln_0 (by decide)) rfl (by have h9 := ln_0; have h8 := ln_0; omega) (by have h9 := ln_0; first | exact ms_bu h9.1 (by decide) | omega) hP hS (lv_sub hl [0, 1, 2, 3] rfl)
def v_swiftInX : List Cond := .code yX5_swiftIn cX5_swiftIn 3 (some .int) :: vA
abbrev rm_swiftInX : Room := { frames := 0, cells := 0, slots := 0, locals := 0 }
set_option maxHeartbeats 4000000 in
set_option maxRecDepth 100000 in
theorem q_swiftInX (l : Launch) (dC : Nat → ClassId) (dI : Nat → Nat → Nat) (cT : Nat → ClassId) (cf : Nat → Nat) (hC : CF cf) (ad : Nat → Nat) (E : Nat → va_E) (sz : Nat) (a0 : Int32) (i : Nat) (hI0 : IXL cT (shC cf) (spC cf) (LC cf) ad E) (hh0 : i < cf 2) (hh1 : 0 ≤ a0.toInt ∧ a0.toInt ≤ 400) : Met l yX5_swiftIn v_swiftInX rm_swiftInX (va_Pc [.ref (ad (64 * (i + 1) + 6)), .int a0] (HWL dC dI (TYC cT) cf ad E sz)) (va_Qi (S := Unit) (fun r _ => (0 ≤ r.toInt ∧ r.toInt ≤ 9) ∧ ((∃ d9 : Nat, (xi (E (64 * (i + 1) + 6)) 0).toInt ≤ (d9 : Int) ∧ (d9 : Int) ≤ a0.toInt ∧ ¬ (xi (E (64 * (i + 1) + 11)) d9).toInt = 0 ∧ r = xi (E (64 * (i + 1) + 11)) d9 ∧ ∀ d8 : Nat, (d9 : Int) < (d8 : Int) → (d8 : Int) ≤ a0.toInt → (xi (E (64 * (i + 1) + 11)) d8).toInt = 0) ∨ (r = 2 ∧ ∀ d8 : Nat, (xi (E (64 * (i + 1) + 6)) 0).toInt ≤ (d8 : Int) → (d8 : Int) ≤ a0.toInt → (xi (E (64 * (i + 1) + 11)) d8).toInt = 0))) (fun _ _ => True) (fun _ => False)) 0 0 (fun _ => False) := by
  obtain ⟨⟨hc0, hc1, hc2, hc3, hc4, hc5⟩, hcr⟩ := id hC
  refine Met.ofW (cc := cX5_swiftIn) (maxL := 3) (ret := (some .int)) (by decide) rfl ?_
  intro p e s m args below meth c s₁ B hml hv
  obtain ⟨hargs, hsz, hP, hK, hD0, hEV⟩ := hv
  subst hsz
  have hx := B.exec
  have hb := B.bytes
  have hr := B.returns
  have hts := atoms_spec (ws := v_swiftInX) B.pre
  have hown : s.vm.findClass RX5 = some m.cls := findClass_of_methodNamed B.named
  have hlocks := B.notSynchronized
  have hinX5 : ∀ w ∈ u_ws RX5 TX5 12, w ∈ v_swiftInX := fun w h => vA_in _ w (in_X5 w h)
  have hS : va_S (fun _ : Nat => False) s.heap s.heap [] := va_S.rf
  have hD := hD0
  have hI := hI0
  have hKp : Kp (wl [] []) E E := Kp.rf
  have hl := lv_entry ([.ref (ad (64 * (i + 1) + 6)), .int a0]) (n := 3) (Nat.le_of_ble_eq_true rfl)
  obtain ⟨Q, hQ⟩ : ∃ Q, Q = MQ below (va_Qi (S := Unit) (fun r _ => (0 ≤ r.toInt ∧ r.toInt ≤ 9) ∧ ((∃ d9 : Nat, (xi (E (64 * (i + 1) + 6)) 0).toInt ≤ (d9 : Int) ∧ (d9 : Int) ≤ a0.toInt ∧ ¬ (xi (E (64 * (i + 1) + 11)) d9).toInt = 0 ∧ r = xi (E (64 * (i + 1) + 11)) d9 ∧ ∀ d8 : Nat, (d9 : Int) < (d8 : Int) → (d8 : Int) ≤ a0.toInt → (xi (E (64 * (i + 1) + 11)) d8).toInt = 0) ∨ (r = 2 ∧ ∀ d8 : Nat, (xi (E (64 * (i + 1) + 6)) 0).toInt ≤ (d8 : Int) → (d8 : Int) ≤ a0.toInt → (xi (E (64 * (i + 1) + 11)) d8).toInt = 0))) (fun _ _ => True) (fun _ => False)) args s 0 0 (fun _ => False) := ⟨_, rfl⟩
  rw [← hQ, show entryFrame m args 3 = _ from (congrArg (fun z => entryFrame m z 3) hargs).trans (lg_entry_eq _ _ _)]
  generalize (lg_sl ([.ref (ad (64 * (i + 1) + 6)), .int a0]) ++ List.replicate (3 - (lg_sl ([.ref (ad (64 * (i + 1) + 6)), .int a0])).length) Slot.unset).toArray = ls at hl ⊢
  have hl : lv_has ls 3 [(0, .ref (ad (64 * (i + 1) + 6))), (1, .int a0)] := hl
  refine lv_iload_n hx hb dX5_swiftIn_0 rfl (lv_at hl 1 rfl) ?_
  refine lv_istore_n (lv' := [(2, .int a0), (0, .ref (ad (64 * (i + 1) + 6))), (1, .int a0)]) hx hb dX5_swiftIn_1 rfl hl (by decide) rfl (fun ls hl => ?_)
  have hL2 : ∀ d : Nat, ∀ (v2_2 : Int32) (H : Heap) (locs : List Loc) (ls : Array Slot), -1 ≤ v2_2.toInt ∧ v2_2.toInt ≤ 400 → (∀ d9 : Nat, v2_2.toInt < (d9 : Int) → (d9 : Int) ≤ a0.toInt → (xi (E (64 * (i + 1) + 11)) d9).toInt = 0) → v2_2.toInt ≤ a0.toInt → v2_2.toInt - (-1) < (d : Int) → va_P (dC, dI) vwCl (WL (LC cf) ad E) H → va_S (fun _ : Nat => False) s.heap H locs → lv_has ls 3 [(2, .int v2_2), (0, .ref (ad (64 * (i + 1) + 6))), (1, .int a0)] → W p l e (headSpec v_swiftInX rm_swiftInX).room s m args below meth c H locs 0 0 Q (F0 m 2 ls []) := by
    intro d
    induction d with
    | zero =>
      intro v2_2 H locs ls hv2_2 hx2_0 hx2_1 hx2_2 hP hS hl
      exact absurd hx2_2 (by first | exact ms_zd hv2_2.1 | omega)
    | succ d ih2 =>
      intro v2_2 H locs ls hv2_2 hx2_0 hx2_1 hx2_2 hP hS hl
      refine lv_iload_n hx hb dX5_swiftIn_2 rfl (lv_at hl 0 rfl) ?_
      refine lv_aload_n hx hb dX5_swiftIn_3 rfl (lv_at hl 1 rfl) ?_
      have i1 : 0 ≤ (xi (E (64 * (i + 1) + 6)) 0).toInt ∧ (xi (E (64 * (i + 1) + 6)) 0).toInt ≤ 400 := hI0.iv (64 * (i + 1) + 6) (mP 6 i (by decide) hh0 (kl_le hC 2 (by decide))) (shC_p 6 i (by decide)) (Nat.le_of_ble_eq_true rfl) (spC_p 6 i (by decide) 0)
      refine th_getL (ci := 6) (C := RX5) (T := TX5) (N := 12) (v := .int (xi (E (64 * (i + 1) + 6)) 0)) hx hb hts hinX5 hown hK hP hI (64 * (i + 1) + 6) (mP 6 i (by decide) hh0 (kl_le hC 2 (by decide))) (shC_p 6 i (by decide)) rfl 0 (Nat.le_of_ble_eq_true rfl) (hts _ (vA_in _ _ (in_15 _ (zs16 (zs4 (zs4 (zs1 (zs1 (zs0))))))))) (fun _ h9 => h9) (th_v0L hKp hI0 (64 * (i + 1) + 6) (mP 6 i (by decide) hh0 (kl_le hC 2 (by decide))) (shC_p 6 i (by decide)) (Nat.le_of_ble_eq_true rfl) (spC_p 6 i (by decide) 0) (wl_p rfl rfl (by omega))) dX5_swiftIn_4 ?_
      refine lv_icmp_lt (tgt := 32) hx hb dX5_swiftIn_7 (by decide) (fun c2 => ?_) (fun c2 => ?_)
      · --7 taken
        have t3 : v2_2.toInt < (xi (E (64 * (i + 1) + 6)) 0).toInt := ti_lt c2
        have i4 : -1 ≤ v2_2.toInt ∧ v2_2.toInt ≤ 399 := iv_lt_l t3 hv2_2 i1 (by decide)
        refine lv_iconst (v := 2) hx hb dX5_swiftIn_32 (by decide) ?_
        rw [hQ]
        exact W.iret (v := 2) hx hb hr (fun t ht hW => ⟨⟨2, (), rfl, ⟨(iv_w ln_2 (by decide)), Or.inr ⟨rfl, fun d8 h8 h9 => hx2_0 d8 (by omega) h9⟩⟩, trivial⟩, hS.F ht⟩) hS.2.2 dX5_swiftIn_33
      · --7 not
        have t5 : (xi (E (64 * (i + 1) + 6)) 0).toInt ≤ v2_2.toInt := ti_nlt c2
        have i6 : 0 ≤ v2_2.toInt ∧ v2_2.toInt ≤ 400 := iv_le_r t5 i1 hv2_2 (by decide)
        refine lv_aload_n hx hb dX5_swiftIn_10 rfl (lv_at hl 1 rfl) ?_
        refine th_getL (ci := 6) (C := RX5) (T := TX5) (N := 12) (v := .ref (ad (64 * (i + 1) + 11))) hx hb hts hinX5 hown hK hP hI (64 * (i + 1) + 6) (mP 6 i (by decide) hh0 (kl_le hC 2 (by decide))) (shC_p 6 i (by decide)) rfl 11 (Nat.le_of_ble_eq_true rfl) (hts _ (vA_in _ _ (in_15 _ (zs16 (zs4 (zs4 (zs1 (zs1 (zs1 (zs0)))))))))) (fun _ h9 => h9) (hI.fr (64 * (i + 1) + 6) (mP 6 i (by decide) hh0 (kl_le hC 2 (by decide))) (shC_p 6 i (by decide)) (Nat.le_of_ble_eq_true rfl) (64 * (i + 1) + 11) (spC_p 6 i (by decide) 11)) dX5_swiftIn_11 ?_
        refine lv_iload_n hx hb dX5_swiftIn_14 rfl (lv_at hl 0 rfl) ?_
        have n8 : vp_in v2_2 401 := (iv_in (n := 401) i6 (by decide))
        refine th_ialdL hx hb hK hP hI (64 * (i + 1) + 11) (mP 11 i (by decide) hh0 (kl_le hC 2 (by decide))) (shC_p 11 i (by decide)) rfl n8 dX5_swiftIn_15 (fun y7 ey7 => ?_)
        have iy7 : 0 ≤ y7.toInt ∧ y7.toInt ≤ 9 := hI.el (64 * (i + 1) + 11) (mP 11 i (by decide) hh0 (kl_le hC 2 (by decide))) (shC_p 11 i (by decide)) n8 (fun j9 => spC_p 11 i (by decide) j9) ey7
        have ey7 := ey7.trans (hKp.ei (64 * (i + 1) + 11) _ (wl_p rfl rfl (by omega)))
        refine lv_if_eq (tgt := 26) hx hb dX5_swiftIn_16 (by decide) (fun c9 => ?_) (fun c9 => ?_)
        · --16 taken
          have t10 : y7.toInt = 0 := ti_eq c9
          have i11 : 0 ≤ y7.toInt ∧ y7.toInt ≤ 0 := iv_eqi t10 iy7 (il_ 0) (by decide)
          obtain ⟨y12, ey12⟩ : ∃ y : Int32, y = v2_2 + (-1 : Int32) := ⟨_, rfl⟩
          obtain ⟨ty12, iy12⟩ := ti_add (e := (-1)) (f := 399) i6 ln_m1 ey12 (by decide)
          have ty12 : y12.toInt = v2_2.toInt + (-1) := ty12
          have iy12 : -1 ≤ y12.toInt ∧ y12.toInt ≤ 399 := iy12
          refine lv_iinc (v := y12) (lv' := [(2, .int y12), (0, .ref (ad (64 * (i + 1) + 6))), (1, .int a0)]) hx hb dX5_swiftIn_26 hl (k := 0) rfl (by rw [ey12]; rfl) (by decide) rfl (fun ls hl => ?_)
          refine lv_goto (tgt := 2) hx hb dX5_swiftIn_29 (by decide) ?_
          exact ih2 y12 _ _ _ (iv_w iy12 (by decide)) (fun d9 h8 h9 => dite (d9 = v2_2.toNatClampNeg) (fun q9 => by subst q9; have g9 := congrArg Int32.toInt ey7; omega) (fun q9 => hx2_0 d9 (by rw [tn_] at q9; omega) h9)) (by omega) (by first | exact ms_sd hx2_2 ty12 (by decide) | exact ms_sd2 hx2_2 ty12 | omega) hP hS (lv_sub hl [0, 1, 2] rfl)
        · --16 not
          have t13 : ¬ y7.toInt = 0 := ti_ne c9
          have i14 : 1 ≤ y7.toInt ∧ y7.toInt ≤ 9 := iv_ne_l t13 iy7 (il_ 0)
          refine lv_aload_n hx hb dX5_swiftIn_19 rfl (lv_at hl 1 rfl) ?_
          refine th_getL (ci := 6) (C := RX5) (T := TX5) (N := 12) (v := .ref (ad (64 * (i + 1) + 11))) hx hb hts hinX5 hown hK hP hI (64 * (i + 1) + 6) (mP 6 i (by decide) hh0 (kl_le hC 2 (by decide))) (shC_p 6 i (by decide)) rfl 11 (Nat.le_of_ble_eq_true rfl) (hts _ (vA_in _ _ (in_15 _ (zs16 (zs4 (zs4 (zs1 (zs1 (zs1 (zs0)))))))))) (fun _ h9 => h9) (hI.fr (64 * (i + 1) + 6) (mP 6 i (by decide) hh0 (kl_le hC 2 (by decide))) (shC_p 6 i (by decide)) (Nat.le_of_ble_eq_true rfl) (64 * (i + 1) + 11) (spC_p 6 i (by decide) 11)) dX5_swiftIn_20 ?_
          refine lv_iload_n hx hb dX5_swiftIn_23 rfl (lv_at hl 0 rfl) ?_
          have n16 : vp_in v2_2 401 := (iv_in (n := 401) i6 (by decide))
          refine th_ialdL hx hb hK hP hI (64 * (i + 1) + 11) (mP 11 i (by decide) hh0 (kl_le hC 2 (by decide))) (shC_p 11 i (by decide)) rfl n16 dX5_swiftIn_24 (fun y15 ey15 => ?_)
          have iy15 : 0 ≤ y15.toInt ∧ y15.toInt ≤ 9 := hI.el (64 * (i + 1) + 11) (mP 11 i (by decide) hh0 (kl_le hC 2 (by decide))) (shC_p 11 i (by decide)) n16 (fun j9 => spC_p 11 i (by decide) j9) ey15
          have ey15 := ey15.trans (hKp.ei (64 * (i + 1) + 11) _ (wl_p rfl rfl (by omega)))
          rw [hQ]
          exact W.iret (v := y15) hx hb hr (fun t ht hW => ⟨⟨y15, (), rfl, ⟨iy15, Or.inl ⟨v2_2.toNatClampNeg, by rw [tn_]; omega, by rw [tn_]; omega, by rw [← ey7]; omega, ey15, fun d8 h8 h9 => hx2_0 d8 (by rw [tn_] at h8; omega) h9⟩⟩, trivial⟩, hS.F ht⟩) hS.2.2 dX5_swiftIn_25
  exact hL2 (402) a0 _ _ _ (iv_w hh1 (by decide)) (fun d9 h8 h9 => by exfalso; omega) (Int.le_refl _) (by have h9 := hh1; first | exact ms_bd h9.2 (by decide) | omega) hP hS (lv_sub hl [0, 1, 2] rfl)
