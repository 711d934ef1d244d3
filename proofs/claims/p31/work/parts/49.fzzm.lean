set_option maxRecDepth 100000 in
theorem zh_dX8_throwOutsIn_0_0 : zc cX8_throwOutsIn 0 [42, 180, 0, 34, 182, 0, 96, 42, 180, 0, 34, 180, 0, 99, 16, 7] = true := by decide +kernel
set_option maxRecDepth 100000 in
theorem zh_dX8_throwOutsIn_16_16 : zc cX8_throwOutsIn 16 [42, 180, 0, 73, 79, 42, 180, 0, 34, 42, 180, 0, 34, 27, 27, 182] = true := by decide +kernel
set_option maxRecDepth 100000 in
theorem zh_dX8_throwOutsIn_31_32 : zc cX8_throwOutsIn 32 [0, 102, 16, 116, 182, 0, 105, 61, 28, 3, 3, 42, 180, 0, 73, 4] = true := by decide +kernel
set_option maxRecDepth 100000 in
theorem zh_dX8_throwOutsIn_48_48 : zc cX8_throwOutsIn 48 [100, 184, 0, 109, 184, 0, 114, 172] = true := by decide +kernel
set_option maxRecDepth 100000 in
theorem zh_dX8_throwOut_0_0 : zc cX8_throwOut 0 [3, 62, 3, 54, 4, 21, 4, 42, 180, 0, 73, 162, 0, 35, 42, 180] = true := by decide +kernel
set_option maxRecDepth 100000 in
theorem zh_dX8_throwOut_15_16 : zc cX8_throwOut 16 [0, 18, 21, 4, 27, 184, 0, 76, 3, 84, 29, 42, 180, 0, 15, 21] = true := by decide +kernel
set_option maxRecDepth 100000 in
theorem zh_dX8_throwOut_31_32 : zc cX8_throwOut 32 [4, 27, 184, 0, 76, 46, 96, 62, 132, 4, 1, 167, 255, 218, 3, 54] = true := by decide +kernel
set_option maxRecDepth 100000 in
theorem zh_dX8_throwOut_47_48 : zc cX8_throwOut 48 [4, 21, 4, 28, 162, 0, 51, 42, 27, 182, 0, 117, 54, 5, 21, 5] = true := by decide +kernel
set_option maxRecDepth 100000 in
theorem zh_dX8_throwOut_64_64 : zc cX8_throwOut 64 [2, 160, 0, 6, 167, 0, 35, 42, 180, 0, 18, 21, 5, 27, 184, 0] = true := by decide +kernel
set_option maxRecDepth 100000 in
theorem zh_dX8_throwOut_78_80 : zc cX8_throwOut 80 [76, 4, 84, 29, 42, 180, 0, 15, 21, 5, 27, 184, 0, 76, 46, 100] = true := by decide +kernel
set_option maxRecDepth 100000 in
theorem zh_dX8_throwOut_96_96 : zc cX8_throwOut 96 [62, 132, 4, 1, 167, 255, 205, 42, 180, 0, 25, 27, 29, 79, 177] = true := by decide +kernel
set_option maxRecDepth 100000 in
theorem zh_dX8_worstOf_0_0 : zc cX8_worstOf 0 [2, 61, 3, 62, 3, 54, 4, 21, 4, 42, 180, 0, 73, 162, 0, 51] = true := by decide +kernel
set_option maxRecDepth 100000 in
theorem zh_dX8_worstOf_16_16 : zc cX8_worstOf 16 [42, 180, 0, 15, 21, 4, 27, 184, 0, 76, 46, 54, 5, 42, 180, 0] = true := by decide +kernel
set_option maxRecDepth 100000 in
theorem zh_dX8_worstOf_30_32 : zc cX8_worstOf 32 [18, 21, 4, 27, 184, 0, 76, 51, 154, 0, 18, 21, 5, 29, 162, 0] = true := by decide +kernel
set_option maxRecDepth 100000 in
theorem zh_dX8_worstOf_46_48 : zc cX8_worstOf 48 [6, 167, 0, 9, 21, 4, 61, 21, 5, 62, 132, 4, 1, 167, 255, 202] = true := by decide +kernel
set_option maxRecDepth 100000 in
theorem zh_dX8_worstOf_64_64 : zc cX8_worstOf 64 [28, 172] = true := by decide +kernel
theorem dX8_throwOutsIn_0 : decode cX8_throwOutsIn 0 = .ok (.aload_n 0, 1) := zo_42 (zi_at zh_dX8_throwOutsIn_0_0 0 rfl)
theorem dX8_throwOutsIn_1 : decode cX8_throwOutsIn 1 = .ok (.getfield 34, 3) := zo_180 (zi_at zh_dX8_throwOutsIn_0_0 1 rfl) (zi_at zh_dX8_throwOutsIn_0_0 2 rfl) (zi_at zh_dX8_throwOutsIn_0_0 3 rfl) rfl
theorem dX8_throwOutsIn_4 : decode cX8_throwOutsIn 4 = .ok (.invokevirtual 96, 3) := zo_182 (zi_at zh_dX8_throwOutsIn_0_0 4 rfl) (zi_at zh_dX8_throwOutsIn_0_0 5 rfl) (zi_at zh_dX8_throwOutsIn_0_0 6 rfl) rfl
theorem dX8_throwOutsIn_7 : decode cX8_throwOutsIn 7 = .ok (.aload_n 0, 1) := zo_42 (zi_at zh_dX8_throwOutsIn_0_0 7 rfl)
theorem dX8_throwOutsIn_8 : decode cX8_throwOutsIn 8 = .ok (.getfield 34, 3) := zo_180 (zi_at zh_dX8_throwOutsIn_0_0 8 rfl) (zi_at zh_dX8_throwOutsIn_0_0 9 rfl) (zi_at zh_dX8_throwOutsIn_0_0 10 rfl) rfl
theorem dX8_throwOutsIn_11 : decode cX8_throwOutsIn 11 = .ok (.getfield 99, 3) := zo_180 (zi_at zh_dX8_throwOutsIn_0_0 11 rfl) (zi_at zh_dX8_throwOutsIn_0_0 12 rfl) (zi_at zh_dX8_throwOutsIn_0_0 13 rfl) rfl
theorem dX8_throwOutsIn_14 : decode cX8_throwOutsIn 14 = .ok (.bipush 7, 2) := zo_16 (zi_at zh_dX8_throwOutsIn_0_0 14 rfl) (zi_at zh_dX8_throwOutsIn_0_0 15 rfl) rfl
theorem dX8_throwOutsIn_16 : decode cX8_throwOutsIn 16 = .ok (.aload_n 0, 1) := zo_42 (zi_at zh_dX8_throwOutsIn_16_16 0 rfl)
theorem dX8_throwOutsIn_17 : decode cX8_throwOutsIn 17 = .ok (.getfield 73, 3) := zo_180 (zi_at zh_dX8_throwOutsIn_16_16 1 rfl) (zi_at zh_dX8_throwOutsIn_16_16 2 rfl) (zi_at zh_dX8_throwOutsIn_16_16 3 rfl) rfl
theorem dX8_throwOutsIn_20 : decode cX8_throwOutsIn 20 = .ok (.iastore, 1) := zo_79 (zi_at zh_dX8_throwOutsIn_16_16 4 rfl)
theorem dX8_throwOutsIn_21 : decode cX8_throwOutsIn 21 = .ok (.aload_n 0, 1) := zo_42 (zi_at zh_dX8_throwOutsIn_16_16 5 rfl)
theorem dX8_throwOutsIn_22 : decode cX8_throwOutsIn 22 = .ok (.getfield 34, 3) := zo_180 (zi_at zh_dX8_throwOutsIn_16_16 6 rfl) (zi_at zh_dX8_throwOutsIn_16_16 7 rfl) (zi_at zh_dX8_throwOutsIn_16_16 8 rfl) rfl
theorem dX8_throwOutsIn_25 : decode cX8_throwOutsIn 25 = .ok (.aload_n 0, 1) := zo_42 (zi_at zh_dX8_throwOutsIn_16_16 9 rfl)
theorem dX8_throwOutsIn_26 : decode cX8_throwOutsIn 26 = .ok (.getfield 34, 3) := zo_180 (zi_at zh_dX8_throwOutsIn_16_16 10 rfl) (zi_at zh_dX8_throwOutsIn_16_16 11 rfl) (zi_at zh_dX8_throwOutsIn_16_16 12 rfl) rfl
theorem dX8_throwOutsIn_29 : decode cX8_throwOutsIn 29 = .ok (.iload_n 1, 1) := zo_27 (zi_at zh_dX8_throwOutsIn_16_16 13 rfl)
theorem dX8_throwOutsIn_30 : decode cX8_throwOutsIn 30 = .ok (.iload_n 1, 1) := zo_27 (zi_at zh_dX8_throwOutsIn_16_16 14 rfl)
theorem dX8_throwOutsIn_31 : decode cX8_throwOutsIn 31 = .ok (.invokevirtual 102, 3) := zo_182 (zi_at zh_dX8_throwOutsIn_16_16 15 rfl) (zi_at zh_dX8_throwOutsIn_31_32 0 rfl) (zi_at zh_dX8_throwOutsIn_31_32 1 rfl) rfl
theorem dX8_throwOutsIn_34 : decode cX8_throwOutsIn 34 = .ok (.bipush 116, 2) := zo_16 (zi_at zh_dX8_throwOutsIn_31_32 2 rfl) (zi_at zh_dX8_throwOutsIn_31_32 3 rfl) rfl
theorem dX8_throwOutsIn_36 : decode cX8_throwOutsIn 36 = .ok (.invokevirtual 105, 3) := zo_182 (zi_at zh_dX8_throwOutsIn_31_32 4 rfl) (zi_at zh_dX8_throwOutsIn_31_32 5 rfl) (zi_at zh_dX8_throwOutsIn_31_32 6 rfl) rfl
theorem dX8_throwOutsIn_39 : decode cX8_throwOutsIn 39 = .ok (.istore_n 2, 1) := zo_61 (zi_at zh_dX8_throwOutsIn_31_32 7 rfl)
theorem dX8_throwOutsIn_40 : decode cX8_throwOutsIn 40 = .ok (.iload_n 2, 1) := zo_28 (zi_at zh_dX8_throwOutsIn_31_32 8 rfl)
theorem dX8_throwOutsIn_41 : decode cX8_throwOutsIn 41 = .ok (.iconst 0, 1) := zo_3 (zi_at zh_dX8_throwOutsIn_31_32 9 rfl)
theorem dX8_throwOutsIn_42 : decode cX8_throwOutsIn 42 = .ok (.iconst 0, 1) := zo_3 (zi_at zh_dX8_throwOutsIn_31_32 10 rfl)
theorem dX8_throwOutsIn_43 : decode cX8_throwOutsIn 43 = .ok (.aload_n 0, 1) := zo_42 (zi_at zh_dX8_throwOutsIn_31_32 11 rfl)
theorem dX8_throwOutsIn_44 : decode cX8_throwOutsIn 44 = .ok (.getfield 73, 3) := zo_180 (zi_at zh_dX8_throwOutsIn_31_32 12 rfl) (zi_at zh_dX8_throwOutsIn_31_32 13 rfl) (zi_at zh_dX8_throwOutsIn_31_32 14 rfl) rfl
theorem dX8_throwOutsIn_47 : decode cX8_throwOutsIn 47 = .ok (.iconst 1, 1) := zo_4 (zi_at zh_dX8_throwOutsIn_31_32 15 rfl)
theorem dX8_throwOutsIn_48 : decode cX8_throwOutsIn 48 = .ok (.isub, 1) := zo_100 (zi_at zh_dX8_throwOutsIn_48_48 0 rfl)
theorem dX8_throwOutsIn_49 : decode cX8_throwOutsIn 49 = .ok (.invokestatic 109, 3) := zo_184 (zi_at zh_dX8_throwOutsIn_48_48 1 rfl) (zi_at zh_dX8_throwOutsIn_48_48 2 rfl) (zi_at zh_dX8_throwOutsIn_48_48 3 rfl) rfl
theorem dX8_throwOutsIn_52 : decode cX8_throwOutsIn 52 = .ok (.invokestatic 114, 3) := zo_184 (zi_at zh_dX8_throwOutsIn_48_48 4 rfl) (zi_at zh_dX8_throwOutsIn_48_48 5 rfl) (zi_at zh_dX8_throwOutsIn_48_48 6 rfl) rfl
theorem dX8_throwOutsIn_55 : decode cX8_throwOutsIn 55 = .ok (.ireturn, 1) := zo_172 (zi_at zh_dX8_throwOutsIn_48_48 7 rfl)
theorem dX8_throwOut_0 : decode cX8_throwOut 0 = .ok (.iconst 0, 1) := zo_3 (zi_at zh_dX8_throwOut_0_0 0 rfl)
theorem dX8_throwOut_1 : decode cX8_throwOut 1 = .ok (.istore_n 3, 1) := zo_62 (zi_at zh_dX8_throwOut_0_0 1 rfl)
theorem dX8_throwOut_2 : decode cX8_throwOut 2 = .ok (.iconst 0, 1) := zo_3 (zi_at zh_dX8_throwOut_0_0 2 rfl)
theorem dX8_throwOut_3 : decode cX8_throwOut 3 = .ok (.istore 4, 2) := zo_54 (zi_at zh_dX8_throwOut_0_0 3 rfl) (zi_at zh_dX8_throwOut_0_0 4 rfl)
theorem dX8_throwOut_5 : decode cX8_throwOut 5 = .ok (.iload 4, 2) := zo_21 (zi_at zh_dX8_throwOut_0_0 5 rfl) (zi_at zh_dX8_throwOut_0_0 6 rfl)
theorem dX8_throwOut_7 : decode cX8_throwOut 7 = .ok (.aload_n 0, 1) := zo_42 (zi_at zh_dX8_throwOut_0_0 7 rfl)
theorem dX8_throwOut_8 : decode cX8_throwOut 8 = .ok (.getfield 73, 3) := zo_180 (zi_at zh_dX8_throwOut_0_0 8 rfl) (zi_at zh_dX8_throwOut_0_0 9 rfl) (zi_at zh_dX8_throwOut_0_0 10 rfl) rfl
theorem dX8_throwOut_11 : decode cX8_throwOut 11 = .ok (.if_icmp .ge 35, 3) := zo_162 (zi_at zh_dX8_throwOut_0_0 11 rfl) (zi_at zh_dX8_throwOut_0_0 12 rfl) (zi_at zh_dX8_throwOut_0_0 13 rfl) rfl
theorem dX8_throwOut_14 : decode cX8_throwOut 14 = .ok (.aload_n 0, 1) := zo_42 (zi_at zh_dX8_throwOut_0_0 14 rfl)
theorem dX8_throwOut_15 : decode cX8_throwOut 15 = .ok (.getfield 18, 3) := zo_180 (zi_at zh_dX8_throwOut_0_0 15 rfl) (zi_at zh_dX8_throwOut_15_16 0 rfl) (zi_at zh_dX8_throwOut_15_16 1 rfl) rfl
theorem dX8_throwOut_18 : decode cX8_throwOut 18 = .ok (.iload 4, 2) := zo_21 (zi_at zh_dX8_throwOut_15_16 2 rfl) (zi_at zh_dX8_throwOut_15_16 3 rfl)
theorem dX8_throwOut_20 : decode cX8_throwOut 20 = .ok (.iload_n 1, 1) := zo_27 (zi_at zh_dX8_throwOut_15_16 4 rfl)
theorem dX8_throwOut_21 : decode cX8_throwOut 21 = .ok (.invokestatic 76, 3) := zo_184 (zi_at zh_dX8_throwOut_15_16 5 rfl) (zi_at zh_dX8_throwOut_15_16 6 rfl) (zi_at zh_dX8_throwOut_15_16 7 rfl) rfl
theorem dX8_throwOut_24 : decode cX8_throwOut 24 = .ok (.iconst 0, 1) := zo_3 (zi_at zh_dX8_throwOut_15_16 8 rfl)
theorem dX8_throwOut_25 : decode cX8_throwOut 25 = .ok (.bastore, 1) := zo_84 (zi_at zh_dX8_throwOut_15_16 9 rfl)
theorem dX8_throwOut_26 : decode cX8_throwOut 26 = .ok (.iload_n 3, 1) := zo_29 (zi_at zh_dX8_throwOut_15_16 10 rfl)
theorem dX8_throwOut_27 : decode cX8_throwOut 27 = .ok (.aload_n 0, 1) := zo_42 (zi_at zh_dX8_throwOut_15_16 11 rfl)
theorem dX8_throwOut_28 : decode cX8_throwOut 28 = .ok (.getfield 15, 3) := zo_180 (zi_at zh_dX8_throwOut_15_16 12 rfl) (zi_at zh_dX8_throwOut_15_16 13 rfl) (zi_at zh_dX8_throwOut_15_16 14 rfl) rfl
theorem dX8_throwOut_31 : decode cX8_throwOut 31 = .ok (.iload 4, 2) := zo_21 (zi_at zh_dX8_throwOut_15_16 15 rfl) (zi_at zh_dX8_throwOut_31_32 0 rfl)
theorem dX8_throwOut_33 : decode cX8_throwOut 33 = .ok (.iload_n 1, 1) := zo_27 (zi_at zh_dX8_throwOut_31_32 1 rfl)
theorem dX8_throwOut_34 : decode cX8_throwOut 34 = .ok (.invokestatic 76, 3) := zo_184 (zi_at zh_dX8_throwOut_31_32 2 rfl) (zi_at zh_dX8_throwOut_31_32 3 rfl) (zi_at zh_dX8_throwOut_31_32 4 rfl) rfl
theorem dX8_throwOut_37 : decode cX8_throwOut 37 = .ok (.iaload, 1) := zo_46 (zi_at zh_dX8_throwOut_31_32 5 rfl)
theorem dX8_throwOut_38 : decode cX8_throwOut 38 = .ok (.iadd, 1) := zo_96 (zi_at zh_dX8_throwOut_31_32 6 rfl)
theorem dX8_throwOut_39 : decode cX8_throwOut 39 = .ok (.istore_n 3, 1) := zo_62 (zi_at zh_dX8_throwOut_31_32 7 rfl)
theorem dX8_throwOut_40 : decode cX8_throwOut 40 = .ok (.iinc 4 1, 3) := zo_132 (zi_at zh_dX8_throwOut_31_32 8 rfl) (zi_at zh_dX8_throwOut_31_32 9 rfl) (zi_at zh_dX8_throwOut_31_32 10 rfl) rfl
theorem dX8_throwOut_43 : decode cX8_throwOut 43 = .ok (.goto (-38), 3) := zo_167 (zi_at zh_dX8_throwOut_31_32 11 rfl) (zi_at zh_dX8_throwOut_31_32 12 rfl) (zi_at zh_dX8_throwOut_31_32 13 rfl) rfl
theorem dX8_throwOut_46 : decode cX8_throwOut 46 = .ok (.iconst 0, 1) := zo_3 (zi_at zh_dX8_throwOut_31_32 14 rfl)
theorem dX8_throwOut_47 : decode cX8_throwOut 47 = .ok (.istore 4, 2) := zo_54 (zi_at zh_dX8_throwOut_31_32 15 rfl) (zi_at zh_dX8_throwOut_47_48 0 rfl)
theorem dX8_throwOut_49 : decode cX8_throwOut 49 = .ok (.iload 4, 2) := zo_21 (zi_at zh_dX8_throwOut_47_48 1 rfl) (zi_at zh_dX8_throwOut_47_48 2 rfl)
theorem dX8_throwOut_51 : decode cX8_throwOut 51 = .ok (.iload_n 2, 1) := zo_28 (zi_at zh_dX8_throwOut_47_48 3 rfl)
theorem dX8_throwOut_52 : decode cX8_throwOut 52 = .ok (.if_icmp .ge 51, 3) := zo_162 (zi_at zh_dX8_throwOut_47_48 4 rfl) (zi_at zh_dX8_throwOut_47_48 5 rfl) (zi_at zh_dX8_throwOut_47_48 6 rfl) rfl
theorem dX8_throwOut_55 : decode cX8_throwOut 55 = .ok (.aload_n 0, 1) := zo_42 (zi_at zh_dX8_throwOut_47_48 7 rfl)
theorem dX8_throwOut_56 : decode cX8_throwOut 56 = .ok (.iload_n 1, 1) := zo_27 (zi_at zh_dX8_throwOut_47_48 8 rfl)
theorem dX8_throwOut_57 : decode cX8_throwOut 57 = .ok (.invokevirtual 117, 3) := zo_182 (zi_at zh_dX8_throwOut_47_48 9 rfl) (zi_at zh_dX8_throwOut_47_48 10 rfl) (zi_at zh_dX8_throwOut_47_48 11 rfl) rfl
theorem dX8_throwOut_60 : decode cX8_throwOut 60 = .ok (.istore 5, 2) := zo_54 (zi_at zh_dX8_throwOut_47_48 12 rfl) (zi_at zh_dX8_throwOut_47_48 13 rfl)
theorem dX8_throwOut_62 : decode cX8_throwOut 62 = .ok (.iload 5, 2) := zo_21 (zi_at zh_dX8_throwOut_47_48 14 rfl) (zi_at zh_dX8_throwOut_47_48 15 rfl)
theorem dX8_throwOut_64 : decode cX8_throwOut 64 = .ok (.iconst (-1), 1) := zo_2 (zi_at zh_dX8_throwOut_64_64 0 rfl)
theorem dX8_throwOut_65 : decode cX8_throwOut 65 = .ok (.if_icmp .ne 6, 3) := zo_160 (zi_at zh_dX8_throwOut_64_64 1 rfl) (zi_at zh_dX8_throwOut_64_64 2 rfl) (zi_at zh_dX8_throwOut_64_64 3 rfl) rfl
theorem dX8_throwOut_71 : decode cX8_throwOut 71 = .ok (.aload_n 0, 1) := zo_42 (zi_at zh_dX8_throwOut_64_64 7 rfl)
theorem dX8_throwOut_72 : decode cX8_throwOut 72 = .ok (.getfield 18, 3) := zo_180 (zi_at zh_dX8_throwOut_64_64 8 rfl) (zi_at zh_dX8_throwOut_64_64 9 rfl) (zi_at zh_dX8_throwOut_64_64 10 rfl) rfl
theorem dX8_throwOut_75 : decode cX8_throwOut 75 = .ok (.iload 5, 2) := zo_21 (zi_at zh_dX8_throwOut_64_64 11 rfl) (zi_at zh_dX8_throwOut_64_64 12 rfl)
theorem dX8_throwOut_77 : decode cX8_throwOut 77 = .ok (.iload_n 1, 1) := zo_27 (zi_at zh_dX8_throwOut_64_64 13 rfl)
theorem dX8_throwOut_78 : decode cX8_throwOut 78 = .ok (.invokestatic 76, 3) := zo_184 (zi_at zh_dX8_throwOut_64_64 14 rfl) (zi_at zh_dX8_throwOut_64_64 15 rfl) (zi_at zh_dX8_throwOut_78_80 0 rfl) rfl
theorem dX8_throwOut_81 : decode cX8_throwOut 81 = .ok (.iconst 1, 1) := zo_4 (zi_at zh_dX8_throwOut_78_80 1 rfl)
theorem dX8_throwOut_82 : decode cX8_throwOut 82 = .ok (.bastore, 1) := zo_84 (zi_at zh_dX8_throwOut_78_80 2 rfl)
theorem dX8_throwOut_83 : decode cX8_throwOut 83 = .ok (.iload_n 3, 1) := zo_29 (zi_at zh_dX8_throwOut_78_80 3 rfl)
theorem dX8_throwOut_84 : decode cX8_throwOut 84 = .ok (.aload_n 0, 1) := zo_42 (zi_at zh_dX8_throwOut_78_80 4 rfl)
theorem dX8_throwOut_85 : decode cX8_throwOut 85 = .ok (.getfield 15, 3) := zo_180 (zi_at zh_dX8_throwOut_78_80 5 rfl) (zi_at zh_dX8_throwOut_78_80 6 rfl) (zi_at zh_dX8_throwOut_78_80 7 rfl) rfl
theorem dX8_throwOut_88 : decode cX8_throwOut 88 = .ok (.iload 5, 2) := zo_21 (zi_at zh_dX8_throwOut_78_80 8 rfl) (zi_at zh_dX8_throwOut_78_80 9 rfl)
theorem dX8_throwOut_90 : decode cX8_throwOut 90 = .ok (.iload_n 1, 1) := zo_27 (zi_at zh_dX8_throwOut_78_80 10 rfl)
theorem dX8_throwOut_91 : decode cX8_throwOut 91 = .ok (.invokestatic 76, 3) := zo_184 (zi_at zh_dX8_throwOut_78_80 11 rfl) (zi_at zh_dX8_throwOut_78_80 12 rfl) (zi_at zh_dX8_throwOut_78_80 13 rfl) rfl
theorem dX8_throwOut_94 : decode cX8_throwOut 94 = .ok (.iaload, 1) := zo_46 (zi_at zh_dX8_throwOut_78_80 14 rfl)
theorem dX8_throwOut_95 : decode cX8_throwOut 95 = .ok (.isub, 1) := zo_100 (zi_at zh_dX8_throwOut_78_80 15 rfl)
theorem dX8_throwOut_96 : decode cX8_throwOut 96 = .ok (.istore_n 3, 1) := zo_62 (zi_at zh_dX8_throwOut_96_96 0 rfl)
theorem dX8_throwOut_97 : decode cX8_throwOut 97 = .ok (.iinc 4 1, 3) := zo_132 (zi_at zh_dX8_throwOut_96_96 1 rfl) (zi_at zh_dX8_throwOut_96_96 2 rfl) (zi_at zh_dX8_throwOut_96_96 3 rfl) rfl
theorem dX8_throwOut_100 : decode cX8_throwOut 100 = .ok (.goto (-51), 3) := zo_167 (zi_at zh_dX8_throwOut_96_96 4 rfl) (zi_at zh_dX8_throwOut_96_96 5 rfl) (zi_at zh_dX8_throwOut_96_96 6 rfl) rfl
theorem dX8_throwOut_103 : decode cX8_throwOut 103 = .ok (.aload_n 0, 1) := zo_42 (zi_at zh_dX8_throwOut_96_96 7 rfl)
theorem dX8_throwOut_104 : decode cX8_throwOut 104 = .ok (.getfield 25, 3) := zo_180 (zi_at zh_dX8_throwOut_96_96 8 rfl) (zi_at zh_dX8_throwOut_96_96 9 rfl) (zi_at zh_dX8_throwOut_96_96 10 rfl) rfl
theorem dX8_throwOut_107 : decode cX8_throwOut 107 = .ok (.iload_n 1, 1) := zo_27 (zi_at zh_dX8_throwOut_96_96 11 rfl)
theorem dX8_throwOut_108 : decode cX8_throwOut 108 = .ok (.iload_n 3, 1) := zo_29 (zi_at zh_dX8_throwOut_96_96 12 rfl)
theorem dX8_throwOut_109 : decode cX8_throwOut 109 = .ok (.iastore, 1) := zo_79 (zi_at zh_dX8_throwOut_96_96 13 rfl)
theorem dX8_throwOut_110 : decode cX8_throwOut 110 = .ok (.return_, 1) := zo_177 (zi_at zh_dX8_throwOut_96_96 14 rfl)
theorem dX8_worstOf_0 : decode cX8_worstOf 0 = .ok (.iconst (-1), 1) := zo_2 (zi_at zh_dX8_worstOf_0_0 0 rfl)
theorem dX8_worstOf_1 : decode cX8_worstOf 1 = .ok (.istore_n 2, 1) := zo_61 (zi_at zh_dX8_worstOf_0_0 1 rfl)
theorem dX8_worstOf_2 : decode cX8_worstOf 2 = .ok (.iconst 0, 1) := zo_3 (zi_at zh_dX8_worstOf_0_0 2 rfl)
theorem dX8_worstOf_3 : decode cX8_worstOf 3 = .ok (.istore_n 3, 1) := zo_62 (zi_at zh_dX8_worstOf_0_0 3 rfl)
theorem dX8_worstOf_4 : decode cX8_worstOf 4 = .ok (.iconst 0, 1) := zo_3 (zi_at zh_dX8_worstOf_0_0 4 rfl)
theorem dX8_worstOf_5 : decode cX8_worstOf 5 = .ok (.istore 4, 2) := zo_54 (zi_at zh_dX8_worstOf_0_0 5 rfl) (zi_at zh_dX8_worstOf_0_0 6 rfl)
theorem dX8_worstOf_7 : decode cX8_worstOf 7 = .ok (.iload 4, 2) := zo_21 (zi_at zh_dX8_worstOf_0_0 7 rfl) (zi_at zh_dX8_worstOf_0_0 8 rfl)
theorem dX8_worstOf_9 : decode cX8_worstOf 9 = .ok (.aload_n 0, 1) := zo_42 (zi_at zh_dX8_worstOf_0_0 9 rfl)
theorem dX8_worstOf_10 : decode cX8_worstOf 10 = .ok (.getfield 73, 3) := zo_180 (zi_at zh_dX8_worstOf_0_0 10 rfl) (zi_at zh_dX8_worstOf_0_0 11 rfl) (zi_at zh_dX8_worstOf_0_0 12 rfl) rfl
theorem dX8_worstOf_13 : decode cX8_worstOf 13 = .ok (.if_icmp .ge 51, 3) := zo_162 (zi_at zh_dX8_worstOf_0_0 13 rfl) (zi_at zh_dX8_worstOf_0_0 14 rfl) (zi_at zh_dX8_worstOf_0_0 15 rfl) rfl
theorem dX8_worstOf_16 : decode cX8_worstOf 16 = .ok (.aload_n 0, 1) := zo_42 (zi_at zh_dX8_worstOf_16_16 0 rfl)
theorem dX8_worstOf_17 : decode cX8_worstOf 17 = .ok (.getfield 15, 3) := zo_180 (zi_at zh_dX8_worstOf_16_16 1 rfl) (zi_at zh_dX8_worstOf_16_16 2 rfl) (zi_at zh_dX8_worstOf_16_16 3 rfl) rfl
theorem dX8_worstOf_20 : decode cX8_worstOf 20 = .ok (.iload 4, 2) := zo_21 (zi_at zh_dX8_worstOf_16_16 4 rfl) (zi_at zh_dX8_worstOf_16_16 5 rfl)
theorem dX8_worstOf_22 : decode cX8_worstOf 22 = .ok (.iload_n 1, 1) := zo_27 (zi_at zh_dX8_worstOf_16_16 6 rfl)
theorem dX8_worstOf_23 : decode cX8_worstOf 23 = .ok (.invokestatic 76, 3) := zo_184 (zi_at zh_dX8_worstOf_16_16 7 rfl) (zi_at zh_dX8_worstOf_16_16 8 rfl) (zi_at zh_dX8_worstOf_16_16 9 rfl) rfl
theorem dX8_worstOf_26 : decode cX8_worstOf 26 = .ok (.iaload, 1) := zo_46 (zi_at zh_dX8_worstOf_16_16 10 rfl)
theorem dX8_worstOf_27 : decode cX8_worstOf 27 = .ok (.istore 5, 2) := zo_54 (zi_at zh_dX8_worstOf_16_16 11 rfl) (zi_at zh_dX8_worstOf_16_16 12 rfl)
theorem dX8_worstOf_29 : decode cX8_worstOf 29 = .ok (.aload_n 0, 1) := zo_42 (zi_at zh_dX8_worstOf_16_16 13 rfl)
theorem dX8_worstOf_30 : decode cX8_worstOf 30 = .ok (.getfield 18, 3) := zo_180 (zi_at zh_dX8_worstOf_16_16 14 rfl) (zi_at zh_dX8_worstOf_16_16 15 rfl) (zi_at zh_dX8_worstOf_30_32 0 rfl) rfl
theorem dX8_worstOf_33 : decode cX8_worstOf 33 = .ok (.iload 4, 2) := zo_21 (zi_at zh_dX8_worstOf_30_32 1 rfl) (zi_at zh_dX8_worstOf_30_32 2 rfl)
theorem dX8_worstOf_35 : decode cX8_worstOf 35 = .ok (.iload_n 1, 1) := zo_27 (zi_at zh_dX8_worstOf_30_32 3 rfl)
theorem dX8_worstOf_36 : decode cX8_worstOf 36 = .ok (.invokestatic 76, 3) := zo_184 (zi_at zh_dX8_worstOf_30_32 4 rfl) (zi_at zh_dX8_worstOf_30_32 5 rfl) (zi_at zh_dX8_worstOf_30_32 6 rfl) rfl
theorem dX8_worstOf_39 : decode cX8_worstOf 39 = .ok (.baload, 1) := zo_51 (zi_at zh_dX8_worstOf_30_32 7 rfl)
theorem dX8_worstOf_40 : decode cX8_worstOf 40 = .ok (.ifCond .ne 18, 3) := zo_154 (zi_at zh_dX8_worstOf_30_32 8 rfl) (zi_at zh_dX8_worstOf_30_32 9 rfl) (zi_at zh_dX8_worstOf_30_32 10 rfl) rfl
theorem dX8_worstOf_43 : decode cX8_worstOf 43 = .ok (.iload 5, 2) := zo_21 (zi_at zh_dX8_worstOf_30_32 11 rfl) (zi_at zh_dX8_worstOf_30_32 12 rfl)
theorem dX8_worstOf_45 : decode cX8_worstOf 45 = .ok (.iload_n 3, 1) := zo_29 (zi_at zh_dX8_worstOf_30_32 13 rfl)
theorem dX8_worstOf_46 : decode cX8_worstOf 46 = .ok (.if_icmp .ge 6, 3) := zo_162 (zi_at zh_dX8_worstOf_30_32 14 rfl) (zi_at zh_dX8_worstOf_30_32 15 rfl) (zi_at zh_dX8_worstOf_46_48 0 rfl) rfl
theorem dX8_worstOf_49 : decode cX8_worstOf 49 = .ok (.goto 9, 3) := zo_167 (zi_at zh_dX8_worstOf_46_48 1 rfl) (zi_at zh_dX8_worstOf_46_48 2 rfl) (zi_at zh_dX8_worstOf_46_48 3 rfl) rfl
theorem dX8_worstOf_52 : decode cX8_worstOf 52 = .ok (.iload 4, 2) := zo_21 (zi_at zh_dX8_worstOf_46_48 4 rfl) (zi_at zh_dX8_worstOf_46_48 5 rfl)
theorem dX8_worstOf_54 : decode cX8_worstOf 54 = .ok (.istore_n 2, 1) := zo_61 (zi_at zh_dX8_worstOf_46_48 6 rfl)
theorem dX8_worstOf_55 : decode cX8_worstOf 55 = .ok (.iload 5, 2) := zo_21 (zi_at zh_dX8_worstOf_46_48 7 rfl) (zi_at zh_dX8_worstOf_46_48 8 rfl)
theorem dX8_worstOf_57 : decode cX8_worstOf 57 = .ok (.istore_n 3, 1) := zo_62 (zi_at zh_dX8_worstOf_46_48 9 rfl)
theorem dX8_worstOf_58 : decode cX8_worstOf 58 = .ok (.iinc 4 1, 3) := zo_132 (zi_at zh_dX8_worstOf_46_48 10 rfl) (zi_at zh_dX8_worstOf_46_48 11 rfl) (zi_at zh_dX8_worstOf_46_48 12 rfl) rfl
theorem dX8_worstOf_61 : decode cX8_worstOf 61 = .ok (.goto (-54), 3) := zo_167 (zi_at zh_dX8_worstOf_46_48 13 rfl) (zi_at zh_dX8_worstOf_46_48 14 rfl) (zi_at zh_dX8_worstOf_46_48 15 rfl) rfl
theorem dX8_worstOf_64 : decode cX8_worstOf 64 = .ok (.iload_n 2, 1) := zo_28 (zi_at zh_dX8_worstOf_64_64 0 rfl)
theorem dX8_worstOf_65 : decode cX8_worstOf 65 = .ok (.ireturn, 1) := zo_172 (zi_at zh_dX8_worstOf_64_64 1 rfl)
theorem hz_yX8_worstOf_1 : yX8_worstOf.cls ≠ "java/lang/invoke/MethodHandle" ∧ yX8_worstOf.cls ≠ "java/lang/invoke/VarHandle" ∧ (parseMethodDescriptor yX8_worstOf.desc).map (fun d => d.parameters.length) = some 1 := by decide +kernel

def v_worstOfX : List Cond := .code yX8_worstOf cX8_worstOf 6 (some .int) :: vA
abbrev rm_worstOfX : Room := { frames := 1, cells := 0, slots := 0, locals := 40 }
set_option maxHeartbeats 4000000 in
set_option maxRecDepth 100000 in
theorem q_worstOfX (l : Launch) (dC : Nat → ClassId) (dI : Nat → Nat → Nat) (cT : Nat → ClassId) (cf : Nat → Nat) (hC : CF cf) (ad : Nat → Nat) (E : Nat → va_E) (sz : Nat) (a0 : Int32) (hI0 : IXL cT (shC cf) (spC cf) (LC cf) ad E) (hh0 : 0 ≤ a0.toInt ∧ a0.toInt ≤ 15) (hh1 : ∀ r9 : Nat, r9 < (xi (E 4) 2).toNatClampNeg → 0 ≤ (xi (E 32) (16 * r9 + a0.toNatClampNeg)).toInt) : Met l yX8_worstOf v_worstOfX rm_worstOfX (va_Pc [.ref (ad 4), .int a0] (HWL dC dI (TYC cT) cf ad E sz)) (va_Qi (S := Unit) (fun r _ => (-1 ≤ r.toInt ∧ r.toInt ≤ 19) ∧ (∃ m9 : Int, WsI (fun r9 : Nat => (xi (E 32) (16 * r9 + a0.toNatClampNeg)).toInt) (fun r9 : Nat => xi (E 33) (16 * r9 + a0.toNatClampNeg)) (xi (E 4) 2).toNatClampNeg r.toInt m9)) (fun _ _ => True) (fun _ => False)) 0 0 (fun _ => False) := by
  obtain ⟨⟨hc0, hc1, hc2, hc3, hc4, hc5⟩, hcr⟩ := id hC
  refine Met.ofW (cc := cX8_worstOf) (maxL := 6) (ret := (some .int)) (by decide) rfl ?_
  intro p e s m args below meth c s₁ B hml hv
  obtain ⟨hargs, hsz, hP, hK, hD0, hEV⟩ := hv
  subst hsz
  have hx := B.exec
  have hb := B.bytes
  have hr := B.returns
  have hts := atoms_spec (ws := v_worstOfX) B.pre
  have hown : s.vm.findClass RX8 = some m.cls := findClass_of_methodNamed B.named
  have hlocks := B.notSynchronized
  have hinX8 : ∀ w ∈ u_ws RX8 TX8 10, w ∈ v_worstOfX := fun w h => vA_in _ w (in_X8 w h)
  have hS : va_S (fun _ : Nat => False) s.heap s.heap [] := va_S.rf
  have hD := hD0
  have hI := hI0
  have hKp : Kp (wl [] []) E E := Kp.rf
  have hl := lv_entry ([.ref (ad 4), .int a0]) (n := 6) (Nat.le_of_ble_eq_true rfl)
  obtain ⟨Q, hQ⟩ : ∃ Q, Q = MQ below (va_Qi (S := Unit) (fun r _ => (-1 ≤ r.toInt ∧ r.toInt ≤ 19) ∧ (∃ m9 : Int, WsI (fun r9 : Nat => (xi (E 32) (16 * r9 + a0.toNatClampNeg)).toInt) (fun r9 : Nat => xi (E 33) (16 * r9 + a0.toNatClampNeg)) (xi (E 4) 2).toNatClampNeg r.toInt m9)) (fun _ _ => True) (fun _ => False)) args s 0 0 (fun _ => False) := ⟨_, rfl⟩
  rw [← hQ, show entryFrame m args 6 = _ from (congrArg (fun z => entryFrame m z 6) hargs).trans (lg_entry_eq _ _ _)]
  generalize (lg_sl ([.ref (ad 4), .int a0]) ++ List.replicate (6 - (lg_sl ([.ref (ad 4), .int a0])).length) Slot.unset).toArray = ls at hl ⊢
  have hl : lv_has ls 6 [(0, .ref (ad 4)), (1, .int a0)] := hl
  have z0z : (0 : Int32).toInt = 0 := rfl
  have irc : 0 ≤ (xi (E 4) 2).toInt ∧ (xi (E 4) 2).toInt ≤ ((cf 2 : Nat) : Int) := hI0.iv 4 (mF 4 rfl) rfl (Nat.le_of_ble_eq_true rfl) rfl
  refine lv_iconst (v := -1) hx hb dX8_worstOf_0 (by decide) ?_
  refine lv_istore_n (lv' := [(2, .int (-1)), (0, .ref (ad 4)), (1, .int a0)]) hx hb dX8_worstOf_1 rfl hl (by decide) rfl (fun ls hl => ?_)
  refine lv_iconst (v := 0) hx hb dX8_worstOf_2 (by decide) ?_
  refine lv_istore_n (lv' := [(3, .int 0), (2, .int (-1)), (0, .ref (ad 4)), (1, .int a0)]) hx hb dX8_worstOf_3 rfl hl (by decide) rfl (fun ls hl => ?_)
  refine lv_iconst (v := 0) hx hb dX8_worstOf_4 (by decide) ?_
  refine lv_istore (lv' := [(4, .int 0), (3, .int 0), (2, .int (-1)), (0, .ref (ad 4)), (1, .int a0)]) hx hb dX8_worstOf_5 hl (by decide) rfl (fun ls hl => ?_)
  have hL7 : ∀ d : Nat, ∀ (v7_4 : Int32) (v7_3 : Int32) (v7_2 : Int32) (H : Heap) (locs : List Loc) (ls : Array Slot), 0 ≤ v7_4.toInt ∧ v7_4.toInt ≤ 20 → 0 ≤ v7_3.toInt ∧ v7_3.toInt ≤ 2147483647 → -1 ≤ v7_2.toInt ∧ v7_2.toInt ≤ 19 → WsI (fun r9 : Nat => (xi (E 32) (16 * r9 + a0.toNatClampNeg)).toInt) (fun r9 : Nat => xi (E 33) (16 * r9 + a0.toNatClampNeg)) v7_4.toNatClampNeg v7_2.toInt v7_3.toInt → v7_4.toInt ≤ (xi (E 4) 2).toInt → 20 - v7_4.toInt < (d : Int) → va_P (dC, dI) vwCl (WL (LC cf) ad E) H → va_S (fun _ : Nat => False) s.heap H locs → lv_has ls 6 [(4, .int v7_4), (3, .int v7_3), (2, .int v7_2), (0, .ref (ad 4)), (1, .int a0)] → W p l e (headSpec v_worstOfX rm_worstOfX).room s m args below meth c H locs 0 0 Q (F0 m 7 ls []) := by
    intro d
    induction d with
    | zero =>
      intro v7_4 v7_3 v7_2 H locs ls hv7_4 hv7_3 hv7_2 hx7_0 hx7_1 hx7_2 hP hS hl
      exact absurd hx7_2 (by first | exact ms_zu hv7_4.2 | omega)
    | succ d ih7 =>
      intro v7_4 v7_3 v7_2 H locs ls hv7_4 hv7_3 hv7_2 hx7_0 hx7_1 hx7_2 hP hS hl
      refine lv_iload hx hb dX8_worstOf_7 (lv_at hl 0 rfl) ?_
      refine lv_aload_n hx hb dX8_worstOf_9 rfl (lv_at hl 3 rfl) ?_
      have j2 : 0 ≤ (xi (E 4) 2).toInt ∧ (xi (E 4) 2).toInt ≤ ((cf 2 : Nat) : Int) := hI0.iv 4 (mF 4 rfl) rfl (Nat.le_of_ble_eq_true rfl) rfl
      have i1 : 0 ≤ (xi (E 4) 2).toInt ∧ (xi (E 4) 2).toInt ≤ 20 := by omega
      refine th_getL (ci := 9) (C := RX8) (T := TX8) (N := 10) (v := .int (xi (E 4) 2)) hx hb hts hinX8 hown hK hP hI 4 (mF 4 rfl) rfl rfl 2 (Nat.le_of_ble_eq_true rfl) (hts _ (vA_in _ _ (in_20 _ (zs4 (zs4 (zs4 (zs0))))))) (fun _ h9 => h9) (th_v0L hKp hI0 4 (mF 4 rfl) rfl (Nat.le_of_ble_eq_true rfl) rfl rfl) dX8_worstOf_10 ?_
      refine lv_icmp_ge (tgt := 64) hx hb dX8_worstOf_13 (by decide) (fun c3 => ?_) (fun c3 => ?_)
      · --13 taken
        have t4 : (xi (E 4) 2).toInt ≤ v7_4.toInt := ti_le c3
        refine lv_iload_n hx hb dX8_worstOf_64 rfl (lv_at hl 2 rfl) ?_
        rw [hQ]
        exact W.iret (v := v7_2) hx hb hr (fun t ht hW => ⟨⟨v7_2, (), rfl, ⟨hv7_2, ⟨v7_3.toInt, by have h9 := hx7_0; rw [show v7_4.toNatClampNeg = (xi (E 4) 2).toNatClampNeg by rw [tn_, tn_]; omega] at h9; exact h9⟩⟩, trivial⟩, hS.F ht⟩) hS.2.2 dX8_worstOf_65
      · --13 not
        have t5 : v7_4.toInt < (xi (E 4) 2).toInt := ti_nle c3
        have i6 : 0 ≤ v7_4.toInt ∧ v7_4.toInt ≤ 19 := iv_lt_l t5 hv7_4 i1 (by decide)
        have i7 : 1 ≤ (xi (E 4) 2).toInt ∧ (xi (E 4) 2).toInt ≤ 20 := iv_lt_r t5 hv7_4 i1 (by decide)
        refine lv_aload_n hx hb dX8_worstOf_16 rfl (lv_at hl 3 rfl) ?_
        refine th_getL (ci := 9) (C := RX8) (T := TX8) (N := 10) (v := .ref (ad 32)) hx hb hts hinX8 hown hK hP hI 4 (mF 4 rfl) rfl rfl 4 (Nat.le_of_ble_eq_true rfl) (hts _ (vA_in _ _ (in_19 _ (zs4 (zs4 (zs1 (zs0))))))) (fun _ h9 => h9) (hI.fr 4 (mF 4 rfl) rfl (Nat.le_of_ble_eq_true rfl) 32 rfl) dX8_worstOf_17 ?_
        refine lv_iload hx hb dX8_worstOf_20 (lv_at hl 0 rfl) ?_
        refine lv_iload_n hx hb dX8_worstOf_22 rfl (lv_at hl 4 rfl) ?_
        refine th_pi (va_runSN (As := [.int v7_4, .int a0]) (rest := [.ref (ad 32)]) ⟨hx, hb, hml, hown, hts⟩ (q_ccell l v7_4 a0 i6 hh0) ⟨va_cnB 2 hts (gi_0 (in_10 _ (zs16 (zs4 (zs0))))) rfl rfl rfl (hEV.1.1 _ (List.mem_of_getElem? (i := 10) rfl)) (hts _ (vA_in _ _ (in_4 _ (zs16 (zs4 (zs1 (zs1 (zs1 (zs0))))))))) hz_yX12_cell_2 ⟨Nat.le_of_ble_eq_true rfl, Nat.le_of_ble_eq_true rfl⟩, (hts _ (vA_in _ _ (in_13 _ (zs1 (zs0))))), trivial⟩ ⟨fun _ _ _ _ q => q, fun _ _ _ => ⟨rfl, trivial⟩⟩ rfl rfl hl.1 rfl (lv_room (Nat.le_of_ble_eq_true rfl)) dX8_worstOf_23 ⟨Nat.le_of_ble_eq_true rfl, Nat.le_of_ble_eq_true rfl⟩) hS (fun r8 H1 locs1 hw hk1 hS => ?_)
        have hP := ub_keep hP hk1
        generalize H1 = H at hP hS ⊢
        generalize locs1 = locs at hS ⊢
        obtain ⟨f9, f10⟩ := hw
        have n12 : vp_in r8 320 := (iv_in (n := 320) f9 (by decide))
        refine th_ialdL hx hb hK hP hI 32 (mF 32 rfl) rfl rfl n12 dX8_worstOf_26 (fun y11 ey11 => ?_)
        have ey11 := ey11.trans (hKp.ei 32 _ rfl)
        refine lv_istore (lv' := [(5, .int y11), (4, .int v7_4), (3, .int v7_3), (2, .int v7_2), (0, .ref (ad 4)), (1, .int a0)]) hx hb dX8_worstOf_27 hl (by decide) rfl (fun ls hl => ?_)
        refine lv_aload_n hx hb dX8_worstOf_29 rfl (lv_at hl 4 rfl) ?_
        refine th_getL (ci := 9) (C := RX8) (T := TX8) (N := 10) (v := .ref (ad 33)) hx hb hts hinX8 hown hK hP hI 4 (mF 4 rfl) rfl rfl 5 (Nat.le_of_ble_eq_true rfl) (hts _ (vA_in _ _ (in_19 _ (zs4 (zs4 (zs1 (zs1 (zs1 (zs0))))))))) (fun _ h9 => h9) (hI.fr 4 (mF 4 rfl) rfl (Nat.le_of_ble_eq_true rfl) 33 rfl) dX8_worstOf_30 ?_
        refine lv_iload hx hb dX8_worstOf_33 (lv_at hl 1 rfl) ?_
        refine lv_iload_n hx hb dX8_worstOf_35 rfl (lv_at hl 5 rfl) ?_
        refine th_pi (va_runSN (As := [.int v7_4, .int a0]) (rest := [.ref (ad 33)]) ⟨hx, hb, hml, hown, hts⟩ (q_ccell l v7_4 a0 i6 hh0) ⟨va_cnB 2 hts (gi_0 (in_10 _ (zs16 (zs4 (zs0))))) rfl rfl rfl (hEV.1.1 _ (List.mem_of_getElem? (i := 10) rfl)) (hts _ (vA_in _ _ (in_4 _ (zs16 (zs4 (zs1 (zs1 (zs1 (zs0))))))))) hz_yX12_cell_2 ⟨Nat.le_of_ble_eq_true rfl, Nat.le_of_ble_eq_true rfl⟩, (hts _ (vA_in _ _ (in_13 _ (zs1 (zs0))))), trivial⟩ ⟨fun _ _ _ _ q => q, fun _ _ _ => ⟨rfl, trivial⟩⟩ rfl rfl hl.1 rfl (lv_room (Nat.le_of_ble_eq_true rfl)) dX8_worstOf_36 ⟨Nat.le_of_ble_eq_true rfl, Nat.le_of_ble_eq_true rfl⟩) hS (fun r13 H1 locs1 hw hk1 hS => ?_)
        have hP := ub_keep hP hk1
        generalize H1 = H at hP hS ⊢
        generalize locs1 = locs at hS ⊢
        obtain ⟨f14, f15⟩ := hw
        have n17 : vp_in r13 320 := (iv_in (n := 320) f14 (by decide))
        refine th_zaldL hx hb hK hP hI 33 (mF 33 rfl) rfl rfl n17 dX8_worstOf_39 (fun y16 ey16 => ?_)
        have iy16 : 0 ≤ y16.toInt ∧ y16.toInt ≤ 1 := hI.el 33 (mF 33 rfl) rfl n17 (fun _ => rfl) ey16
        have ey16 := ey16.trans (hKp.ei 33 _ rfl)
        refine lv_if_ne (tgt := 58) hx hb dX8_worstOf_40 (by decide) (fun c18 => ?_) (fun c18 => ?_)
        · --40 taken
          have t19 : ¬ y16.toInt = 0 := ti_ne c18
          have i20 : 1 ≤ y16.toInt ∧ y16.toInt ≤ 1 := iv_ne_l t19 iy16 (il_ 0)
          obtain ⟨y21, ey21⟩ : ∃ y : Int32, y = v7_4 + (1 : Int32) := ⟨_, rfl⟩
          obtain ⟨ty21, iy21⟩ := ti_add (e := 1) (f := 20) i6 ln_1 ey21 (by decide)
          have ty21 : y21.toInt = v7_4.toInt + 1 := ty21
          have iy21 : 1 ≤ y21.toInt ∧ y21.toInt ≤ 20 := iy21
          refine lv_iinc (v := y21) (lv' := [(4, .int y21), (5, .int y11), (3, .int v7_3), (2, .int v7_2), (0, .ref (ad 4)), (1, .int a0)]) hx hb dX8_worstOf_58 hl (k := 1) rfl (by rw [ey21]; rfl) (by decide) rfl (fun ls hl => ?_)
          refine lv_goto (tgt := 7) hx hb dX8_worstOf_61 (by decide) ?_
          exact ih7 y21 v7_3 v7_2 _ _ _ (iv_w iy21 (by decide)) hv7_3 hv7_2 (hx7_0.out (show y16 = xi (E 33) (16 * v7_4.toNatClampNeg + a0.toNatClampNeg) by rw [ey16, (show r13.toNatClampNeg = 16 * v7_4.toNatClampNeg + a0.toNatClampNeg by rw [tn_ r13, tn_ v7_4, tn_ a0]; omega)]) (by omega) (by rw [tn_ y21, tn_ v7_4]; omega)) (by omega) (by first | exact ms_su hx7_2 ty21 (by decide) | omega) hP hS (lv_sub hl [0, 2, 3, 4, 5] rfl)
        · --40 not
          have t22 : y16.toInt = 0 := ti_eq c18
          have i23 : 0 ≤ y16.toInt ∧ y16.toInt ≤ 0 := iv_eqi t22 iy16 (il_ 0) (by decide)
          refine lv_iload hx hb dX8_worstOf_43 (lv_at hl 0 rfl) ?_
          refine lv_iload_n hx hb dX8_worstOf_45 rfl (lv_at hl 2 rfl) ?_
          refine lv_icmp_ge (tgt := 52) hx hb dX8_worstOf_46 (by decide) (fun c24 => ?_) (fun c24 => ?_)
          · --46 taken
            have t25 : v7_3.toInt ≤ y11.toInt := ti_le c24
            have i26 : 0 ≤ y11.toInt ∧ y11.toInt ≤ 2147483647 := iv_le_r t25 hv7_3 (iv_all _) (by decide)
            refine lv_iload hx hb dX8_worstOf_52 (lv_at hl 1 rfl) ?_
            refine lv_istore_n (lv' := [(2, .int v7_4), (5, .int y11), (4, .int v7_4), (3, .int v7_3), (0, .ref (ad 4)), (1, .int a0)]) hx hb dX8_worstOf_54 rfl hl (by decide) rfl (fun ls hl => ?_)
            refine lv_iload hx hb dX8_worstOf_55 (lv_at hl 1 rfl) ?_
            refine lv_istore_n (lv' := [(3, .int y11), (2, .int v7_4), (5, .int y11), (4, .int v7_4), (0, .ref (ad 4)), (1, .int a0)]) hx hb dX8_worstOf_57 rfl hl (by decide) rfl (fun ls hl => ?_)
            obtain ⟨y27, ey27⟩ : ∃ y : Int32, y = v7_4 + (1 : Int32) := ⟨_, rfl⟩
            obtain ⟨ty27, iy27⟩ := ti_add (e := 1) (f := 20) i6 ln_1 ey27 (by decide)
            have ty27 : y27.toInt = v7_4.toInt + 1 := ty27
            have iy27 : 1 ≤ y27.toInt ∧ y27.toInt ≤ 20 := iy27
            refine lv_iinc (v := y27) (lv' := [(4, .int y27), (3, .int y11), (2, .int v7_4), (5, .int y11), (0, .ref (ad 4)), (1, .int a0)]) hx hb dX8_worstOf_58 hl (k := 3) rfl (by rw [ey27]; rfl) (by decide) rfl (fun ls hl => ?_)
            refine lv_goto (tgt := 7) hx hb dX8_worstOf_61 (by decide) ?_
            exact ih7 y27 y11 v7_4 _ _ _ (iv_w iy27 (by decide)) i26 (iv_w i6 (by decide)) (hx7_0.new (show y16 = xi (E 33) (16 * v7_4.toNatClampNeg + a0.toNatClampNeg) by rw [ey16, (show r13.toNatClampNeg = 16 * v7_4.toNatClampNeg + a0.toNatClampNeg by rw [tn_ r13, tn_ v7_4, tn_ a0]; omega)]) (by omega) (Or.inr (show v7_3.toInt ≤ (xi (E 32) (16 * v7_4.toNatClampNeg + a0.toNatClampNeg)).toInt by rw [← (show y11 = xi (E 32) (16 * v7_4.toNatClampNeg + a0.toNatClampNeg) by rw [ey11, (show r8.toNatClampNeg = 16 * v7_4.toNatClampNeg + a0.toNatClampNeg by rw [tn_ r8, tn_ v7_4, tn_ a0]; omega)])]; omega)) (by rw [tn_ v7_4]; omega) (congrArg Int32.toInt (show y11 = xi (E 32) (16 * v7_4.toNatClampNeg + a0.toNatClampNeg) by rw [ey11, (show r8.toNatClampNeg = 16 * v7_4.toNatClampNeg + a0.toNatClampNeg by rw [tn_ r8, tn_ v7_4, tn_ a0]; omega)])) (by rw [tn_ y27, tn_ v7_4]; omega)) (by omega) (by first | exact ms_su hx7_2 ty27 (by decide) | omega) hP hS (lv_sub hl [0, 1, 2, 4, 5] rfl)
          · --46 not
            have t28 : y11.toInt < v7_3.toInt := ti_nle c24
            have i29 : -2147483648 ≤ y11.toInt ∧ y11.toInt ≤ 2147483646 := iv_lt_l t28 (iv_all _) hv7_3 (by decide)
            refine lv_goto (tgt := 58) hx hb dX8_worstOf_49 (by decide) ?_
            obtain ⟨y30, ey30⟩ : ∃ y : Int32, y = v7_4 + (1 : Int32) := ⟨_, rfl⟩
            obtain ⟨ty30, iy30⟩ := ti_add (e := 1) (f := 20) i6 ln_1 ey30 (by decide)
            have ty30 : y30.toInt = v7_4.toInt + 1 := ty30
            have iy30 : 1 ≤ y30.toInt ∧ y30.toInt ≤ 20 := iy30
            refine lv_iinc (v := y30) (lv' := [(4, .int y30), (5, .int y11), (3, .int v7_3), (2, .int v7_2), (0, .ref (ad 4)), (1, .int a0)]) hx hb dX8_worstOf_58 hl (k := 1) rfl (by rw [ey30]; rfl) (by decide) rfl (fun ls hl => ?_)
            refine lv_goto (tgt := 7) hx hb dX8_worstOf_61 (by decide) ?_
            exact ih7 y30 v7_3 v7_2 _ _ _ (iv_w iy30 (by decide)) hv7_3 hv7_2 (hx7_0.low (hh1 _ (by rw [tn_, tn_]; omega)) (show (xi (E 32) (16 * v7_4.toNatClampNeg + a0.toNatClampNeg)).toInt < v7_3.toInt by rw [← (show y11 = xi (E 32) (16 * v7_4.toNatClampNeg + a0.toNatClampNeg) by rw [ey11, (show r8.toNatClampNeg = 16 * v7_4.toNatClampNeg + a0.toNatClampNeg by rw [tn_ r8, tn_ v7_4, tn_ a0]; omega)])]; omega) (by rw [tn_ y30, tn_ v7_4]; omega)) (by omega) (by first | exact ms_su hx7_2 ty30 (by decide) | omega) hP hS (lv_sub hl [0, 2, 3, 4, 5] rfl)
  exact hL7 (21) (0 : Int32) (0 : Int32) (-1 : Int32) _ _ _ (iv_w ln_0 (by decide)) (iv_w ln_0 (by decide)) (iv_w ln_m1 (by decide)) (WsI.start (show (-1 : Int32).toInt = -1 from rfl) (show (0 : Int32).toInt = 0 from rfl)) (by omega) (by have h9 := ln_0; first | exact ms_bu h9.1 (by decide) | omega) hP hS (lv_sub hl [0, 1, 2, 3, 4] rfl)
def v_throwOutX : List Cond := .code yX8_throwOut cX8_throwOut 6 none :: vA
abbrev rm_throwOutX : Room := { frames := 2, cells := 0, slots := 0, locals := 80 }
def w_throwOutX : Nat → Nat → Bool := wl [33, 35] []
set_option maxHeartbeats 4000000 in
set_option maxRecDepth 100000 in
theorem q_throwOutX (l : Launch) (dC : Nat → ClassId) (dI : Nat → Nat → Nat) (cT : Nat → ClassId) (cf : Nat → Nat) (hC : CF cf) (ad : Nat → Nat) (E : Nat → va_E) (sz : Nat) (a0 : Int32) (a1 : Int32) (hI0 : IXL cT (shC cf) (spC cf) (LC cf) ad E) (hh0 : 0 ≤ a0.toInt ∧ a0.toInt ≤ 15) (hh1 : 0 ≤ a1.toInt ∧ a1.toInt ≤ 19) (hh2 : ∀ r9 : Nat, r9 < (xi (E 4) 2).toNatClampNeg → 0 ≤ (xi (E 32) (16 * r9 + a0.toNatClampNeg)).toInt ∧ (xi (E 32) (16 * r9 + a0.toNatClampNeg)).toInt ≤ 10000) (hh3 : a1.toInt ≤ 0 ∨ a1.toInt < (xi (E 4) 2).toInt) : Met l yX8_throwOut v_throwOutX rm_throwOutX (va_Pc [.ref (ad 4), .int a0, .int a1] (HWL dC dI (TYC cT) cf ad E sz)) (va_Qv (S := Nat → va_E) (fun u => IXL cT (shC cf) (spC cf) (LC cf) ad u ∧ Kp w_throwOutX E u ∧ ((ThR (fun r9 : Nat => (xi (E 32) (16 * r9 + a0.toNatClampNeg)).toInt) (xi (E 4) 2).toNatClampNeg a1.toNatClampNeg (fun r9 : Nat => xi (u 33) (16 * r9 + a0.toNatClampNeg))) ∧ (Frm (xi (E 33)) (xi (u 33)) a0.toNatClampNeg) ∧ (∃ t9 : Int32, xi (u 35) = upd (xi (E 35)) a0.toNatClampNeg t9 ∧ t9.toInt = sumF (ttF (fun r9 : Nat => (xi (E 32) (16 * r9 + a0.toNatClampNeg)).toInt) (fun r9 : Nat => xi (u 33) (16 * r9 + a0.toNatClampNeg))) (xi (E 4) 2).toNatClampNeg))) (HBL dC dI (LC cf) ad) (va_A (WL (LC cf) ad E) sz)) 0 0 (va_A (WL (LC cf) ad E) sz) := by
  obtain ⟨⟨hc0, hc1, hc2, hc3, hc4, hc5⟩, hcr⟩ := id hC
  refine Met.ofW (cc := cX8_throwOut) (maxL := 6) (ret := none) (by decide) rfl ?_
  intro p e s m args below meth c s₁ B hml hv
  obtain ⟨hargs, hsz, hP, hK, hD0, hEV⟩ := hv
  subst hsz
  have hx := B.exec
  have hb := B.bytes
  have hr := B.returns
  have hts := atoms_spec (ws := v_throwOutX) B.pre
  have hown : s.vm.findClass RX8 = some m.cls := findClass_of_methodNamed B.named
  have hlocks := B.notSynchronized
  have hinX8 : ∀ w ∈ u_ws RX8 TX8 10, w ∈ v_throwOutX := fun w h => vA_in _ w (in_X8 w h)
  generalize hAe : va_A (WL (LC cf) ad E) s.heap.size = A at hEV ⊢
  have hA : ∀ q : Nat, s.heap.size ≤ q → A q := fun q h => by rw [← hAe]; exact Or.inr h
  have hD : va_D A (WL (LC cf) ad E) := by rw [← hAe]; exact hD0.self
  have hS : va_S A s.heap s.heap [] := va_S.rf
  have hI := hI0
  have hKp : Kp w_throwOutX E E := Kp.rf
  have hl := lv_entry ([.ref (ad 4), .int a0, .int a1]) (n := 6) (Nat.le_of_ble_eq_true rfl)
  obtain ⟨Q, hQ⟩ : ∃ Q, Q = MQ below (va_Qv (S := Nat → va_E) (fun u => IXL cT (shC cf) (spC cf) (LC cf) ad u ∧ Kp w_throwOutX E u ∧ ((ThR (fun r9 : Nat => (xi (E 32) (16 * r9 + a0.toNatClampNeg)).toInt) (xi (E 4) 2).toNatClampNeg a1.toNatClampNeg (fun r9 : Nat => xi (u 33) (16 * r9 + a0.toNatClampNeg))) ∧ (Frm (xi (E 33)) (xi (u 33)) a0.toNatClampNeg) ∧ (∃ t9 : Int32, xi (u 35) = upd (xi (E 35)) a0.toNatClampNeg t9 ∧ t9.toInt = sumF (ttF (fun r9 : Nat => (xi (E 32) (16 * r9 + a0.toNatClampNeg)).toInt) (fun r9 : Nat => xi (u 33) (16 * r9 + a0.toNatClampNeg))) (xi (E 4) 2).toNatClampNeg))) (HBL dC dI (LC cf) ad) (A)) args s 0 0 (A) := ⟨_, rfl⟩
  rw [← hQ, show entryFrame m args 6 = _ from (congrArg (fun z => entryFrame m z 6) hargs).trans (lg_entry_eq _ _ _)]
  generalize (lg_sl ([.ref (ad 4), .int a0, .int a1]) ++ List.replicate (6 - (lg_sl ([.ref (ad 4), .int a0, .int a1])).length) Slot.unset).toArray = ls at hl ⊢
  have hl : lv_has ls 6 [(0, .ref (ad 4)), (1, .int a0), (2, .int a1)] := hl
  have z0z : (0 : Int32).toInt = 0 := rfl
  have irc : 0 ≤ (xi (E 4) 2).toInt ∧ (xi (E 4) 2).toInt ≤ ((cf 2 : Nat) : Int) := hI0.iv 4 (mF 4 rfl) rfl (Nat.le_of_ble_eq_true rfl) rfl
  obtain ⟨g1, hg1⟩ : ∃ g, xi (E 33) = g := ⟨_, rfl⟩
  obtain ⟨g2, hg2⟩ : ∃ g, xi (E 35) = g := ⟨_, rfl⟩
  refine lv_iconst (v := 0) hx hb dX8_throwOut_0 (by decide) ?_
  refine lv_istore_n (lv' := [(3, .int 0), (0, .ref (ad 4)), (1, .int a0), (2, .int a1)]) hx hb dX8_throwOut_1 rfl hl (by decide) rfl (fun ls hl => ?_)
  refine lv_iconst (v := 0) hx hb dX8_throwOut_2 (by decide) ?_
  refine lv_istore (lv' := [(4, .int 0), (3, .int 0), (0, .ref (ad 4)), (1, .int a0), (2, .int a1)]) hx hb dX8_throwOut_3 hl (by decide) rfl (fun ls hl => ?_)
  have hL5 : ∀ d : Nat, ∀ (g5_33 : Nat → Int32) (v5_4 : Int32) (v5_3 : Int32) (E5_ : Nat → va_E) (H : Heap) (locs : List Loc) (ls : Array Slot), 0 ≤ v5_4.toInt ∧ v5_4.toInt ≤ 20 → 0 ≤ v5_3.toInt ∧ v5_3.toInt ≤ 200000 → (∀ r9 : Nat, r9 < v5_4.toNatClampNeg → g5_33 (16 * r9 + a0.toNatClampNeg) = 0) → Frm g1 g5_33 a0.toNatClampNeg → v5_3.toInt = sumF (fun r9 : Nat => (xi (E 32) (16 * r9 + a0.toNatClampNeg)).toInt) v5_4.toNatClampNeg → 0 ≤ v5_3.toInt ∧ v5_3.toInt ≤ 10000 * v5_4.toInt → v5_4.toInt ≤ (xi (E 4) 2).toInt → 20 - v5_4.toInt < (d : Int) → IXL cT (shC cf) (spC cf) (LC cf) ad E5_ → Kp w_throwOutX E E5_ → xi (E5_ 33) = g5_33 → xi (E5_ 35) = g2 → va_P (dC, dI) vwCl (WL (LC cf) ad E5_) H → va_S A s.heap H locs → lv_has ls 6 [(4, .int v5_4), (3, .int v5_3), (0, .ref (ad 4)), (1, .int a0), (2, .int a1)] → W p l e (headSpec v_throwOutX rm_throwOutX).room s m args below meth c H locs 0 0 Q (F0 m 5 ls []) := by
    intro d
    induction d with
    | zero =>
      intro g5_33 v5_4 v5_3 E5_ H locs ls hv5_4 hv5_3 hx5_0 hx5_1 hx5_2 hx5_3 hx5_4 hx5_5 hI hKp hr5_33 hr5_35 hP hS hl
      exact absurd hx5_5 (by first | exact ms_zu hv5_4.2 | omega)
    | succ d ih5 =>
      intro g5_33 v5_4 v5_3 E5_ H locs ls hv5_4 hv5_3 hx5_0 hx5_1 hx5_2 hx5_3 hx5_4 hx5_5 hI hKp hr5_33 hr5_35 hP hS hl
      refine lv_iload hx hb dX8_throwOut_5 (lv_at hl 0 rfl) ?_
      refine lv_aload_n hx hb dX8_throwOut_7 rfl (lv_at hl 2 rfl) ?_
      have j4 : 0 ≤ (xi (E 4) 2).toInt ∧ (xi (E 4) 2).toInt ≤ ((cf 2 : Nat) : Int) := hI0.iv 4 (mF 4 rfl) rfl (Nat.le_of_ble_eq_true rfl) rfl
      have i3 : 0 ≤ (xi (E 4) 2).toInt ∧ (xi (E 4) 2).toInt ≤ 20 := by omega
      refine th_getL (ci := 9) (C := RX8) (T := TX8) (N := 10) (v := .int (xi (E 4) 2)) hx hb hts hinX8 hown hK hP hI 4 (mF 4 rfl) rfl rfl 2 (Nat.le_of_ble_eq_true rfl) (hts _ (vA_in _ _ (in_20 _ (zs4 (zs4 (zs4 (zs0))))))) (fun _ h9 => h9) (th_v0L hKp hI0 4 (mF 4 rfl) rfl (Nat.le_of_ble_eq_true rfl) rfl rfl) dX8_throwOut_8 ?_
      refine lv_icmp_ge (tgt := 46) hx hb dX8_throwOut_11 (by decide) (fun c5 => ?_) (fun c5 => ?_)
      · --11 taken
        have t6 : (xi (E 4) 2).toInt ≤ v5_4.toInt := ti_le c5
        have k7 : v5_4.toNatClampNeg = (xi (E 4) 2).toNatClampNeg := by rw [tn_, tn_]; omega
        refine lv_iconst (v := 0) hx hb dX8_throwOut_46 (by decide) ?_
        refine lv_istore (lv' := [(4, .int 0), (3, .int v5_3), (0, .ref (ad 4)), (1, .int a0), (2, .int a1)]) hx hb dX8_throwOut_47 hl (by decide) rfl (fun ls hl => ?_)
        have hL49 : ∀ d : Nat, ∀ (g49_33 : Nat → Int32) (v49_4 : Int32) (v49_3 : Int32) (E49_ : Nat → va_E) (H : Heap) (locs : List Loc) (ls : Array Slot), 0 ≤ v49_4.toInt ∧ v49_4.toInt ≤ 19 → -10000 ≤ v49_3.toInt ∧ v49_3.toInt ≤ 200000 → ThR (fun r9 : Nat => (xi (E 32) (16 * r9 + a0.toNatClampNeg)).toInt) (xi (E 4) 2).toNatClampNeg v49_4.toNatClampNeg (fun r9 : Nat => g49_33 (16 * r9 + a0.toNatClampNeg)) → Frm g1 g49_33 a0.toNatClampNeg → v49_3.toInt = sumF (ttF (fun r9 : Nat => (xi (E 32) (16 * r9 + a0.toNatClampNeg)).toInt) (fun r9 : Nat => g49_33 (16 * r9 + a0.toNatClampNeg))) (xi (E 4) 2).toNatClampNeg → v49_4.toInt ≤ a1.toInt → 19 - v49_4.toInt < (d : Int) → IXL cT (shC cf) (spC cf) (LC cf) ad E49_ → Kp w_throwOutX E E49_ → xi (E49_ 33) = g49_33 → xi (E49_ 35) = g2 → va_P (dC, dI) vwCl (WL (LC cf) ad E49_) H → va_S A s.heap H locs → lv_has ls 6 [(4, .int v49_4), (3, .int v49_3), (0, .ref (ad 4)), (1, .int a0), (2, .int a1)] → W p l e (headSpec v_throwOutX rm_throwOutX).room s m args below meth c H locs 0 0 Q (F0 m 49 ls []) := by
          intro d
          induction d with
          | zero =>
            intro g49_33 v49_4 v49_3 E49_ H locs ls hv49_4 hv49_3 hx49_0 hx49_1 hx49_2 hx49_3 hx49_4 hI hKp hr49_33 hr49_35 hP hS hl
            exact absurd hx49_4 (by first | exact ms_zu hv49_4.2 | omega)
          | succ d ih49 =>
            intro g49_33 v49_4 v49_3 E49_ H locs ls hv49_4 hv49_3 hx49_0 hx49_1 hx49_2 hx49_3 hx49_4 hI hKp hr49_33 hr49_35 hP hS hl
            refine lv_iload hx hb dX8_throwOut_49 (lv_at hl 0 rfl) ?_
            refine lv_iload_n hx hb dX8_throwOut_51 rfl (lv_at hl 4 rfl) ?_
            refine lv_icmp_ge (tgt := 103) hx hb dX8_throwOut_52 (by decide) (fun c8 => ?_) (fun c8 => ?_)
            · --52 taken
              have t9 : a1.toInt ≤ v49_4.toInt := ti_le c8
              refine lv_aload_n hx hb dX8_throwOut_103 rfl (lv_at hl 2 rfl) ?_
              refine th_getL (ci := 9) (C := RX8) (T := TX8) (N := 10) (v := .ref (ad 35)) hx hb hts hinX8 hown hK hP hI 4 (mF 4 rfl) rfl rfl 7 (Nat.le_of_ble_eq_true rfl) (hts _ (vA_in _ _ (in_19 _ (zs4 (zs4 (zs4 (zs1 (zs0)))))))) (fun _ h9 => h9) (hI.fr 4 (mF 4 rfl) rfl (Nat.le_of_ble_eq_true rfl) 35 rfl) dX8_throwOut_104 ?_
              refine lv_iload_n hx hb dX8_throwOut_107 rfl (lv_at hl 3 rfl) ?_
              refine lv_iload_n hx hb dX8_throwOut_108 rfl (lv_at hl 1 rfl) ?_
              have n10 : vp_in a0 16 := (iv_in (n := 16) hh0 (by decide))
              refine th_iastL hx hb hK hP (WL_D hD) hS hI 35 (mF 35 rfl) rfl rfl n10 (okI rfl (iv_w hv49_3 (by decide))) dX8_throwOut_109 (fun H locs E11 pw12 hI hP hS => ?_)
              have hKp := hKp.pw pw12 rfl
              obtain ⟨g13, eg13⟩ : ∃ z : Nat → Int32, z = upd g2 a0.toNatClampNeg v49_3 := ⟨_, rfl⟩
              have hg13 : xi (E11 35) = g13 := by rw [pw12.eu, hr49_35, eg13]
              rw [hQ]
              exact W.vret hx hb hr (fun t ht hW => ⟨⟨E11, rfl, ⟨hI, hKp, ⟨(by rw [(show xi (E11 33) = g49_33 from ((pw12.ef 33 (Nat.ne_of_beq_eq_false rfl)).trans hr49_33)), show a1.toNatClampNeg = v49_4.toNatClampNeg by rw [tn_, tn_]; omega]; exact hx49_0), (by rw [(show xi (E11 33) = g49_33 from ((pw12.ef 33 (Nat.ne_of_beq_eq_false rfl)).trans hr49_33)), (show xi (E 33) = g1 from hg1)]; exact hx49_1), ⟨v49_3, (by rw [show xi (E11 35) = g13 from hg13, show xi (E 35) = g2 from hg2]; exact eg13), (by rw [(show xi (E11 33) = g49_33 from ((pw12.ef 33 (Nat.ne_of_beq_eq_false rfl)).trans hr49_33))]; exact hx49_2)⟩⟩⟩, by show va_P (dC, dI) vwCl (WL (LC cf) ad E11) t.heap; rw [ht]; exact hP⟩, hS.F ht⟩) hS.2.2 dX8_throwOut_110
            · --52 not
              have t14 : v49_4.toInt < a1.toInt := ti_nle c8
              have i15 : 0 ≤ v49_4.toInt ∧ v49_4.toInt ≤ 18 := iv_lt_l t14 hv49_4 hh1 (by decide)
              have i16 : 1 ≤ a1.toInt ∧ a1.toInt ≤ 19 := iv_lt_r t14 hv49_4 hh1 (by decide)
              refine lv_aload_n hx hb dX8_throwOut_55 rfl (lv_at hl 2 rfl) ?_
              refine lv_iload_n hx hb dX8_throwOut_56 rfl (lv_at hl 3 rfl) ?_
              refine th_riL (va_runV (As := [.int a0]) (rest := []) ⟨hx, hb, hml, hown, hts⟩ (q_worstOfX l dC dI cT cf hC ad E49_ H.size a0 hI hh0 (by (try rw [hKp.ei 4 2 rfl]); (try rw [hKp.ef 32 (fun _ => rfl)]); intro r9 h9; (try rw [show xi (E49_ 32) = xi (E 32) from hKp.ef 32 (fun _ => rfl)]); (try rw [show xi (E49_ 4) 2 = (xi (E 4) 2) from hKp.ei 4 2 rfl] at h9); exact (hh2 r9 h9).1)) (cwV 1 hts (gi_V (in_22 _ (zs1 (zs0))) (in_22 _ (zs1 (zs1 (zs0)))) (in_22 _ (zs1 (zs1 (zs1 (zs0))))) (in_18 _ (zs16 (zs16 (zs0)))) (in_22 _ (zs4 (zs0)))) rfl rfl rfl ⟨rfl, hz_yX8_worstOf_1⟩ ⟨Nat.le_of_ble_eq_true rfl, Nat.le_of_ble_eq_true rfl⟩) ⟨HWL_bl, va_recv hK hP (ci := 9) (q0 := posL 4 (LC cf)) rfl (hI.ob 4 (mF 4 rfl) rfl), (HWL_wi hP hK (WL_D hD) hS hA hEV)⟩ rfl rfl hl.1 rfl (lv_room (Nat.le_of_ble_eq_true rfl)) dX8_throwOut_57 ⟨Nat.le_of_ble_eq_true rfl, Nat.le_of_ble_eq_true rfl⟩) hS hP (fun r17 H locs hw hP hS => ?_)
              obtain ⟨f18, f19⟩ := hw
              try rw [hKp.ei 4 2 rfl] at f19
              try rw [hKp.ef 32 (fun _ => rfl)] at f19
              have k20 : ∃ m9 : Int, WsI (fun r9 : Nat => (xi (E 32) (16 * r9 + a0.toNatClampNeg)).toInt) (fun r9 : Nat => g49_33 (16 * r9 + a0.toNatClampNeg)) (xi (E 4) 2).toNatClampNeg r17.toInt m9 := by have h9 := f19; rw [show xi (E49_ 33) = g49_33 from hr49_33] at h9; exact h9
              have hKl : v49_4.toNatClampNeg < (xi (E 4) 2).toNatClampNeg := by rw [tn_, tn_]; omega
              refine lv_istore (lv' := [(5, .int r17), (4, .int v49_4), (3, .int v49_3), (0, .ref (ad 4)), (1, .int a0), (2, .int a1)]) hx hb dX8_throwOut_60 hl (by decide) rfl (fun ls hl => ?_)
              refine lv_iload hx hb dX8_throwOut_62 (lv_at hl 0 rfl) ?_
              refine lv_iconst (v := -1) hx hb dX8_throwOut_64 (by decide) ?_
              refine lv_icmp_ne (tgt := 71) hx hb dX8_throwOut_65 (by decide) (fun c21 => ?_) (fun c21 => ?_)
              · --65 taken
                have t22 : ¬ r17.toInt = -1 := ti_ne c21
                have i23 : 0 ≤ r17.toInt ∧ r17.toInt ≤ 19 := iv_ne_l t22 f18 (il_ (-1))
                have k24 : (r17.toNatClampNeg < (xi (E 4) 2).toNatClampNeg ∧ g49_33 (16 * r17.toNatClampNeg + a0.toNatClampNeg) = 0) ∧ ∀ r8, r8 < (xi (E 4) 2).toNatClampNeg → g49_33 (16 * r8 + a0.toNatClampNeg) = 0 → (xi (E 32) (16 * r8 + a0.toNatClampNeg)).toInt < (xi (E 32) (16 * r17.toNatClampNeg + a0.toNatClampNeg)).toInt ∨ ((xi (E 32) (16 * r8 + a0.toNatClampNeg)).toInt = (xi (E 32) (16 * r17.toNatClampNeg + a0.toNatClampNeg)).toInt ∧ r8 ≤ r17.toNatClampNeg) := WsI.use k20 (by omega)
                refine lv_aload_n hx hb dX8_throwOut_71 rfl (lv_at hl 3 rfl) ?_
                refine th_getL (ci := 9) (C := RX8) (T := TX8) (N := 10) (v := .ref (ad 33)) hx hb hts hinX8 hown hK hP hI 4 (mF 4 rfl) rfl rfl 5 (Nat.le_of_ble_eq_true rfl) (hts _ (vA_in _ _ (in_19 _ (zs4 (zs4 (zs1 (zs1 (zs1 (zs0))))))))) (fun _ h9 => h9) (hI.fr 4 (mF 4 rfl) rfl (Nat.le_of_ble_eq_true rfl) 33 rfl) dX8_throwOut_72 ?_
                refine lv_iload hx hb dX8_throwOut_75 (lv_at hl 0 rfl) ?_
                refine lv_iload_n hx hb dX8_throwOut_77 rfl (lv_at hl 4 rfl) ?_
                refine th_pi (va_runSN (As := [.int r17, .int a0]) (rest := [.ref (ad 33)]) ⟨hx, hb, hml, hown, hts⟩ (q_ccell l r17 a0 i23 hh0) ⟨va_cnB 2 hts (gi_0 (in_10 _ (zs16 (zs4 (zs0))))) rfl rfl rfl (hEV.1.1 _ (List.mem_of_getElem? (i := 10) rfl)) (hts _ (vA_in _ _ (in_4 _ (zs16 (zs4 (zs1 (zs1 (zs1 (zs0))))))))) hz_yX12_cell_2 ⟨Nat.le_of_ble_eq_true rfl, Nat.le_of_ble_eq_true rfl⟩, (hts _ (vA_in _ _ (in_13 _ (zs1 (zs0))))), trivial⟩ ⟨fun _ _ _ _ q => q, fun _ _ _ => ⟨rfl, trivial⟩⟩ rfl rfl hl.1 rfl (lv_room (Nat.le_of_ble_eq_true rfl)) dX8_throwOut_78 ⟨Nat.le_of_ble_eq_true rfl, Nat.le_of_ble_eq_true rfl⟩) hS (fun r25 H1 locs1 hw hk1 hS => ?_)
                have hP := ub_keep hP hk1
                generalize H1 = H at hP hS ⊢
                generalize locs1 = locs at hS ⊢
                obtain ⟨f26, f27⟩ := hw
                refine lv_iconst (v := 1) hx hb dX8_throwOut_81 (by decide) ?_
                have n28 : vp_in r25 320 := (iv_in (n := 320) f26 (by decide))
                refine th_zastL hx hb hK hP (WL_D hD) hS hI 33 (mF 33 rfl) rfl rfl n28 (iv_w ln_1 (by decide)) (okI rfl (iv_w ln_1 (by decide))) dX8_throwOut_82 (fun H locs E29 pw30 hI hP hS => ?_)
                have hKp := hKp.pw pw30 rfl
                obtain ⟨g31, eg31⟩ : ∃ z : Nat → Int32, z = upd g49_33 r25.toNatClampNeg (1 : Int32) := ⟨_, rfl⟩
                have hg31 : xi (E29 33) = g31 := by rw [pw30.eu, hr49_33, eg31]
                refine lv_iload_n hx hb dX8_throwOut_83 rfl (lv_at hl 2 rfl) ?_
                refine lv_aload_n hx hb dX8_throwOut_84 rfl (lv_at hl 3 rfl) ?_
                refine th_getL (ci := 9) (C := RX8) (T := TX8) (N := 10) (v := .ref (ad 32)) hx hb hts hinX8 hown hK hP hI 4 (mF 4 rfl) rfl rfl 4 (Nat.le_of_ble_eq_true rfl) (hts _ (vA_in _ _ (in_19 _ (zs4 (zs4 (zs1 (zs0))))))) (fun _ h9 => h9) (hI.fr 4 (mF 4 rfl) rfl (Nat.le_of_ble_eq_true rfl) 32 rfl) dX8_throwOut_85 ?_
                refine lv_iload hx hb dX8_throwOut_88 (lv_at hl 0 rfl) ?_
                refine lv_iload_n hx hb dX8_throwOut_90 rfl (lv_at hl 4 rfl) ?_
                refine th_pi (va_runSN (As := [.int r17, .int a0]) (rest := [.ref (ad 32), .int v49_3]) ⟨hx, hb, hml, hown, hts⟩ (q_ccell l r17 a0 i23 hh0) ⟨va_cnB 2 hts (gi_0 (in_10 _ (zs16 (zs4 (zs0))))) rfl rfl rfl (hEV.1.1 _ (List.mem_of_getElem? (i := 10) rfl)) (hts _ (vA_in _ _ (in_4 _ (zs16 (zs4 (zs1 (zs1 (zs1 (zs0))))))))) hz_yX12_cell_2 ⟨Nat.le_of_ble_eq_true rfl, Nat.le_of_ble_eq_true rfl⟩, (hts _ (vA_in _ _ (in_13 _ (zs1 (zs0))))), trivial⟩ ⟨fun _ _ _ _ q => q, fun _ _ _ => ⟨rfl, trivial⟩⟩ rfl rfl hl.1 rfl (lv_room (Nat.le_of_ble_eq_true rfl)) dX8_throwOut_91 ⟨Nat.le_of_ble_eq_true rfl, Nat.le_of_ble_eq_true rfl⟩) hS (fun r32 H1 locs1 hw hk1 hS => ?_)
                have hP := ub_keep hP hk1
                generalize H1 = H at hP hS ⊢
                generalize locs1 = locs at hS ⊢
                obtain ⟨f33, f34⟩ := hw
                have n36 : vp_in r32 320 := (iv_in (n := 320) f33 (by decide))
                refine th_ialdL hx hb hK hP hI 32 (mF 32 rfl) rfl rfl n36 dX8_throwOut_94 (fun y35 ey35 => ?_)
                have ey35 := ey35.trans (hKp.ei 32 _ rfl)
                have k37 : 0 ≤ y35.toInt ∧ y35.toInt ≤ 10000 := by have h7 := hh2 r17.toNatClampNeg k24.1.1; rw [← (show r32.toNatClampNeg = 16 * r17.toNatClampNeg + a0.toNatClampNeg by rw [tn_ r32, tn_ r17, tn_ a0]; omega), ← ey35] at h7; exact h7
                have i38 : 0 ≤ v49_3.toInt ∧ v49_3.toInt ≤ 200000 := by have h9 := tt_b (p := (fun r9 : Nat => (xi (E 32) (16 * r9 + a0.toNatClampNeg)).toInt)) (t := (fun r9 : Nat => g49_33 (16 * r9 + a0.toNatClampNeg))) (K := (xi (E 4) 2).toNatClampNeg) hh2; rw [← hx49_2, tn_ (xi (E 4) 2)] at h9; omega
                refine lv_isub hx hb dX8_throwOut_95 ?_
                refine lv_topi (fun y39 ey39 => ?_)
                obtain ⟨ty39, iy39⟩ := ti_sub (e := (-10000)) (f := 200000) i38 k37 ey39 (by decide)
                have ty39 : y39.toInt = v49_3.toInt - y35.toInt := ty39
                have iy39 : -10000 ≤ y39.toInt ∧ y39.toInt ≤ 200000 := iy39
                refine lv_istore_n (lv' := [(3, .int y39), (5, .int r17), (4, .int v49_4), (0, .ref (ad 4)), (1, .int a0), (2, .int a1)]) hx hb dX8_throwOut_96 rfl hl (by decide) rfl (fun ls hl => ?_)
                obtain ⟨y40, ey40⟩ : ∃ y : Int32, y = v49_4 + (1 : Int32) := ⟨_, rfl⟩
                obtain ⟨ty40, iy40⟩ := ti_add (e := 1) (f := 19) i15 ln_1 ey40 (by decide)
                have ty40 : y40.toInt = v49_4.toInt + 1 := ty40
                have iy40 : 1 ≤ y40.toInt ∧ y40.toInt ≤ 19 := iy40
                refine lv_iinc (v := y40) (lv' := [(4, .int y40), (3, .int y39), (5, .int r17), (0, .ref (ad 4)), (1, .int a0), (2, .int a1)]) hx hb dX8_throwOut_97 hl (k := 2) rfl (by rw [ey40]; rfl) (by decide) rfl (fun ls hl => ?_)
                refine lv_goto (tgt := 49) hx hb dX8_throwOut_100 (by decide) ?_
                exact ih49 g31 y40 y39 E29 _ _ _ (iv_w iy40 (by decide)) iy39 (hx49_0.one k24.1.1 k24.1.2 k24.2 (fun r9 _ => (cl_if (w := r17.toNatClampNeg) (b := a0.toNatClampNeg) eg31 (show r25.toNatClampNeg = 16 * r17.toNatClampNeg + a0.toNatClampNeg by rw [tn_ r25, tn_ r17, tn_ a0]; omega)) r9) (by rw [tn_ y40, tn_ v49_4]; omega)) (hx49_1.up eg31 (show r25.toNatClampNeg = 16 * r17.toNatClampNeg + a0.toNatClampNeg by rw [tn_ r25, tn_ r17, tn_ a0]; omega) (by rw [tn_]; omega)) (by have h9 := tt_one (p := (fun r9 : Nat => (xi (E 32) (16 * r9 + a0.toNatClampNeg)).toInt)) (t := (fun r9 : Nat => g49_33 (16 * r9 + a0.toNatClampNeg))) (t' := (fun r9 : Nat => g31 (16 * r9 + a0.toNatClampNeg))) (xi (E 4) 2).toNatClampNeg k24.1.1 k24.1.2 (fun r9 _ => (cl_if (w := r17.toNatClampNeg) (b := a0.toNatClampNeg) eg31 (show r25.toNatClampNeg = 16 * r17.toNatClampNeg + a0.toNatClampNeg by rw [tn_ r25, tn_ r17, tn_ a0]; omega)) r9); rw [h9]; have h8 := (show y35.toInt = (xi (E 32) (16 * r17.toNatClampNeg + a0.toNatClampNeg)).toInt by rw [ey35, (show r32.toNatClampNeg = 16 * r17.toNatClampNeg + a0.toNatClampNeg by rw [tn_ r32, tn_ r17, tn_ a0]; omega)]); show y39.toInt = _ - (xi (E 32) (16 * r17.toNatClampNeg + a0.toNatClampNeg)).toInt; omega) (by omega) (by first | exact ms_su hx49_4 ty40 (by decide) | omega) hI hKp hg31 ((pw30.ef 35 (Nat.ne_of_beq_eq_false rfl)).trans hr49_35) hP hS (lv_sub hl [0, 1, 3, 4, 5] rfl)
              · --65 not
                have t41 : r17.toInt = -1 := ti_eq c21
                have i42 : -1 ≤ r17.toInt ∧ r17.toInt ≤ -1 := iv_eqi t41 f18 (il_ (-1)) (by decide)
                exact (WsI.no k20 (by omega) hx49_0 hKl).elim
        exact hL49 (20) g5_33 (0 : Int32) v5_3 E5_ _ _ _ (iv_w ln_0 (by decide)) (iv_w hv5_3 (by decide)) (show ThR (fun r9 : Nat => (xi (E 32) (16 * r9 + a0.toNatClampNeg)).toInt) (xi (E 4) 2).toNatClampNeg 0 (fun r9 : Nat => g5_33 (16 * r9 + a0.toNatClampNeg)) from (fun r9 h9 => hx5_0 r9 (by rw [k7]; exact h9))) hx5_1 (by rw [tt_all (t := (fun r9 : Nat => g5_33 (16 * r9 + a0.toNatClampNeg))) (fun r9 h9 => hx5_0 r9 (by rw [k7]; exact h9)), ← k7]; exact hx5_2) (by omega) (by have h9 := ln_0; first | exact ms_bu h9.1 (by decide) | omega) hI hKp hr5_33 hr5_35 hP hS (lv_sub hl [0, 1, 2, 3, 4] rfl)
      · --11 not
        have t43 : v5_4.toInt < (xi (E 4) 2).toInt := ti_nle c5
        have i44 : 0 ≤ v5_4.toInt ∧ v5_4.toInt ≤ 19 := iv_lt_l t43 hv5_4 i3 (by decide)
        have i45 : 1 ≤ (xi (E 4) 2).toInt ∧ (xi (E 4) 2).toInt ≤ 20 := iv_lt_r t43 hv5_4 i3 (by decide)
        refine lv_aload_n hx hb dX8_throwOut_14 rfl (lv_at hl 2 rfl) ?_
        refine th_getL (ci := 9) (C := RX8) (T := TX8) (N := 10) (v := .ref (ad 33)) hx hb hts hinX8 hown hK hP hI 4 (mF 4 rfl) rfl rfl 5 (Nat.le_of_ble_eq_true rfl) (hts _ (vA_in _ _ (in_19 _ (zs4 (zs4 (zs1 (zs1 (zs1 (zs0))))))))) (fun _ h9 => h9) (hI.fr 4 (mF 4 rfl) rfl (Nat.le_of_ble_eq_true rfl) 33 rfl) dX8_throwOut_15 ?_
        refine lv_iload hx hb dX8_throwOut_18 (lv_at hl 0 rfl) ?_
        refine lv_iload_n hx hb dX8_throwOut_20 rfl (lv_at hl 3 rfl) ?_
        refine th_pi (va_runSN (As := [.int v5_4, .int a0]) (rest := [.ref (ad 33)]) ⟨hx, hb, hml, hown, hts⟩ (q_ccell l v5_4 a0 i44 hh0) ⟨va_cnB 2 hts (gi_0 (in_10 _ (zs16 (zs4 (zs0))))) rfl rfl rfl (hEV.1.1 _ (List.mem_of_getElem? (i := 10) rfl)) (hts _ (vA_in _ _ (in_4 _ (zs16 (zs4 (zs1 (zs1 (zs1 (zs0))))))))) hz_yX12_cell_2 ⟨Nat.le_of_ble_eq_true rfl, Nat.le_of_ble_eq_true rfl⟩, (hts _ (vA_in _ _ (in_13 _ (zs1 (zs0))))), trivial⟩ ⟨fun _ _ _ _ q => q, fun _ _ _ => ⟨rfl, trivial⟩⟩ rfl rfl hl.1 rfl (lv_room (Nat.le_of_ble_eq_true rfl)) dX8_throwOut_21 ⟨Nat.le_of_ble_eq_true rfl, Nat.le_of_ble_eq_true rfl⟩) hS (fun r46 H1 locs1 hw hk1 hS => ?_)
        have hP := ub_keep hP hk1
        generalize H1 = H at hP hS ⊢
        generalize locs1 = locs at hS ⊢
        obtain ⟨f47, f48⟩ := hw
        refine lv_iconst (v := 0) hx hb dX8_throwOut_24 (by decide) ?_
        have n49 : vp_in r46 320 := (iv_in (n := 320) f47 (by decide))
        refine th_zastL hx hb hK hP (WL_D hD) hS hI 33 (mF 33 rfl) rfl rfl n49 (iv_w ln_0 (by decide)) (okI rfl (iv_w ln_0 (by decide))) dX8_throwOut_25 (fun H locs E50 pw51 hI hP hS => ?_)
        have hKp := hKp.pw pw51 rfl
        obtain ⟨g52, eg52⟩ : ∃ z : Nat → Int32, z = upd g5_33 r46.toNatClampNeg (0 : Int32) := ⟨_, rfl⟩
        have hg52 : xi (E50 33) = g52 := by rw [pw51.eu, hr5_33, eg52]
        refine lv_iload_n hx hb dX8_throwOut_26 rfl (lv_at hl 1 rfl) ?_
        refine lv_aload_n hx hb dX8_throwOut_27 rfl (lv_at hl 2 rfl) ?_
        refine th_getL (ci := 9) (C := RX8) (T := TX8) (N := 10) (v := .ref (ad 32)) hx hb hts hinX8 hown hK hP hI 4 (mF 4 rfl) rfl rfl 4 (Nat.le_of_ble_eq_true rfl) (hts _ (vA_in _ _ (in_19 _ (zs4 (zs4 (zs1 (zs0))))))) (fun _ h9 => h9) (hI.fr 4 (mF 4 rfl) rfl (Nat.le_of_ble_eq_true rfl) 32 rfl) dX8_throwOut_28 ?_
        refine lv_iload hx hb dX8_throwOut_31 (lv_at hl 0 rfl) ?_
        refine lv_iload_n hx hb dX8_throwOut_33 rfl (lv_at hl 3 rfl) ?_
        refine th_pi (va_runSN (As := [.int v5_4, .int a0]) (rest := [.ref (ad 32), .int v5_3]) ⟨hx, hb, hml, hown, hts⟩ (q_ccell l v5_4 a0 i44 hh0) ⟨va_cnB 2 hts (gi_0 (in_10 _ (zs16 (zs4 (zs0))))) rfl rfl rfl (hEV.1.1 _ (List.mem_of_getElem? (i := 10) rfl)) (hts _ (vA_in _ _ (in_4 _ (zs16 (zs4 (zs1 (zs1 (zs1 (zs0))))))))) hz_yX12_cell_2 ⟨Nat.le_of_ble_eq_true rfl, Nat.le_of_ble_eq_true rfl⟩, (hts _ (vA_in _ _ (in_13 _ (zs1 (zs0))))), trivial⟩ ⟨fun _ _ _ _ q => q, fun _ _ _ => ⟨rfl, trivial⟩⟩ rfl rfl hl.1 rfl (lv_room (Nat.le_of_ble_eq_true rfl)) dX8_throwOut_34 ⟨Nat.le_of_ble_eq_true rfl, Nat.le_of_ble_eq_true rfl⟩) hS (fun r53 H1 locs1 hw hk1 hS => ?_)
        have hP := ub_keep hP hk1
        generalize H1 = H at hP hS ⊢
        generalize locs1 = locs at hS ⊢
        obtain ⟨f54, f55⟩ := hw
        have n57 : vp_in r53 320 := (iv_in (n := 320) f54 (by decide))
        refine th_ialdL hx hb hK hP hI 32 (mF 32 rfl) rfl rfl n57 dX8_throwOut_37 (fun y56 ey56 => ?_)
        have ey56 := ey56.trans (hKp.ei 32 _ rfl)
        have k58 : 0 ≤ y56.toInt ∧ y56.toInt ≤ 10000 := by have h7 := hh2 v5_4.toNatClampNeg (by rw [tn_, tn_]; omega); rw [← (show r53.toNatClampNeg = 16 * v5_4.toNatClampNeg + a0.toNatClampNeg by rw [tn_ r53, tn_ v5_4, tn_ a0]; omega), ← ey56] at h7; exact h7
        have i59 : 0 ≤ v5_3.toInt ∧ v5_3.toInt ≤ 190000 := by omega
        refine lv_iadd hx hb dX8_throwOut_38 ?_
        refine lv_topi (fun y60 ey60 => ?_)
        obtain ⟨ty60, iy60⟩ := ti_add (e := 0) (f := 200000) i59 k58 ey60 (by decide)
        have ty60 : y60.toInt = v5_3.toInt + y56.toInt := ty60
        have iy60 : 0 ≤ y60.toInt ∧ y60.toInt ≤ 200000 := iy60
        refine lv_istore_n (lv' := [(3, .int y60), (4, .int v5_4), (0, .ref (ad 4)), (1, .int a0), (2, .int a1)]) hx hb dX8_throwOut_39 rfl hl (by decide) rfl (fun ls hl => ?_)
        obtain ⟨y61, ey61⟩ : ∃ y : Int32, y = v5_4 + (1 : Int32) := ⟨_, rfl⟩
        obtain ⟨ty61, iy61⟩ := ti_add (e := 1) (f := 20) i44 ln_1 ey61 (by decide)
        have ty61 : y61.toInt = v5_4.toInt + 1 := ty61
        have iy61 : 1 ≤ y61.toInt ∧ y61.toInt ≤ 20 := iy61
        refine lv_iinc (v := y61) (lv' := [(4, .int y61), (3, .int y60), (0, .ref (ad 4)), (1, .int a0), (2, .int a1)]) hx hb dX8_throwOut_40 hl (k := 1) rfl (by rw [ey61]; rfl) (by decide) rfl (fun ls hl => ?_)
        refine lv_goto (tgt := 5) hx hb dX8_throwOut_43 (by decide) ?_
        exact ih5 g52 y61 y60 E50 _ _ _ (iv_w iy61 (by decide)) iy60 (cl_s (P := fun _ z9 => z9 = 0) hx5_0 eg52 (show r46.toNatClampNeg = 16 * v5_4.toNatClampNeg + a0.toNatClampNeg by rw [tn_ r46, tn_ v5_4, tn_ a0]; omega) rfl (by omega) (by omega)) (hx5_1.up eg52 (show r46.toNatClampNeg = 16 * v5_4.toNatClampNeg + a0.toNatClampNeg by rw [tn_ r46, tn_ v5_4, tn_ a0]; omega) (by rw [tn_]; omega)) (by rw [show y61.toNatClampNeg = v5_4.toNatClampNeg + 1 by rw [tn_ y61, tn_ v5_4]; omega]; show y60.toInt = sumF (fun r9 : Nat => (xi (E 32) (16 * r9 + a0.toNatClampNeg)).toInt) v5_4.toNatClampNeg + (xi (E 32) (16 * v5_4.toNatClampNeg + a0.toNatClampNeg)).toInt; rw [← (show y56 = xi (E 32) (16 * v5_4.toNatClampNeg + a0.toNatClampNeg) by rw [ey56, (show r53.toNatClampNeg = 16 * v5_4.toNatClampNeg + a0.toNatClampNeg by rw [tn_ r53, tn_ v5_4, tn_ a0]; omega)])]; omega) (by have h7 := hh2 v5_4.toNatClampNeg (by rw [tn_, tn_]; omega); rw [← (show y56 = xi (E 32) (16 * v5_4.toNatClampNeg + a0.toNatClampNeg) by rw [ey56, (show r53.toNatClampNeg = 16 * v5_4.toNatClampNeg + a0.toNatClampNeg by rw [tn_ r53, tn_ v5_4, tn_ a0]; omega)])] at h7; omega) (by omega) (by first | exact ms_su hx5_5 ty61 (by decide) | omega) hI hKp hg52 ((pw51.ef 35 (Nat.ne_of_beq_eq_false rfl)).trans hr5_35) hP hS (lv_sub hl [0, 1, 2, 3, 4] rfl)
  exact hL5 (21) g1 (0 : Int32) (0 : Int32) E _ _ _ (iv_w ln_0 (by decide)) (iv_w ln_0 (by decide)) (fun r9 h9 => absurd h9 (Nat.not_lt_zero r9)) Frm.rf (show (0 : Int32).toInt = 0 from rfl) (by omega) (by omega) (by have h9 := ln_0; first | exact ms_bu h9.1 (by decide) | omega) hI hKp hg1 hg2 hP hS (lv_sub hl [0, 1, 2, 3, 4] rfl)
def v_throwOutsInX : List Cond := .code yX8_throwOutsIn cX8_throwOutsIn 3 (some .int) :: vA
abbrev rm_throwOutsInX : Room := { frames := 4, cells := 0, slots := 0, locals := 160 }
def w_throwOutsInX : Nat → Nat → Bool := wl [19, 20] []
set_option maxHeartbeats 4000000 in
set_option maxRecDepth 100000 in
theorem q_throwOutsInX (l : Launch) (dC : Nat → ClassId) (dI : Nat → Nat → Nat) (cT : Nat → ClassId) (cf : Nat → Nat) (hC : CF cf) (ad : Nat → Nat) (E : Nat → va_E) (sz : Nat) (a0 : Int32) (hI0 : IXL cT (shC cf) (spC cf) (LC cf) ad E) (hh0 : RulAll cf E) : Met l yX8_throwOutsIn v_throwOutsInX rm_throwOutsInX (va_Pc [.ref (ad 4), .int a0] (HWL dC dI (TYC cT) cf ad E sz)) (va_Qi (S := Nat → va_E) (fun r u => IXL cT (shC cf) (spC cf) (LC cf) ad u ∧ Kp w_throwOutsInX E u ∧ ((0 ≤ r.toInt ∧ r.toInt ≤ 19) ∧ (r.toInt = max 0 (min (max 0 ((xi (E 4) 2).toInt - 1)) (wV cf E 116 (lawC cf E a0 a0) (lset lz 7 (xi (E 4) 2))).toInt)))) (HBL dC dI (LC cf) ad) (va_A (WL (LC cf) ad E) sz)) 0 0 (va_A (WL (LC cf) ad E) sz) := by
  obtain ⟨⟨hc0, hc1, hc2, hc3, hc4, hc5⟩, hcr⟩ := id hC
  refine Met.ofW (cc := cX8_throwOutsIn) (maxL := 3) (ret := (some .int)) (by decide) rfl ?_
  intro p e s m args below meth c s₁ B hml hv
  obtain ⟨hargs, hsz, hP, hK, hD0, hEV⟩ := hv
  subst hsz
  have hx := B.exec
  have hb := B.bytes
  have hr := B.returns
  have hts := atoms_spec (ws := v_throwOutsInX) B.pre
  have hown : s.vm.findClass RX8 = some m.cls := findClass_of_methodNamed B.named
  have hlocks := B.notSynchronized
  have hinX0 : ∀ w ∈ u_ws RX0 TX0 11, w ∈ v_throwOutsInX := fun w h => vA_in _ w (in_X0 w h)
  have hinX8 : ∀ w ∈ u_ws RX8 TX8 10, w ∈ v_throwOutsInX := fun w h => vA_in _ w (in_X8 w h)
  generalize hAe : va_A (WL (LC cf) ad E) s.heap.size = A at hEV ⊢
  have hA : ∀ q : Nat, s.heap.size ≤ q → A q := fun q h => by rw [← hAe]; exact Or.inr h
  have hD : va_D A (WL (LC cf) ad E) := by rw [← hAe]; exact hD0.self
  have hS : va_S A s.heap s.heap [] := va_S.rf
  have hI := hI0
  have hKp : Kp w_throwOutsInX E E := Kp.rf
  have hl := lv_entry ([.ref (ad 4), .int a0]) (n := 3) (Nat.le_of_ble_eq_true rfl)
  obtain ⟨Q, hQ⟩ : ∃ Q, Q = MQ below (va_Qi (S := Nat → va_E) (fun r u => IXL cT (shC cf) (spC cf) (LC cf) ad u ∧ Kp w_throwOutsInX E u ∧ ((0 ≤ r.toInt ∧ r.toInt ≤ 19) ∧ (r.toInt = max 0 (min (max 0 ((xi (E 4) 2).toInt - 1)) (wV cf E 116 (lawC cf E a0 a0) (lset lz 7 (xi (E 4) 2))).toInt)))) (HBL dC dI (LC cf) ad) (A)) args s 0 0 (A) := ⟨_, rfl⟩
  rw [← hQ, show entryFrame m args 3 = _ from (congrArg (fun z => entryFrame m z 3) hargs).trans (lg_entry_eq _ _ _)]
  generalize (lg_sl ([.ref (ad 4), .int a0]) ++ List.replicate (3 - (lg_sl ([.ref (ad 4), .int a0])).length) Slot.unset).toArray = ls at hl ⊢
  have hl : lv_has ls 3 [(0, .ref (ad 4)), (1, .int a0)] := hl
  have z0z : (0 : Int32).toInt = 0 := rfl
  have irc : 0 ≤ (xi (E 4) 2).toInt ∧ (xi (E 4) 2).toInt ≤ ((cf 2 : Nat) : Int) := hI0.iv 4 (mF 4 rfl) rfl (Nat.le_of_ble_eq_true rfl) rfl
  refine lv_aload_n hx hb dX8_throwOutsIn_0 rfl (lv_at hl 0 rfl) ?_
  refine th_getL (ci := 9) (C := RX8) (T := TX8) (N := 10) (v := .ref (ad 1)) hx hb hts hinX8 hown hK hP hI 4 (mF 4 rfl) rfl rfl 0 (Nat.le_of_ble_eq_true rfl) (hts _ (vA_in _ _ (in_19 _ (zs16 (zs0))))) (fun _ h9 => h9) (hI.fr 4 (mF 4 rfl) rfl (Nat.le_of_ble_eq_true rfl) 1 rfl) dX8_throwOutsIn_1 ?_
  refine th_vL (va_runV (As := []) (rest := []) ⟨hx, hb, hml, hown, hts⟩ (q_forgetX l dC dI cT cf hC ad E s.heap.size hI) (cwV 0 hts (gi_V (in_21 _ (zs16 (zs16 (zs1 (zs1 (zs0)))))) (in_6 _ (zs16 (zs16 (zs4 (zs1 (zs0)))))) (in_6 _ (zs16 (zs16 (zs4 (zs1 (zs1 (zs0))))))) (in_5 _ (zs4 (zs1 (zs1 (zs0))))) (in_5 _ (zs16 (zs4 (zs1 (zs1 (zs1 (zs0)))))))) rfl rfl rfl ⟨rfl, hz_yX0_forgetLetters_0⟩ ⟨Nat.le_of_ble_eq_true rfl, Nat.le_of_ble_eq_true rfl⟩) ⟨HWL_bl, va_recv hK hP (ci := 1) (q0 := posL 1 (LC cf)) rfl (hI.ob 1 (mF 1 rfl) rfl), (HWL_wi hP hK (WL_D hD) hS hA hEV)⟩ rfl rfl hl.1 rfl (lv_room (Nat.le_of_ble_eq_true rfl)) dX8_throwOutsIn_4 ⟨Nat.le_of_ble_eq_true rfl, Nat.le_of_ble_eq_true rfl⟩) (WL_D hD) hS hA (fun E2 H locs hw hP hS => ?_)
  obtain ⟨hI, kq3, hw⟩ := hw
  have hKb := hKp
  have hKp := hKp.tr kq3 (wl_sub rfl rfl)
  have f4 := hw
  refine lv_aload_n hx hb dX8_throwOutsIn_7 rfl (lv_at hl 0 rfl) ?_
  refine th_getL (ci := 9) (C := RX8) (T := TX8) (N := 10) (v := .ref (ad 1)) hx hb hts hinX8 hown hK hP hI 4 (mF 4 rfl) rfl rfl 0 (Nat.le_of_ble_eq_true rfl) (hts _ (vA_in _ _ (in_19 _ (zs16 (zs0))))) (fun _ h9 => h9) (hI.fr 4 (mF 4 rfl) rfl (Nat.le_of_ble_eq_true rfl) 1 rfl) dX8_throwOutsIn_8 ?_
  refine th_getL (ci := 1) (C := RX0) (T := TX0) (N := 11) (v := .ref (ad 19)) hx hb hts hinX0 hown hK hP hI 1 (mF 1 rfl) rfl rfl 9 (Nat.le_of_ble_eq_true rfl) (hts _ (vA_in _ _ (in_21 _ (zs16 (zs16 (zs0)))))) (fun _ h9 => h9) (hI.fr 1 (mF 1 rfl) rfl (Nat.le_of_ble_eq_true rfl) 19 rfl) dX8_throwOutsIn_11 ?_
  refine lv_bipush (v := 7) hx hb dX8_throwOutsIn_14 (by decide) ?_
  refine lv_aload_n hx hb dX8_throwOutsIn_16 rfl (lv_at hl 0 rfl) ?_
  have j6 : 0 ≤ (xi (E 4) 2).toInt ∧ (xi (E 4) 2).toInt ≤ ((cf 2 : Nat) : Int) := hI0.iv 4 (mF 4 rfl) rfl (Nat.le_of_ble_eq_true rfl) rfl
  have i5 : 0 ≤ (xi (E 4) 2).toInt ∧ (xi (E 4) 2).toInt ≤ 20 := by omega
  refine th_getL (ci := 9) (C := RX8) (T := TX8) (N := 10) (v := .int (xi (E 4) 2)) hx hb hts hinX8 hown hK hP hI 4 (mF 4 rfl) rfl rfl 2 (Nat.le_of_ble_eq_true rfl) (hts _ (vA_in _ _ (in_20 _ (zs4 (zs4 (zs4 (zs0))))))) (fun _ h9 => h9) (th_v0L hKp hI0 4 (mF 4 rfl) rfl (Nat.le_of_ble_eq_true rfl) rfl rfl) dX8_throwOutsIn_17 ?_
  have n7 : vp_in (7 : Int32) 14 := (iv_in (n := 14) ln_7 (by decide))
  refine th_iastL hx hb hK hP (WL_D hD) hS hI 19 (mF 19 rfl) rfl rfl n7 (okI rfl (iv_w i5 (by decide))) dX8_throwOutsIn_20 (fun H locs E8 pw9 hI hP hS => ?_)
  have hKp := hKp.pw pw9 rfl
  have k10 : cL E8 = lset lz 7 ((xi (E 4) 2)) := (cL_set (k := 7) pw9 rfl (by decide)).trans (by rw [f4])
  refine lv_aload_n hx hb dX8_throwOutsIn_21 rfl (lv_at hl 0 rfl) ?_
  refine th_getL (ci := 9) (C := RX8) (T := TX8) (N := 10) (v := .ref (ad 1)) hx hb hts hinX8 hown hK hP hI 4 (mF 4 rfl) rfl rfl 0 (Nat.le_of_ble_eq_true rfl) (hts _ (vA_in _ _ (in_19 _ (zs16 (zs0))))) (fun _ h9 => h9) (hI.fr 4 (mF 4 rfl) rfl (Nat.le_of_ble_eq_true rfl) 1 rfl) dX8_throwOutsIn_22 ?_
  refine lv_aload_n hx hb dX8_throwOutsIn_25 rfl (lv_at hl 0 rfl) ?_
  refine th_getL (ci := 9) (C := RX8) (T := TX8) (N := 10) (v := .ref (ad 1)) hx hb hts hinX8 hown hK hP hI 4 (mF 4 rfl) rfl rfl 0 (Nat.le_of_ble_eq_true rfl) (hts _ (vA_in _ _ (in_19 _ (zs16 (zs0))))) (fun _ h9 => h9) (hI.fr 4 (mF 4 rfl) rfl (Nat.le_of_ble_eq_true rfl) 1 rfl) dX8_throwOutsIn_26 ?_
  refine lv_iload_n hx hb dX8_throwOutsIn_29 rfl (lv_at hl 1 rfl) ?_
  refine lv_iload_n hx hb dX8_throwOutsIn_30 rfl (lv_at hl 1 rfl) ?_
  refine th_riL (va_runV (As := [.int a0, .int a0]) (rest := [.ref (ad 1)]) ⟨hx, hb, hml, hown, hts⟩ (q_rulesOnX l dC dI cT cf hC ad E8 H.size a0 a0 hI) (cwV 2 hts (gi_V (in_21 _ (zs16 (zs16 (zs1 (zs1 (zs1 (zs0))))))) (in_6 _ (zs16 (zs4 (zs4 (zs4 (zs0)))))) (in_6 _ (zs16 (zs4 (zs4 (zs4 (zs1 (zs0))))))) (in_5 _ (zs4 (zs1 (zs1 (zs0))))) (in_6 _ (zs16 (zs4 (zs4 (zs4 (zs1 (zs1 (zs0))))))))) rfl rfl rfl ⟨rfl, hz_yX0_rulesOn_2⟩ ⟨Nat.le_of_ble_eq_true rfl, Nat.le_of_ble_eq_true rfl⟩) ⟨HWL_bl, va_recv hK hP (ci := 1) (q0 := posL 1 (LC cf)) rfl (hI.ob 1 (mF 1 rfl) rfl), (HWL_wi hP hK (WL_D hD) hS hA hEV)⟩ rfl rfl hl.1 rfl (lv_room (Nat.le_of_ble_eq_true rfl)) dX8_throwOutsIn_31 ⟨Nat.le_of_ble_eq_true rfl, Nat.le_of_ble_eq_true rfl⟩) hS hP (fun r11 H locs hw hP hS => ?_)
  obtain ⟨f12, f13, f14⟩ := hw
  have k15 : r11 = lawC cf E a0 a0 := Int32.toInt_inj.mp (f14.trans (congrArg Int32.toInt (lawC_cg (K64.of hKp (fun o9 ho9 j9 => wl_p rfl rfl ho9)))))
  refine lv_bipush (v := 116) hx hb dX8_throwOutsIn_34 (by decide) ?_
  have z116 := ln_116
  refine th_iL (va_runV (As := [.int r11, .int 116]) (rest := []) ⟨hx, hb, hml, hown, hts⟩ (q_worthInX l dC dI cT cf hC ad E8 H.size r11 (116 : Int32) hI (by exact fun i9 hi9 => (hh0 i9 hi9).cg (kp_rul hKp (fun o9 ho9 j9 => wl_p rfl rfl ho9) i9)) (by rw [k10]; exact ls_b lz_b ⟨by omega, by omega⟩) f12 (by exact Or.inr (lawC_lt hC k15)) (iv_w ln_116 (by decide))) (cwV 2 hts (gi_V (in_21 _ (zs16 (zs16 (zs4 (zs0))))) (in_16 _ (zs16 (zs4 (zs4 (zs1 (zs1 (zs0))))))) (in_16 _ (zs16 (zs4 (zs4 (zs1 (zs1 (zs1 (zs0)))))))) (in_5 _ (zs4 (zs1 (zs1 (zs0))))) (in_7 _ (zs16 (zs4 (zs4 (zs4 (zs0))))))) rfl rfl rfl ⟨rfl, hz_yX0_worthIn_2⟩ ⟨Nat.le_of_ble_eq_true rfl, Nat.le_of_ble_eq_true rfl⟩) ⟨HWL_bl, va_recv hK hP (ci := 1) (q0 := posL 1 (LC cf)) rfl (hI.ob 1 (mF 1 rfl) rfl), (HWL_wi hP hK (WL_D hD) hS hA hEV)⟩ rfl rfl hl.1 rfl (lv_room (Nat.le_of_ble_eq_true rfl)) dX8_throwOutsIn_36 ⟨Nat.le_of_ble_eq_true rfl, Nat.le_of_ble_eq_true rfl⟩) (WL_D hD) hS hA (fun r16 E17 H locs hw hP hS => ?_)
  obtain ⟨hI, kq18, hw⟩ := hw
  have hKb := hKp
  have hKp := hKp.tr kq18 (wl_sub rfl rfl)
  have f19 := hw
  have k20 : r16 = wV cf E 116 (lawC cf E a0 a0) (lset lz 7 (xi (E 4) 2)) := f19.trans (by rw [k10, ← k15]; exact wV_cg (fun i9 t9 h9 g9 j9 => kp_rul hKb (fun o9 ho9 j9 => wl_p rfl rfl ho9) i9 t9 h9 g9 j9))
  refine lv_istore_n (lv' := [(2, .int r16), (0, .ref (ad 4)), (1, .int a0)]) hx hb dX8_throwOutsIn_39 rfl hl (by decide) rfl (fun ls hl => ?_)
  refine lv_iload_n hx hb dX8_throwOutsIn_40 rfl (lv_at hl 0 rfl) ?_
  refine lv_iconst (v := 0) hx hb dX8_throwOutsIn_41 (by decide) ?_
  refine lv_iconst (v := 0) hx hb dX8_throwOutsIn_42 (by decide) ?_
  refine lv_aload_n hx hb dX8_throwOutsIn_43 rfl (lv_at hl 1 rfl) ?_
  refine th_getL (ci := 9) (C := RX8) (T := TX8) (N := 10) (v := .int (xi (E 4) 2)) hx hb hts hinX8 hown hK hP hI 4 (mF 4 rfl) rfl rfl 2 (Nat.le_of_ble_eq_true rfl) (hts _ (vA_in _ _ (in_20 _ (zs4 (zs4 (zs4 (zs0))))))) (fun _ h9 => h9) (th_v0L hKp hI0 4 (mF 4 rfl) rfl (Nat.le_of_ble_eq_true rfl) rfl rfl) dX8_throwOutsIn_44 ?_
  refine lv_iconst (v := 1) hx hb dX8_throwOutsIn_47 (by decide) ?_
  refine lv_isub hx hb dX8_throwOutsIn_48 ?_
  refine lv_topi (fun y21 ey21 => ?_)
  obtain ⟨ty21, iy21⟩ := ti_sub (e := (-1)) (f := 19) i5 ln_1 ey21 (by decide)
  have ty21 : y21.toInt = (xi (E 4) 2).toInt - 1 := ty21
  have iy21 : -1 ≤ y21.toInt ∧ y21.toInt ≤ 19 := iy21
  refine va_mmax hx hb (by rw [hml]; exact hl.1.symm) hown (hts _ (vA_in _ _ (in_21 _ (zs16 (zs16 (zs1 (zs0))))))) (hts _ (vA_in _ _ (in_0 _ (zs16 (zs16 (zs0)))))) (hts _ (vA_in _ _ (in_0 _ (zs16 (zs16 (zs1 (zs0))))))) (hts _ (vA_in _ _ (in_0 _ (zs16 (zs16 (zs1 (zs1 (zs0)))))))) (Nat.le_of_ble_eq_true rfl) (Nat.le_of_ble_eq_true rfl) (Nat.le_of_ble_eq_true rfl) (Nat.le_of_ble_eq_true rfl) dX8_throwOutsIn_49 ?_
  have z0 := ln_0
  refine lv_topi (fun y22 ey22 => ?_)
  obtain ⟨ty22, iy22⟩ := ti_max (e := 0) (f := 19) ln_0 iy21 ey22 (by decide)
  have iy22 : 0 ≤ y22.toInt ∧ y22.toInt ≤ 19 := iy22
  refine th_pi (va_runSN (As := [.int r16, .int 0, .int y22]) (rest := []) ⟨hx, hb, hml, hown, hts⟩ (q_cheldX l r16 (0 : Int32) y22 (by omega)) ⟨va_cnB 3 hts (gi_0 (in_7 _ (zs16 (zs4 (zs4 (zs1 (zs1 (zs0)))))))) rfl rfl rfl (hEV.1.1 _ (List.mem_of_getElem? (i := 8) rfl)) (hts _ (vA_in _ _ (in_4 _ (zs16 (zs4 (zs1 (zs1 (zs1 (zs0))))))))) hz_yX12_held_3 ⟨Nat.le_of_ble_eq_true rfl, Nat.le_of_ble_eq_true rfl⟩, (hts _ (vA_in _ _ (in_7 _ (zs16 (zs4 (zs4 (zs1 (zs0)))))))), trivial⟩ ⟨fun _ _ _ _ q => q, fun _ _ _ => ⟨rfl, trivial⟩⟩ rfl rfl hl.1 rfl (lv_room (Nat.le_of_ble_eq_true rfl)) dX8_throwOutsIn_52 ⟨Nat.le_of_ble_eq_true rfl, Nat.le_of_ble_eq_true rfl⟩) hS (fun r23 H1 locs1 hw hk1 hS => ?_)
  have hP := ub_keep hP hk1
  generalize H1 = H at hP hS ⊢
  generalize locs1 = locs at hS ⊢
  have f24 := hw
  have i25 : 0 ≤ r23.toInt ∧ r23.toInt ≤ 19 := by have h9 := f24; have z0 := ln_0; omega
  rw [hQ]
  exact W.iret (v := r23) hx hb hr (fun t ht hW => ⟨⟨r23, E17, rfl, ⟨hI, hKp, ⟨i25, (by rw [← k20]; have z0 := ln_0; omega)⟩⟩, by show va_P (dC, dI) vwCl (WL (LC cf) ad E17) t.heap; rw [ht]; exact hP⟩, hS.F ht⟩) hS.2.2 dX8_throwOutsIn_55
