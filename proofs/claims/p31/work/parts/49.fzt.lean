set_option maxRecDepth 100000 in
theorem zh_dX3_loadAll_0_0 : zc cX3_loadAll 0 [3, 60, 27, 42, 180, 0, 55, 180, 0, 63, 182, 0, 69, 162, 0, 14] = true := by decide +kernel
set_option maxRecDepth 100000 in
theorem zh_dX3_loadAll_16_16 : zc cX3_loadAll 16 [42, 27, 182, 0, 75, 132, 1, 1, 167, 255, 234, 177] = true := by decide +kernel
set_option maxRecDepth 100000 in
theorem zh_dX3_load_0_0 : zc cX3_load 0 [42, 180, 0, 59, 27, 42, 180, 0, 55, 180, 0, 79, 182, 0, 83, 3] = true := by decide +kernel
set_option maxRecDepth 100000 in
theorem zh_dX3_load_16_16 : zc cX3_load 16 [61, 28, 16, 16, 162, 0, 83, 27, 28, 184, 0, 89, 62, 42, 180, 0] = true := by decide +kernel
set_option maxRecDepth 100000 in
theorem zh_dX3_load_30_32 : zc cX3_load 32 [11, 29, 42, 180, 0, 59, 180, 0, 93, 28, 46, 154, 0, 7, 4, 167] = true := by decide +kernel
set_option maxRecDepth 100000 in
theorem zh_dX3_load_47_48 : zc cX3_load 48 [0, 4, 3, 84, 42, 180, 0, 15, 29, 42, 180, 0, 59, 180, 0, 96] = true := by decide +kernel
set_option maxRecDepth 100000 in
theorem zh_dX3_load_64_64 : zc cX3_load 64 [28, 46, 79, 42, 180, 0, 19, 29, 42, 180, 0, 59, 180, 0, 97, 28] = true := by decide +kernel
set_option maxRecDepth 100000 in
theorem zh_dX3_load_80_80 : zc cX3_load 80 [46, 79, 42, 180, 0, 22, 29, 42, 180, 0, 59, 180, 0, 98, 28, 46] = true := by decide +kernel
set_option maxRecDepth 100000 in
theorem zh_dX3_load_96_96 : zc cX3_load 96 [79, 132, 2, 1, 167, 255, 173, 177] = true := by decide +kernel
set_option maxRecDepth 100000 in
theorem zh_dX3_middleOf_0_0 : zc cX3_middleOf 0 [42, 180, 0, 55, 180, 0, 63, 27, 182, 0, 99, 192, 0, 103, 180, 0] = true := by decide +kernel
set_option maxRecDepth 100000 in
theorem zh_dX3_middleOf_14_16 : zc cX3_middleOf 16 [105, 154, 0, 16, 42, 180, 0, 11, 27, 28, 184, 0, 89, 51, 154, 0] = true := by decide +kernel
set_option maxRecDepth 100000 in
theorem zh_dX3_middleOf_30_32 : zc cX3_middleOf 32 [6, 18, 108, 172, 3, 62, 3, 54, 4, 21, 4, 16, 16, 162, 0, 49] = true := by decide +kernel
set_option maxRecDepth 100000 in
theorem zh_dX3_middleOf_48_48 : zc cX3_middleOf 48 [21, 4, 28, 159, 0, 37, 42, 180, 0, 11, 27, 21, 4, 184, 0, 89] = true := by decide +kernel
set_option maxRecDepth 100000 in
theorem zh_dX3_middleOf_64_64 : zc cX3_middleOf 64 [51, 153, 0, 23, 42, 180, 0, 22, 27, 21, 4, 184, 0, 89, 46, 42] = true := by decide +kernel
set_option maxRecDepth 100000 in
theorem zh_dX3_middleOf_80_80 : zc cX3_middleOf 80 [180, 0, 37, 29, 184, 0, 109, 62, 132, 4, 1, 167, 255, 206, 29, 154] = true := by decide +kernel
set_option maxRecDepth 100000 in
theorem zh_dX3_middleOf_95_96 : zc cX3_middleOf 96 [0, 8, 18, 108, 167, 0, 13, 42, 180, 0, 37, 29, 4, 100, 5, 108] = true := by decide +kernel
set_option maxRecDepth 100000 in
theorem zh_dX3_middleOf_112_112 : zc cX3_middleOf 112 [46, 172] = true := by decide +kernel
set_option maxRecDepth 100000 in
theorem zh_dX12_middle_0_0 : zc cX12_middle 0 [42, 180, 0, 10, 27, 182, 0, 135, 153, 0, 14, 42, 180, 0, 10, 28] = true := by decide +kernel
set_option maxRecDepth 100000 in
theorem zh_dX12_middle_16_16 : zc cX12_middle 16 [182, 0, 66, 154, 0, 6, 18, 172, 172, 42, 180, 0, 51, 27, 182, 1] = true := by decide +kernel
set_option maxRecDepth 100000 in
theorem zh_dX12_middle_30_32 : zc cX12_middle 32 [5, 42, 180, 0, 51, 27, 28, 182, 1, 8, 172] = true := by decide +kernel
set_option maxRecDepth 100000 in
theorem zh_dX12_sortIn_0_0 : zc cX12_sortIn 0 [28, 43, 190, 161, 0, 5, 28, 172, 28, 62, 29, 158, 0, 26, 43, 29] = true := by decide +kernel
set_option maxRecDepth 100000 in
theorem zh_dX12_sortIn_16_16 : zc cX12_sortIn 16 [4, 100, 46, 26, 164, 0, 17, 43, 29, 43, 29, 4, 100, 46, 79, 132] = true := by decide +kernel
set_option maxRecDepth 100000 in
theorem zh_dX12_sortIn_31_32 : zc cX12_sortIn 32 [3, 255, 167, 255, 232, 43, 29, 26, 79, 28, 4, 96, 172] = true := by decide +kernel
theorem dX3_loadAll_0 : decode cX3_loadAll 0 = .ok (.iconst 0, 1) := zo_3 (zi_at zh_dX3_loadAll_0_0 0 rfl)
theorem dX3_loadAll_1 : decode cX3_loadAll 1 = .ok (.istore_n 1, 1) := zo_60 (zi_at zh_dX3_loadAll_0_0 1 rfl)
theorem dX3_loadAll_2 : decode cX3_loadAll 2 = .ok (.iload_n 1, 1) := zo_27 (zi_at zh_dX3_loadAll_0_0 2 rfl)
theorem dX3_loadAll_3 : decode cX3_loadAll 3 = .ok (.aload_n 0, 1) := zo_42 (zi_at zh_dX3_loadAll_0_0 3 rfl)
theorem dX3_loadAll_4 : decode cX3_loadAll 4 = .ok (.getfield 55, 3) := zo_180 (zi_at zh_dX3_loadAll_0_0 4 rfl) (zi_at zh_dX3_loadAll_0_0 5 rfl) (zi_at zh_dX3_loadAll_0_0 6 rfl) rfl
theorem dX3_loadAll_7 : decode cX3_loadAll 7 = .ok (.getfield 63, 3) := zo_180 (zi_at zh_dX3_loadAll_0_0 7 rfl) (zi_at zh_dX3_loadAll_0_0 8 rfl) (zi_at zh_dX3_loadAll_0_0 9 rfl) rfl
theorem dX3_loadAll_10 : decode cX3_loadAll 10 = .ok (.invokevirtual 69, 3) := zo_182 (zi_at zh_dX3_loadAll_0_0 10 rfl) (zi_at zh_dX3_loadAll_0_0 11 rfl) (zi_at zh_dX3_loadAll_0_0 12 rfl) rfl
theorem dX3_loadAll_13 : decode cX3_loadAll 13 = .ok (.if_icmp .ge 14, 3) := zo_162 (zi_at zh_dX3_loadAll_0_0 13 rfl) (zi_at zh_dX3_loadAll_0_0 14 rfl) (zi_at zh_dX3_loadAll_0_0 15 rfl) rfl
theorem dX3_loadAll_16 : decode cX3_loadAll 16 = .ok (.aload_n 0, 1) := zo_42 (zi_at zh_dX3_loadAll_16_16 0 rfl)
theorem dX3_loadAll_17 : decode cX3_loadAll 17 = .ok (.iload_n 1, 1) := zo_27 (zi_at zh_dX3_loadAll_16_16 1 rfl)
theorem dX3_loadAll_18 : decode cX3_loadAll 18 = .ok (.invokevirtual 75, 3) := zo_182 (zi_at zh_dX3_loadAll_16_16 2 rfl) (zi_at zh_dX3_loadAll_16_16 3 rfl) (zi_at zh_dX3_loadAll_16_16 4 rfl) rfl
theorem dX3_loadAll_21 : decode cX3_loadAll 21 = .ok (.iinc 1 1, 3) := zo_132 (zi_at zh_dX3_loadAll_16_16 5 rfl) (zi_at zh_dX3_loadAll_16_16 6 rfl) (zi_at zh_dX3_loadAll_16_16 7 rfl) rfl
theorem dX3_loadAll_24 : decode cX3_loadAll 24 = .ok (.goto (-22), 3) := zo_167 (zi_at zh_dX3_loadAll_16_16 8 rfl) (zi_at zh_dX3_loadAll_16_16 9 rfl) (zi_at zh_dX3_loadAll_16_16 10 rfl) rfl
theorem dX3_loadAll_27 : decode cX3_loadAll 27 = .ok (.return_, 1) := zo_177 (zi_at zh_dX3_loadAll_16_16 11 rfl)
theorem dX3_load_0 : decode cX3_load 0 = .ok (.aload_n 0, 1) := zo_42 (zi_at zh_dX3_load_0_0 0 rfl)
theorem dX3_load_1 : decode cX3_load 1 = .ok (.getfield 59, 3) := zo_180 (zi_at zh_dX3_load_0_0 1 rfl) (zi_at zh_dX3_load_0_0 2 rfl) (zi_at zh_dX3_load_0_0 3 rfl) rfl
theorem dX3_load_4 : decode cX3_load 4 = .ok (.iload_n 1, 1) := zo_27 (zi_at zh_dX3_load_0_0 4 rfl)
theorem dX3_load_5 : decode cX3_load 5 = .ok (.aload_n 0, 1) := zo_42 (zi_at zh_dX3_load_0_0 5 rfl)
theorem dX3_load_6 : decode cX3_load 6 = .ok (.getfield 55, 3) := zo_180 (zi_at zh_dX3_load_0_0 6 rfl) (zi_at zh_dX3_load_0_0 7 rfl) (zi_at zh_dX3_load_0_0 8 rfl) rfl
theorem dX3_load_9 : decode cX3_load 9 = .ok (.getfield 79, 3) := zo_180 (zi_at zh_dX3_load_0_0 9 rfl) (zi_at zh_dX3_load_0_0 10 rfl) (zi_at zh_dX3_load_0_0 11 rfl) rfl
theorem dX3_load_12 : decode cX3_load 12 = .ok (.invokevirtual 83, 3) := zo_182 (zi_at zh_dX3_load_0_0 12 rfl) (zi_at zh_dX3_load_0_0 13 rfl) (zi_at zh_dX3_load_0_0 14 rfl) rfl
theorem dX3_load_15 : decode cX3_load 15 = .ok (.iconst 0, 1) := zo_3 (zi_at zh_dX3_load_0_0 15 rfl)
theorem dX3_load_16 : decode cX3_load 16 = .ok (.istore_n 2, 1) := zo_61 (zi_at zh_dX3_load_16_16 0 rfl)
theorem dX3_load_17 : decode cX3_load 17 = .ok (.iload_n 2, 1) := zo_28 (zi_at zh_dX3_load_16_16 1 rfl)
theorem dX3_load_18 : decode cX3_load 18 = .ok (.bipush 16, 2) := zo_16 (zi_at zh_dX3_load_16_16 2 rfl) (zi_at zh_dX3_load_16_16 3 rfl) rfl
theorem dX3_load_20 : decode cX3_load 20 = .ok (.if_icmp .ge 83, 3) := zo_162 (zi_at zh_dX3_load_16_16 4 rfl) (zi_at zh_dX3_load_16_16 5 rfl) (zi_at zh_dX3_load_16_16 6 rfl) rfl
theorem dX3_load_23 : decode cX3_load 23 = .ok (.iload_n 1, 1) := zo_27 (zi_at zh_dX3_load_16_16 7 rfl)
theorem dX3_load_24 : decode cX3_load 24 = .ok (.iload_n 2, 1) := zo_28 (zi_at zh_dX3_load_16_16 8 rfl)
theorem dX3_load_25 : decode cX3_load 25 = .ok (.invokestatic 89, 3) := zo_184 (zi_at zh_dX3_load_16_16 9 rfl) (zi_at zh_dX3_load_16_16 10 rfl) (zi_at zh_dX3_load_16_16 11 rfl) rfl
theorem dX3_load_28 : decode cX3_load 28 = .ok (.istore_n 3, 1) := zo_62 (zi_at zh_dX3_load_16_16 12 rfl)
theorem dX3_load_29 : decode cX3_load 29 = .ok (.aload_n 0, 1) := zo_42 (zi_at zh_dX3_load_16_16 13 rfl)
theorem dX3_load_30 : decode cX3_load 30 = .ok (.getfield 11, 3) := zo_180 (zi_at zh_dX3_load_16_16 14 rfl) (zi_at zh_dX3_load_16_16 15 rfl) (zi_at zh_dX3_load_30_32 0 rfl) rfl
theorem dX3_load_33 : decode cX3_load 33 = .ok (.iload_n 3, 1) := zo_29 (zi_at zh_dX3_load_30_32 1 rfl)
theorem dX3_load_34 : decode cX3_load 34 = .ok (.aload_n 0, 1) := zo_42 (zi_at zh_dX3_load_30_32 2 rfl)
theorem dX3_load_35 : decode cX3_load 35 = .ok (.getfield 59, 3) := zo_180 (zi_at zh_dX3_load_30_32 3 rfl) (zi_at zh_dX3_load_30_32 4 rfl) (zi_at zh_dX3_load_30_32 5 rfl) rfl
theorem dX3_load_38 : decode cX3_load 38 = .ok (.getfield 93, 3) := zo_180 (zi_at zh_dX3_load_30_32 6 rfl) (zi_at zh_dX3_load_30_32 7 rfl) (zi_at zh_dX3_load_30_32 8 rfl) rfl
theorem dX3_load_41 : decode cX3_load 41 = .ok (.iload_n 2, 1) := zo_28 (zi_at zh_dX3_load_30_32 9 rfl)
theorem dX3_load_42 : decode cX3_load 42 = .ok (.iaload, 1) := zo_46 (zi_at zh_dX3_load_30_32 10 rfl)
theorem dX3_load_43 : decode cX3_load 43 = .ok (.ifCond .ne 7, 3) := zo_154 (zi_at zh_dX3_load_30_32 11 rfl) (zi_at zh_dX3_load_30_32 12 rfl) (zi_at zh_dX3_load_30_32 13 rfl) rfl
theorem dX3_load_46 : decode cX3_load 46 = .ok (.iconst 1, 1) := zo_4 (zi_at zh_dX3_load_30_32 14 rfl)
theorem dX3_load_47 : decode cX3_load 47 = .ok (.goto 4, 3) := zo_167 (zi_at zh_dX3_load_30_32 15 rfl) (zi_at zh_dX3_load_47_48 0 rfl) (zi_at zh_dX3_load_47_48 1 rfl) rfl
theorem dX3_load_50 : decode cX3_load 50 = .ok (.iconst 0, 1) := zo_3 (zi_at zh_dX3_load_47_48 2 rfl)
theorem dX3_load_51 : decode cX3_load 51 = .ok (.bastore, 1) := zo_84 (zi_at zh_dX3_load_47_48 3 rfl)
theorem dX3_load_52 : decode cX3_load 52 = .ok (.aload_n 0, 1) := zo_42 (zi_at zh_dX3_load_47_48 4 rfl)
theorem dX3_load_53 : decode cX3_load 53 = .ok (.getfield 15, 3) := zo_180 (zi_at zh_dX3_load_47_48 5 rfl) (zi_at zh_dX3_load_47_48 6 rfl) (zi_at zh_dX3_load_47_48 7 rfl) rfl
theorem dX3_load_56 : decode cX3_load 56 = .ok (.iload_n 3, 1) := zo_29 (zi_at zh_dX3_load_47_48 8 rfl)
theorem dX3_load_57 : decode cX3_load 57 = .ok (.aload_n 0, 1) := zo_42 (zi_at zh_dX3_load_47_48 9 rfl)
theorem dX3_load_58 : decode cX3_load 58 = .ok (.getfield 59, 3) := zo_180 (zi_at zh_dX3_load_47_48 10 rfl) (zi_at zh_dX3_load_47_48 11 rfl) (zi_at zh_dX3_load_47_48 12 rfl) rfl
theorem dX3_load_61 : decode cX3_load 61 = .ok (.getfield 96, 3) := zo_180 (zi_at zh_dX3_load_47_48 13 rfl) (zi_at zh_dX3_load_47_48 14 rfl) (zi_at zh_dX3_load_47_48 15 rfl) rfl
theorem dX3_load_64 : decode cX3_load 64 = .ok (.iload_n 2, 1) := zo_28 (zi_at zh_dX3_load_64_64 0 rfl)
theorem dX3_load_65 : decode cX3_load 65 = .ok (.iaload, 1) := zo_46 (zi_at zh_dX3_load_64_64 1 rfl)
theorem dX3_load_66 : decode cX3_load 66 = .ok (.iastore, 1) := zo_79 (zi_at zh_dX3_load_64_64 2 rfl)
theorem dX3_load_67 : decode cX3_load 67 = .ok (.aload_n 0, 1) := zo_42 (zi_at zh_dX3_load_64_64 3 rfl)
theorem dX3_load_68 : decode cX3_load 68 = .ok (.getfield 19, 3) := zo_180 (zi_at zh_dX3_load_64_64 4 rfl) (zi_at zh_dX3_load_64_64 5 rfl) (zi_at zh_dX3_load_64_64 6 rfl) rfl
theorem dX3_load_71 : decode cX3_load 71 = .ok (.iload_n 3, 1) := zo_29 (zi_at zh_dX3_load_64_64 7 rfl)
theorem dX3_load_72 : decode cX3_load 72 = .ok (.aload_n 0, 1) := zo_42 (zi_at zh_dX3_load_64_64 8 rfl)
theorem dX3_load_73 : decode cX3_load 73 = .ok (.getfield 59, 3) := zo_180 (zi_at zh_dX3_load_64_64 9 rfl) (zi_at zh_dX3_load_64_64 10 rfl) (zi_at zh_dX3_load_64_64 11 rfl) rfl
theorem dX3_load_76 : decode cX3_load 76 = .ok (.getfield 97, 3) := zo_180 (zi_at zh_dX3_load_64_64 12 rfl) (zi_at zh_dX3_load_64_64 13 rfl) (zi_at zh_dX3_load_64_64 14 rfl) rfl
theorem dX3_load_79 : decode cX3_load 79 = .ok (.iload_n 2, 1) := zo_28 (zi_at zh_dX3_load_64_64 15 rfl)
theorem dX3_load_80 : decode cX3_load 80 = .ok (.iaload, 1) := zo_46 (zi_at zh_dX3_load_80_80 0 rfl)
theorem dX3_load_81 : decode cX3_load 81 = .ok (.iastore, 1) := zo_79 (zi_at zh_dX3_load_80_80 1 rfl)
theorem dX3_load_82 : decode cX3_load 82 = .ok (.aload_n 0, 1) := zo_42 (zi_at zh_dX3_load_80_80 2 rfl)
theorem dX3_load_83 : decode cX3_load 83 = .ok (.getfield 22, 3) := zo_180 (zi_at zh_dX3_load_80_80 3 rfl) (zi_at zh_dX3_load_80_80 4 rfl) (zi_at zh_dX3_load_80_80 5 rfl) rfl
theorem dX3_load_86 : decode cX3_load 86 = .ok (.iload_n 3, 1) := zo_29 (zi_at zh_dX3_load_80_80 6 rfl)
theorem dX3_load_87 : decode cX3_load 87 = .ok (.aload_n 0, 1) := zo_42 (zi_at zh_dX3_load_80_80 7 rfl)
theorem dX3_load_88 : decode cX3_load 88 = .ok (.getfield 59, 3) := zo_180 (zi_at zh_dX3_load_80_80 8 rfl) (zi_at zh_dX3_load_80_80 9 rfl) (zi_at zh_dX3_load_80_80 10 rfl) rfl
theorem dX3_load_91 : decode cX3_load 91 = .ok (.getfield 98, 3) := zo_180 (zi_at zh_dX3_load_80_80 11 rfl) (zi_at zh_dX3_load_80_80 12 rfl) (zi_at zh_dX3_load_80_80 13 rfl) rfl
theorem dX3_load_94 : decode cX3_load 94 = .ok (.iload_n 2, 1) := zo_28 (zi_at zh_dX3_load_80_80 14 rfl)
theorem dX3_load_95 : decode cX3_load 95 = .ok (.iaload, 1) := zo_46 (zi_at zh_dX3_load_80_80 15 rfl)
theorem dX3_load_96 : decode cX3_load 96 = .ok (.iastore, 1) := zo_79 (zi_at zh_dX3_load_96_96 0 rfl)
theorem dX3_load_97 : decode cX3_load 97 = .ok (.iinc 2 1, 3) := zo_132 (zi_at zh_dX3_load_96_96 1 rfl) (zi_at zh_dX3_load_96_96 2 rfl) (zi_at zh_dX3_load_96_96 3 rfl) rfl
theorem dX3_load_100 : decode cX3_load 100 = .ok (.goto (-83), 3) := zo_167 (zi_at zh_dX3_load_96_96 4 rfl) (zi_at zh_dX3_load_96_96 5 rfl) (zi_at zh_dX3_load_96_96 6 rfl) rfl
theorem dX3_load_103 : decode cX3_load 103 = .ok (.return_, 1) := zo_177 (zi_at zh_dX3_load_96_96 7 rfl)
theorem dX3_middleOf_0 : decode cX3_middleOf 0 = .ok (.aload_n 0, 1) := zo_42 (zi_at zh_dX3_middleOf_0_0 0 rfl)
theorem dX3_middleOf_1 : decode cX3_middleOf 1 = .ok (.getfield 55, 3) := zo_180 (zi_at zh_dX3_middleOf_0_0 1 rfl) (zi_at zh_dX3_middleOf_0_0 2 rfl) (zi_at zh_dX3_middleOf_0_0 3 rfl) rfl
theorem dX3_middleOf_4 : decode cX3_middleOf 4 = .ok (.getfield 63, 3) := zo_180 (zi_at zh_dX3_middleOf_0_0 4 rfl) (zi_at zh_dX3_middleOf_0_0 5 rfl) (zi_at zh_dX3_middleOf_0_0 6 rfl) rfl
theorem dX3_middleOf_7 : decode cX3_middleOf 7 = .ok (.iload_n 1, 1) := zo_27 (zi_at zh_dX3_middleOf_0_0 7 rfl)
theorem dX3_middleOf_8 : decode cX3_middleOf 8 = .ok (.invokevirtual 99, 3) := zo_182 (zi_at zh_dX3_middleOf_0_0 8 rfl) (zi_at zh_dX3_middleOf_0_0 9 rfl) (zi_at zh_dX3_middleOf_0_0 10 rfl) rfl
theorem dX3_middleOf_11 : decode cX3_middleOf 11 = .ok (.checkcast 103, 3) := zo_192 (zi_at zh_dX3_middleOf_0_0 11 rfl) (zi_at zh_dX3_middleOf_0_0 12 rfl) (zi_at zh_dX3_middleOf_0_0 13 rfl) rfl
theorem dX3_middleOf_14 : decode cX3_middleOf 14 = .ok (.getfield 105, 3) := zo_180 (zi_at zh_dX3_middleOf_0_0 14 rfl) (zi_at zh_dX3_middleOf_0_0 15 rfl) (zi_at zh_dX3_middleOf_14_16 0 rfl) rfl
theorem dX3_middleOf_17 : decode cX3_middleOf 17 = .ok (.ifCond .ne 16, 3) := zo_154 (zi_at zh_dX3_middleOf_14_16 1 rfl) (zi_at zh_dX3_middleOf_14_16 2 rfl) (zi_at zh_dX3_middleOf_14_16 3 rfl) rfl
theorem dX3_middleOf_20 : decode cX3_middleOf 20 = .ok (.aload_n 0, 1) := zo_42 (zi_at zh_dX3_middleOf_14_16 4 rfl)
theorem dX3_middleOf_21 : decode cX3_middleOf 21 = .ok (.getfield 11, 3) := zo_180 (zi_at zh_dX3_middleOf_14_16 5 rfl) (zi_at zh_dX3_middleOf_14_16 6 rfl) (zi_at zh_dX3_middleOf_14_16 7 rfl) rfl
theorem dX3_middleOf_24 : decode cX3_middleOf 24 = .ok (.iload_n 1, 1) := zo_27 (zi_at zh_dX3_middleOf_14_16 8 rfl)
theorem dX3_middleOf_25 : decode cX3_middleOf 25 = .ok (.iload_n 2, 1) := zo_28 (zi_at zh_dX3_middleOf_14_16 9 rfl)
theorem dX3_middleOf_26 : decode cX3_middleOf 26 = .ok (.invokestatic 89, 3) := zo_184 (zi_at zh_dX3_middleOf_14_16 10 rfl) (zi_at zh_dX3_middleOf_14_16 11 rfl) (zi_at zh_dX3_middleOf_14_16 12 rfl) rfl
theorem dX3_middleOf_29 : decode cX3_middleOf 29 = .ok (.baload, 1) := zo_51 (zi_at zh_dX3_middleOf_14_16 13 rfl)
theorem dX3_middleOf_30 : decode cX3_middleOf 30 = .ok (.ifCond .ne 6, 3) := zo_154 (zi_at zh_dX3_middleOf_14_16 14 rfl) (zi_at zh_dX3_middleOf_14_16 15 rfl) (zi_at zh_dX3_middleOf_30_32 0 rfl) rfl
theorem dX3_middleOf_33 : decode cX3_middleOf 33 = .ok (.ldc 108, 2) := zo_18 (zi_at zh_dX3_middleOf_30_32 1 rfl) (zi_at zh_dX3_middleOf_30_32 2 rfl)
theorem dX3_middleOf_35 : decode cX3_middleOf 35 = .ok (.ireturn, 1) := zo_172 (zi_at zh_dX3_middleOf_30_32 3 rfl)
theorem dX3_middleOf_36 : decode cX3_middleOf 36 = .ok (.iconst 0, 1) := zo_3 (zi_at zh_dX3_middleOf_30_32 4 rfl)
theorem dX3_middleOf_37 : decode cX3_middleOf 37 = .ok (.istore_n 3, 1) := zo_62 (zi_at zh_dX3_middleOf_30_32 5 rfl)
theorem dX3_middleOf_38 : decode cX3_middleOf 38 = .ok (.iconst 0, 1) := zo_3 (zi_at zh_dX3_middleOf_30_32 6 rfl)
theorem dX3_middleOf_39 : decode cX3_middleOf 39 = .ok (.istore 4, 2) := zo_54 (zi_at zh_dX3_middleOf_30_32 7 rfl) (zi_at zh_dX3_middleOf_30_32 8 rfl)
theorem dX3_middleOf_41 : decode cX3_middleOf 41 = .ok (.iload 4, 2) := zo_21 (zi_at zh_dX3_middleOf_30_32 9 rfl) (zi_at zh_dX3_middleOf_30_32 10 rfl)
theorem dX3_middleOf_43 : decode cX3_middleOf 43 = .ok (.bipush 16, 2) := zo_16 (zi_at zh_dX3_middleOf_30_32 11 rfl) (zi_at zh_dX3_middleOf_30_32 12 rfl) rfl
theorem dX3_middleOf_45 : decode cX3_middleOf 45 = .ok (.if_icmp .ge 49, 3) := zo_162 (zi_at zh_dX3_middleOf_30_32 13 rfl) (zi_at zh_dX3_middleOf_30_32 14 rfl) (zi_at zh_dX3_middleOf_30_32 15 rfl) rfl
theorem dX3_middleOf_48 : decode cX3_middleOf 48 = .ok (.iload 4, 2) := zo_21 (zi_at zh_dX3_middleOf_48_48 0 rfl) (zi_at zh_dX3_middleOf_48_48 1 rfl)
theorem dX3_middleOf_50 : decode cX3_middleOf 50 = .ok (.iload_n 2, 1) := zo_28 (zi_at zh_dX3_middleOf_48_48 2 rfl)
theorem dX3_middleOf_51 : decode cX3_middleOf 51 = .ok (.if_icmp .eq 37, 3) := zo_159 (zi_at zh_dX3_middleOf_48_48 3 rfl) (zi_at zh_dX3_middleOf_48_48 4 rfl) (zi_at zh_dX3_middleOf_48_48 5 rfl) rfl
theorem dX3_middleOf_54 : decode cX3_middleOf 54 = .ok (.aload_n 0, 1) := zo_42 (zi_at zh_dX3_middleOf_48_48 6 rfl)
theorem dX3_middleOf_55 : decode cX3_middleOf 55 = .ok (.getfield 11, 3) := zo_180 (zi_at zh_dX3_middleOf_48_48 7 rfl) (zi_at zh_dX3_middleOf_48_48 8 rfl) (zi_at zh_dX3_middleOf_48_48 9 rfl) rfl
theorem dX3_middleOf_58 : decode cX3_middleOf 58 = .ok (.iload_n 1, 1) := zo_27 (zi_at zh_dX3_middleOf_48_48 10 rfl)
theorem dX3_middleOf_59 : decode cX3_middleOf 59 = .ok (.iload 4, 2) := zo_21 (zi_at zh_dX3_middleOf_48_48 11 rfl) (zi_at zh_dX3_middleOf_48_48 12 rfl)
theorem dX3_middleOf_61 : decode cX3_middleOf 61 = .ok (.invokestatic 89, 3) := zo_184 (zi_at zh_dX3_middleOf_48_48 13 rfl) (zi_at zh_dX3_middleOf_48_48 14 rfl) (zi_at zh_dX3_middleOf_48_48 15 rfl) rfl
theorem dX3_middleOf_64 : decode cX3_middleOf 64 = .ok (.baload, 1) := zo_51 (zi_at zh_dX3_middleOf_64_64 0 rfl)
theorem dX3_middleOf_65 : decode cX3_middleOf 65 = .ok (.ifCond .eq 23, 3) := zo_153 (zi_at zh_dX3_middleOf_64_64 1 rfl) (zi_at zh_dX3_middleOf_64_64 2 rfl) (zi_at zh_dX3_middleOf_64_64 3 rfl) rfl
theorem dX3_middleOf_68 : decode cX3_middleOf 68 = .ok (.aload_n 0, 1) := zo_42 (zi_at zh_dX3_middleOf_64_64 4 rfl)
theorem dX3_middleOf_69 : decode cX3_middleOf 69 = .ok (.getfield 22, 3) := zo_180 (zi_at zh_dX3_middleOf_64_64 5 rfl) (zi_at zh_dX3_middleOf_64_64 6 rfl) (zi_at zh_dX3_middleOf_64_64 7 rfl) rfl
theorem dX3_middleOf_72 : decode cX3_middleOf 72 = .ok (.iload_n 1, 1) := zo_27 (zi_at zh_dX3_middleOf_64_64 8 rfl)
theorem dX3_middleOf_73 : decode cX3_middleOf 73 = .ok (.iload 4, 2) := zo_21 (zi_at zh_dX3_middleOf_64_64 9 rfl) (zi_at zh_dX3_middleOf_64_64 10 rfl)
theorem dX3_middleOf_75 : decode cX3_middleOf 75 = .ok (.invokestatic 89, 3) := zo_184 (zi_at zh_dX3_middleOf_64_64 11 rfl) (zi_at zh_dX3_middleOf_64_64 12 rfl) (zi_at zh_dX3_middleOf_64_64 13 rfl) rfl
theorem dX3_middleOf_78 : decode cX3_middleOf 78 = .ok (.iaload, 1) := zo_46 (zi_at zh_dX3_middleOf_64_64 14 rfl)
theorem dX3_middleOf_79 : decode cX3_middleOf 79 = .ok (.aload_n 0, 1) := zo_42 (zi_at zh_dX3_middleOf_64_64 15 rfl)
theorem dX3_middleOf_80 : decode cX3_middleOf 80 = .ok (.getfield 37, 3) := zo_180 (zi_at zh_dX3_middleOf_80_80 0 rfl) (zi_at zh_dX3_middleOf_80_80 1 rfl) (zi_at zh_dX3_middleOf_80_80 2 rfl) rfl
theorem dX3_middleOf_83 : decode cX3_middleOf 83 = .ok (.iload_n 3, 1) := zo_29 (zi_at zh_dX3_middleOf_80_80 3 rfl)
theorem dX3_middleOf_84 : decode cX3_middleOf 84 = .ok (.invokestatic 109, 3) := zo_184 (zi_at zh_dX3_middleOf_80_80 4 rfl) (zi_at zh_dX3_middleOf_80_80 5 rfl) (zi_at zh_dX3_middleOf_80_80 6 rfl) rfl
theorem dX3_middleOf_87 : decode cX3_middleOf 87 = .ok (.istore_n 3, 1) := zo_62 (zi_at zh_dX3_middleOf_80_80 7 rfl)
theorem dX3_middleOf_88 : decode cX3_middleOf 88 = .ok (.iinc 4 1, 3) := zo_132 (zi_at zh_dX3_middleOf_80_80 8 rfl) (zi_at zh_dX3_middleOf_80_80 9 rfl) (zi_at zh_dX3_middleOf_80_80 10 rfl) rfl
theorem dX3_middleOf_91 : decode cX3_middleOf 91 = .ok (.goto (-50), 3) := zo_167 (zi_at zh_dX3_middleOf_80_80 11 rfl) (zi_at zh_dX3_middleOf_80_80 12 rfl) (zi_at zh_dX3_middleOf_80_80 13 rfl) rfl
theorem dX3_middleOf_94 : decode cX3_middleOf 94 = .ok (.iload_n 3, 1) := zo_29 (zi_at zh_dX3_middleOf_80_80 14 rfl)
theorem dX3_middleOf_95 : decode cX3_middleOf 95 = .ok (.ifCond .ne 8, 3) := zo_154 (zi_at zh_dX3_middleOf_80_80 15 rfl) (zi_at zh_dX3_middleOf_95_96 0 rfl) (zi_at zh_dX3_middleOf_95_96 1 rfl) rfl
theorem dX3_middleOf_98 : decode cX3_middleOf 98 = .ok (.ldc 108, 2) := zo_18 (zi_at zh_dX3_middleOf_95_96 2 rfl) (zi_at zh_dX3_middleOf_95_96 3 rfl)
theorem dX3_middleOf_100 : decode cX3_middleOf 100 = .ok (.goto 13, 3) := zo_167 (zi_at zh_dX3_middleOf_95_96 4 rfl) (zi_at zh_dX3_middleOf_95_96 5 rfl) (zi_at zh_dX3_middleOf_95_96 6 rfl) rfl
theorem dX3_middleOf_103 : decode cX3_middleOf 103 = .ok (.aload_n 0, 1) := zo_42 (zi_at zh_dX3_middleOf_95_96 7 rfl)
theorem dX3_middleOf_104 : decode cX3_middleOf 104 = .ok (.getfield 37, 3) := zo_180 (zi_at zh_dX3_middleOf_95_96 8 rfl) (zi_at zh_dX3_middleOf_95_96 9 rfl) (zi_at zh_dX3_middleOf_95_96 10 rfl) rfl
theorem dX3_middleOf_107 : decode cX3_middleOf 107 = .ok (.iload_n 3, 1) := zo_29 (zi_at zh_dX3_middleOf_95_96 11 rfl)
theorem dX3_middleOf_108 : decode cX3_middleOf 108 = .ok (.iconst 1, 1) := zo_4 (zi_at zh_dX3_middleOf_95_96 12 rfl)
theorem dX3_middleOf_109 : decode cX3_middleOf 109 = .ok (.isub, 1) := zo_100 (zi_at zh_dX3_middleOf_95_96 13 rfl)
theorem dX3_middleOf_110 : decode cX3_middleOf 110 = .ok (.iconst 2, 1) := zo_5 (zi_at zh_dX3_middleOf_95_96 14 rfl)
theorem dX3_middleOf_111 : decode cX3_middleOf 111 = .ok (.idiv, 1) := zo_108 (zi_at zh_dX3_middleOf_95_96 15 rfl)
theorem dX3_middleOf_112 : decode cX3_middleOf 112 = .ok (.iaload, 1) := zo_46 (zi_at zh_dX3_middleOf_112_112 0 rfl)
theorem dX3_middleOf_113 : decode cX3_middleOf 113 = .ok (.ireturn, 1) := zo_172 (zi_at zh_dX3_middleOf_112_112 1 rfl)
theorem dX12_middle_0 : decode cX12_middle 0 = .ok (.aload_n 0, 1) := zo_42 (zi_at zh_dX12_middle_0_0 0 rfl)
theorem dX12_middle_1 : decode cX12_middle 1 = .ok (.getfield 10, 3) := zo_180 (zi_at zh_dX12_middle_0_0 1 rfl) (zi_at zh_dX12_middle_0_0 2 rfl) (zi_at zh_dX12_middle_0_0 3 rfl) rfl
theorem dX12_middle_4 : decode cX12_middle 4 = .ok (.iload_n 1, 1) := zo_27 (zi_at zh_dX12_middle_0_0 4 rfl)
theorem dX12_middle_5 : decode cX12_middle 5 = .ok (.invokevirtual 135, 3) := zo_182 (zi_at zh_dX12_middle_0_0 5 rfl) (zi_at zh_dX12_middle_0_0 6 rfl) (zi_at zh_dX12_middle_0_0 7 rfl) rfl
theorem dX12_middle_8 : decode cX12_middle 8 = .ok (.ifCond .eq 14, 3) := zo_153 (zi_at zh_dX12_middle_0_0 8 rfl) (zi_at zh_dX12_middle_0_0 9 rfl) (zi_at zh_dX12_middle_0_0 10 rfl) rfl
theorem dX12_middle_11 : decode cX12_middle 11 = .ok (.aload_n 0, 1) := zo_42 (zi_at zh_dX12_middle_0_0 11 rfl)
theorem dX12_middle_12 : decode cX12_middle 12 = .ok (.getfield 10, 3) := zo_180 (zi_at zh_dX12_middle_0_0 12 rfl) (zi_at zh_dX12_middle_0_0 13 rfl) (zi_at zh_dX12_middle_0_0 14 rfl) rfl
theorem dX12_middle_15 : decode cX12_middle 15 = .ok (.iload_n 2, 1) := zo_28 (zi_at zh_dX12_middle_0_0 15 rfl)
theorem dX12_middle_16 : decode cX12_middle 16 = .ok (.invokevirtual 66, 3) := zo_182 (zi_at zh_dX12_middle_16_16 0 rfl) (zi_at zh_dX12_middle_16_16 1 rfl) (zi_at zh_dX12_middle_16_16 2 rfl) rfl
theorem dX12_middle_19 : decode cX12_middle 19 = .ok (.ifCond .ne 6, 3) := zo_154 (zi_at zh_dX12_middle_16_16 3 rfl) (zi_at zh_dX12_middle_16_16 4 rfl) (zi_at zh_dX12_middle_16_16 5 rfl) rfl
theorem dX12_middle_22 : decode cX12_middle 22 = .ok (.ldc 172, 2) := zo_18 (zi_at zh_dX12_middle_16_16 6 rfl) (zi_at zh_dX12_middle_16_16 7 rfl)
theorem dX12_middle_24 : decode cX12_middle 24 = .ok (.ireturn, 1) := zo_172 (zi_at zh_dX12_middle_16_16 8 rfl)
theorem dX12_middle_25 : decode cX12_middle 25 = .ok (.aload_n 0, 1) := zo_42 (zi_at zh_dX12_middle_16_16 9 rfl)
theorem dX12_middle_26 : decode cX12_middle 26 = .ok (.getfield 51, 3) := zo_180 (zi_at zh_dX12_middle_16_16 10 rfl) (zi_at zh_dX12_middle_16_16 11 rfl) (zi_at zh_dX12_middle_16_16 12 rfl) rfl
theorem dX12_middle_29 : decode cX12_middle 29 = .ok (.iload_n 1, 1) := zo_27 (zi_at zh_dX12_middle_16_16 13 rfl)
theorem dX12_middle_30 : decode cX12_middle 30 = .ok (.invokevirtual 261, 3) := zo_182 (zi_at zh_dX12_middle_16_16 14 rfl) (zi_at zh_dX12_middle_16_16 15 rfl) (zi_at zh_dX12_middle_30_32 0 rfl) rfl
theorem dX12_middle_33 : decode cX12_middle 33 = .ok (.aload_n 0, 1) := zo_42 (zi_at zh_dX12_middle_30_32 1 rfl)
theorem dX12_middle_34 : decode cX12_middle 34 = .ok (.getfield 51, 3) := zo_180 (zi_at zh_dX12_middle_30_32 2 rfl) (zi_at zh_dX12_middle_30_32 3 rfl) (zi_at zh_dX12_middle_30_32 4 rfl) rfl
theorem dX12_middle_37 : decode cX12_middle 37 = .ok (.iload_n 1, 1) := zo_27 (zi_at zh_dX12_middle_30_32 5 rfl)
theorem dX12_middle_38 : decode cX12_middle 38 = .ok (.iload_n 2, 1) := zo_28 (zi_at zh_dX12_middle_30_32 6 rfl)
theorem dX12_middle_39 : decode cX12_middle 39 = .ok (.invokevirtual 264, 3) := zo_182 (zi_at zh_dX12_middle_30_32 7 rfl) (zi_at zh_dX12_middle_30_32 8 rfl) (zi_at zh_dX12_middle_30_32 9 rfl) rfl
theorem dX12_middle_42 : decode cX12_middle 42 = .ok (.ireturn, 1) := zo_172 (zi_at zh_dX12_middle_30_32 10 rfl)
theorem dX12_sortIn_0 : decode cX12_sortIn 0 = .ok (.iload_n 2, 1) := zo_28 (zi_at zh_dX12_sortIn_0_0 0 rfl)
theorem dX12_sortIn_1 : decode cX12_sortIn 1 = .ok (.aload_n 1, 1) := zo_43 (zi_at zh_dX12_sortIn_0_0 1 rfl)
theorem dX12_sortIn_2 : decode cX12_sortIn 2 = .ok (.arraylength, 1) := zo_190 (zi_at zh_dX12_sortIn_0_0 2 rfl)
theorem dX12_sortIn_3 : decode cX12_sortIn 3 = .ok (.if_icmp .lt 5, 3) := zo_161 (zi_at zh_dX12_sortIn_0_0 3 rfl) (zi_at zh_dX12_sortIn_0_0 4 rfl) (zi_at zh_dX12_sortIn_0_0 5 rfl) rfl
theorem dX12_sortIn_6 : decode cX12_sortIn 6 = .ok (.iload_n 2, 1) := zo_28 (zi_at zh_dX12_sortIn_0_0 6 rfl)
theorem dX12_sortIn_7 : decode cX12_sortIn 7 = .ok (.ireturn, 1) := zo_172 (zi_at zh_dX12_sortIn_0_0 7 rfl)
theorem dX12_sortIn_8 : decode cX12_sortIn 8 = .ok (.iload_n 2, 1) := zo_28 (zi_at zh_dX12_sortIn_0_0 8 rfl)
theorem dX12_sortIn_9 : decode cX12_sortIn 9 = .ok (.istore_n 3, 1) := zo_62 (zi_at zh_dX12_sortIn_0_0 9 rfl)
theorem dX12_sortIn_10 : decode cX12_sortIn 10 = .ok (.iload_n 3, 1) := zo_29 (zi_at zh_dX12_sortIn_0_0 10 rfl)
theorem dX12_sortIn_11 : decode cX12_sortIn 11 = .ok (.ifCond .le 26, 3) := zo_158 (zi_at zh_dX12_sortIn_0_0 11 rfl) (zi_at zh_dX12_sortIn_0_0 12 rfl) (zi_at zh_dX12_sortIn_0_0 13 rfl) rfl
theorem dX12_sortIn_14 : decode cX12_sortIn 14 = .ok (.aload_n 1, 1) := zo_43 (zi_at zh_dX12_sortIn_0_0 14 rfl)
theorem dX12_sortIn_15 : decode cX12_sortIn 15 = .ok (.iload_n 3, 1) := zo_29 (zi_at zh_dX12_sortIn_0_0 15 rfl)
theorem dX12_sortIn_16 : decode cX12_sortIn 16 = .ok (.iconst 1, 1) := zo_4 (zi_at zh_dX12_sortIn_16_16 0 rfl)
theorem dX12_sortIn_17 : decode cX12_sortIn 17 = .ok (.isub, 1) := zo_100 (zi_at zh_dX12_sortIn_16_16 1 rfl)
theorem dX12_sortIn_18 : decode cX12_sortIn 18 = .ok (.iaload, 1) := zo_46 (zi_at zh_dX12_sortIn_16_16 2 rfl)
theorem dX12_sortIn_19 : decode cX12_sortIn 19 = .ok (.iload_n 0, 1) := zo_26 (zi_at zh_dX12_sortIn_16_16 3 rfl)
theorem dX12_sortIn_20 : decode cX12_sortIn 20 = .ok (.if_icmp .le 17, 3) := zo_164 (zi_at zh_dX12_sortIn_16_16 4 rfl) (zi_at zh_dX12_sortIn_16_16 5 rfl) (zi_at zh_dX12_sortIn_16_16 6 rfl) rfl
theorem dX12_sortIn_23 : decode cX12_sortIn 23 = .ok (.aload_n 1, 1) := zo_43 (zi_at zh_dX12_sortIn_16_16 7 rfl)
theorem dX12_sortIn_24 : decode cX12_sortIn 24 = .ok (.iload_n 3, 1) := zo_29 (zi_at zh_dX12_sortIn_16_16 8 rfl)
theorem dX12_sortIn_25 : decode cX12_sortIn 25 = .ok (.aload_n 1, 1) := zo_43 (zi_at zh_dX12_sortIn_16_16 9 rfl)
theorem dX12_sortIn_26 : decode cX12_sortIn 26 = .ok (.iload_n 3, 1) := zo_29 (zi_at zh_dX12_sortIn_16_16 10 rfl)
theorem dX12_sortIn_27 : decode cX12_sortIn 27 = .ok (.iconst 1, 1) := zo_4 (zi_at zh_dX12_sortIn_16_16 11 rfl)
theorem dX12_sortIn_28 : decode cX12_sortIn 28 = .ok (.isub, 1) := zo_100 (zi_at zh_dX12_sortIn_16_16 12 rfl)
theorem dX12_sortIn_29 : decode cX12_sortIn 29 = .ok (.iaload, 1) := zo_46 (zi_at zh_dX12_sortIn_16_16 13 rfl)
theorem dX12_sortIn_30 : decode cX12_sortIn 30 = .ok (.iastore, 1) := zo_79 (zi_at zh_dX12_sortIn_16_16 14 rfl)
theorem dX12_sortIn_31 : decode cX12_sortIn 31 = .ok (.iinc 3 (-1), 3) := zo_132 (zi_at zh_dX12_sortIn_16_16 15 rfl) (zi_at zh_dX12_sortIn_31_32 0 rfl) (zi_at zh_dX12_sortIn_31_32 1 rfl) rfl
theorem dX12_sortIn_34 : decode cX12_sortIn 34 = .ok (.goto (-24), 3) := zo_167 (zi_at zh_dX12_sortIn_31_32 2 rfl) (zi_at zh_dX12_sortIn_31_32 3 rfl) (zi_at zh_dX12_sortIn_31_32 4 rfl) rfl
theorem dX12_sortIn_37 : decode cX12_sortIn 37 = .ok (.aload_n 1, 1) := zo_43 (zi_at zh_dX12_sortIn_31_32 5 rfl)
theorem dX12_sortIn_38 : decode cX12_sortIn 38 = .ok (.iload_n 3, 1) := zo_29 (zi_at zh_dX12_sortIn_31_32 6 rfl)
theorem dX12_sortIn_39 : decode cX12_sortIn 39 = .ok (.iload_n 0, 1) := zo_26 (zi_at zh_dX12_sortIn_31_32 7 rfl)
theorem dX12_sortIn_40 : decode cX12_sortIn 40 = .ok (.iastore, 1) := zo_79 (zi_at zh_dX12_sortIn_31_32 8 rfl)
theorem dX12_sortIn_41 : decode cX12_sortIn 41 = .ok (.iload_n 2, 1) := zo_28 (zi_at zh_dX12_sortIn_31_32 9 rfl)
theorem dX12_sortIn_42 : decode cX12_sortIn 42 = .ok (.iconst 1, 1) := zo_4 (zi_at zh_dX12_sortIn_31_32 10 rfl)
theorem dX12_sortIn_43 : decode cX12_sortIn 43 = .ok (.iadd, 1) := zo_96 (zi_at zh_dX12_sortIn_31_32 11 rfl)
theorem dX12_sortIn_44 : decode cX12_sortIn 44 = .ok (.ireturn, 1) := zo_172 (zi_at zh_dX12_sortIn_31_32 12 rfl)
theorem hz_yX3_load_1 : yX3_load.cls ≠ "java/lang/invoke/MethodHandle" ∧ yX3_load.cls ≠ "java/lang/invoke/VarHandle" ∧ (parseMethodDescriptor yX3_load.desc).map (fun d => d.parameters.length) = some 1 := by decide +kernel
theorem hz_yX12_sortIn_3 : yX12_sortIn.cls ≠ "java/lang/invoke/MethodHandle" ∧ yX12_sortIn.cls ≠ "java/lang/invoke/VarHandle" ∧ (parseMethodDescriptor yX12_sortIn.desc).map (fun d => d.parameters.length) = some 3 := by decide +kernel
theorem hz_yX3_middleOf_2 : yX3_middleOf.cls ≠ "java/lang/invoke/MethodHandle" ∧ yX3_middleOf.cls ≠ "java/lang/invoke/VarHandle" ∧ (parseMethodDescriptor yX3_middleOf.desc).map (fun d => d.parameters.length) = some 2 := by decide +kernel

def v_sortIn51X : List Cond := .code yX12_sortIn cX12_sortIn 4 (some .int) :: vA
abbrev rm_sortIn51X : Room := { frames := 0, cells := 0, slots := 0, locals := 0 }
def w_sortIn51X : Nat → Nat → Bool := wl [51] []
set_option maxHeartbeats 4000000 in
set_option maxRecDepth 100000 in
theorem q_sortIn51X (l : Launch) (dC : Nat → ClassId) (dI : Nat → Nat → Nat) (cT : Nat → ClassId) (cf : Nat → Nat) (hC : CF cf) (ad : Nat → Nat) (E : Nat → va_E) (sz : Nat) (a0 : Int32) (a1 : Int32) (hI0 : IXL cT (shC cf) (spC cf) (LC cf) ad E) (hh0 : 0 ≤ a1.toInt ∧ a1.toInt ≤ 16) (hh1 : -100000 ≤ a0.toInt ∧ a0.toInt ≤ 400000) : Met l yX12_sortIn v_sortIn51X rm_sortIn51X (va_Pc [.int a0, .ref (ad 51), .int a1] (HWL dC dI (TYC cT) cf ad E sz)) (va_Qi (S := Nat → va_E) (fun r u => IXL cT (shC cf) (spC cf) (LC cf) ad u ∧ Kp w_sortIn51X E u ∧ ((0 ≤ r.toInt ∧ r.toInt ≤ 16) ∧ (r.toInt ≤ a1.toInt + 1) ∧ (a1.toInt < 16 → r.toInt = a1.toInt + 1 ∧ xi (u 51) = shf (xi (E 51)) a0 a1.toNatClampNeg))) (HBL dC dI (LC cf) ad) (va_A (WL (LC cf) ad E) sz)) 0 0 (va_A (WL (LC cf) ad E) sz) := by
  obtain ⟨⟨hc0, hc1, hc2, hc3, hc4, hc5⟩, hcr⟩ := id hC
  refine Met.ofW (cc := cX12_sortIn) (maxL := 4) (ret := (some .int)) (by decide) rfl ?_
  intro p e s m args below meth c s₁ B hml hv
  obtain ⟨hargs, hsz, hP, hK, hD0, hEV⟩ := hv
  subst hsz
  have hx := B.exec
  have hb := B.bytes
  have hr := B.returns
  have hts := atoms_spec (ws := v_sortIn51X) B.pre
  have hown : s.vm.findClass RX12 = some m.cls := findClass_of_methodNamed B.named
  have hlocks := B.notSynchronized
  generalize hAe : va_A (WL (LC cf) ad E) s.heap.size = A at hEV ⊢
  have hA : ∀ q : Nat, s.heap.size ≤ q → A q := fun q h => by rw [← hAe]; exact Or.inr h
  have hD : va_D A (WL (LC cf) ad E) := by rw [← hAe]; exact hD0.self
  have hS : va_S A s.heap s.heap [] := va_S.rf
  have hI := hI0
  have hKp : Kp w_sortIn51X E E := Kp.rf
  have hl := lv_entry ([.int a0, .ref (ad 51), .int a1]) (n := 4) (Nat.le_of_ble_eq_true rfl)
  obtain ⟨Q, hQ⟩ : ∃ Q, Q = MQ below (va_Qi (S := Nat → va_E) (fun r u => IXL cT (shC cf) (spC cf) (LC cf) ad u ∧ Kp w_sortIn51X E u ∧ ((0 ≤ r.toInt ∧ r.toInt ≤ 16) ∧ (r.toInt ≤ a1.toInt + 1) ∧ (a1.toInt < 16 → r.toInt = a1.toInt + 1 ∧ xi (u 51) = shf (xi (E 51)) a0 a1.toNatClampNeg))) (HBL dC dI (LC cf) ad) (A)) args s 0 0 (A) := ⟨_, rfl⟩
  rw [← hQ, show entryFrame m args 4 = _ from (congrArg (fun z => entryFrame m z 4) hargs).trans (lg_entry_eq _ _ _)]
  generalize (lg_sl ([.int a0, .ref (ad 51), .int a1]) ++ List.replicate (4 - (lg_sl ([.int a0, .ref (ad 51), .int a1])).length) Slot.unset).toArray = ls at hl ⊢
  have hl : lv_has ls 4 [(0, .int a0), (1, .ref (ad 51)), (2, .int a1)] := hl
  obtain ⟨g1, hg1⟩ : ∃ g, xi (E 51) = g := ⟨_, rfl⟩
  have z0z : (0 : Int32).toInt = 0 := rfl
  refine lv_iload_n hx hb dX12_sortIn_0 rfl (lv_at hl 2 rfl) ?_
  refine lv_aload_n hx hb dX12_sortIn_1 rfl (lv_at hl 1 rfl) ?_
  refine va_alen (v := 16) hx hb hK hP (posL 51 (LC cf)) 0 (hI.ar 51 (mF 51 rfl) rfl) rfl rfl dX12_sortIn_2 ?_
  refine lv_icmp_lt (tgt := 8) hx hb dX12_sortIn_3 (by decide) (fun c2 => ?_) (fun c2 => ?_)
  · --3 taken
    have t3 : a1.toInt < 16 := ti_lt c2
    have i4 : 0 ≤ a1.toInt ∧ a1.toInt ≤ 15 := iv_lt_l t3 hh0 (il_ 16) (by decide)
    refine lv_iload_n hx hb dX12_sortIn_8 rfl (lv_at hl 2 rfl) ?_
    refine lv_istore_n (lv' := [(3, .int a1), (0, .int a0), (1, .ref (ad 51)), (2, .int a1)]) hx hb dX12_sortIn_9 rfl hl (by decide) rfl (fun ls hl => ?_)
    have hL10 : ∀ d : Nat, ∀ (g10_51 : Nat → Int32) (v10_3 : Int32) (E10_ : Nat → va_E) (H : Heap) (locs : List Loc) (ls : Array Slot), 0 ≤ v10_3.toInt ∧ v10_3.toInt ≤ 15 → shf g1 a0 a1.toNatClampNeg = shf g10_51 a0 v10_3.toNatClampNeg → v10_3.toInt ≤ a1.toInt → v10_3.toInt - 0 < (d : Int) → IXL cT (shC cf) (spC cf) (LC cf) ad E10_ → Kp w_sortIn51X E E10_ → xi (E10_ 51) = g10_51 → va_P (dC, dI) vwCl (WL (LC cf) ad E10_) H → va_S A s.heap H locs → lv_has ls 4 [(3, .int v10_3), (0, .int a0), (1, .ref (ad 51)), (2, .int a1)] → W p l e (headSpec v_sortIn51X rm_sortIn51X).room s m args below meth c H locs 0 0 Q (F0 m 10 ls []) := by
      intro d
      induction d with
      | zero =>
        intro g10_51 v10_3 E10_ H locs ls hv10_3 hx10_0 hx10_1 hx10_2 hI hKp hr10_51 hP hS hl
        exact absurd hx10_2 (by first | exact ms_zd hv10_3.1 | omega)
      | succ d ih10 =>
        intro g10_51 v10_3 E10_ H locs ls hv10_3 hx10_0 hx10_1 hx10_2 hI hKp hr10_51 hP hS hl
        refine lv_iload_n hx hb dX12_sortIn_10 rfl (lv_at hl 0 rfl) ?_
        refine lv_if_le (tgt := 37) hx hb dX12_sortIn_11 (by decide) (fun c5 => ?_) (fun c5 => ?_)
        · --11 taken
          have t6 : v10_3.toInt ≤ 0 := ti_le c5
          have i7 : 0 ≤ v10_3.toInt ∧ v10_3.toInt ≤ 0 := iv_le_l t6 hv10_3 (il_ 0) (by decide)
          refine lv_aload_n hx hb dX12_sortIn_37 rfl (lv_at hl 2 rfl) ?_
          refine lv_iload_n hx hb dX12_sortIn_38 rfl (lv_at hl 0 rfl) ?_
          refine lv_iload_n hx hb dX12_sortIn_39 rfl (lv_at hl 1 rfl) ?_
          have n8 : vp_in v10_3 16 := (iv_in (n := 16) i7 (by decide))
          refine th_iastL hx hb hK hP (WL_D hD) hS hI 51 (mF 51 rfl) rfl rfl n8 (okI rfl hh1) dX12_sortIn_40 (fun H locs E9 pw10 hI hP hS => ?_)
          have hKp := hKp.pw pw10 rfl
          obtain ⟨g11, eg11⟩ : ∃ z : Nat → Int32, z = upd g10_51 v10_3.toNatClampNeg a0 := ⟨_, rfl⟩
          have hg11 : xi (E9 51) = g11 := by rw [pw10.eu, hr10_51, eg11]
          refine lv_iload_n hx hb dX12_sortIn_41 rfl (lv_at hl 3 rfl) ?_
          refine lv_iconst (v := 1) hx hb dX12_sortIn_42 (by decide) ?_
          refine lv_iadd hx hb dX12_sortIn_43 ?_
          refine lv_topi (fun y12 ey12 => ?_)
          obtain ⟨ty12, iy12⟩ := ti_add (e := 1) (f := 16) i4 ln_1 ey12 (by decide)
          have ty12 : y12.toInt = a1.toInt + 1 := ty12
          have iy12 : 1 ≤ y12.toInt ∧ y12.toInt ≤ 16 := iy12
          rw [hQ]
          exact W.iret (v := y12) hx hb hr (fun t ht hW => ⟨⟨y12, E9, rfl, ⟨hI, hKp, ⟨(iv_w iy12 (by decide)), by all_goals omega, (fun _ => ⟨by omega, (show xi (E9 51) = g11 from hg11).trans (eg11.trans (Eq.symm (by rw [show xi (E 51) = g1 from hg1, hx10_0]; rw [show v10_3.toNatClampNeg = 0 by rw [tn_]; omega]; exact shf_0)))⟩)⟩⟩, by show va_P (dC, dI) vwCl (WL (LC cf) ad E9) t.heap; rw [ht]; exact hP⟩, hS.F ht⟩) hS.2.2 dX12_sortIn_44
        · --11 not
          have t13 : (0 : Int) < v10_3.toInt := ti_nle c5
          have i14 : 1 ≤ v10_3.toInt ∧ v10_3.toInt ≤ 15 := iv_lt_r t13 (il_ 0) hv10_3 (by decide)
          refine lv_aload_n hx hb dX12_sortIn_14 rfl (lv_at hl 2 rfl) ?_
          refine lv_iload_n hx hb dX12_sortIn_15 rfl (lv_at hl 0 rfl) ?_
          refine lv_iconst (v := 1) hx hb dX12_sortIn_16 (by decide) ?_
          refine lv_isub hx hb dX12_sortIn_17 ?_
          refine lv_topi (fun y15 ey15 => ?_)
          obtain ⟨ty15, iy15⟩ := ti_sub (e := 0) (f := 14) i14 ln_1 ey15 (by decide)
          have ty15 : y15.toInt = v10_3.toInt - 1 := ty15
          have iy15 : 0 ≤ y15.toInt ∧ y15.toInt ≤ 14 := iy15
          have n17 : vp_in y15 16 := (iv_in (n := 16) iy15 (by decide))
          refine th_ialdL hx hb hK hP hI 51 (mF 51 rfl) rfl rfl n17 dX12_sortIn_18 (fun y16 ey16 => ?_)
          have iy16 : -100000 ≤ y16.toInt ∧ y16.toInt ≤ 400000 := hI.el 51 (mF 51 rfl) rfl n17 (fun _ => rfl) ey16
          have ey16 := ey16.trans (congrFun hr10_51 _)
          refine lv_iload_n hx hb dX12_sortIn_19 rfl (lv_at hl 1 rfl) ?_
          refine lv_icmp_le (tgt := 37) hx hb dX12_sortIn_20 (by decide) (fun c18 => ?_) (fun c18 => ?_)
          · --20 taken
            have t19 : y16.toInt ≤ a0.toInt := ti_le c18
            refine lv_aload_n hx hb dX12_sortIn_37 rfl (lv_at hl 2 rfl) ?_
            refine lv_iload_n hx hb dX12_sortIn_38 rfl (lv_at hl 0 rfl) ?_
            refine lv_iload_n hx hb dX12_sortIn_39 rfl (lv_at hl 1 rfl) ?_
            have n20 : vp_in v10_3 16 := (iv_in (n := 16) i14 (by decide))
            refine th_iastL hx hb hK hP (WL_D hD) hS hI 51 (mF 51 rfl) rfl rfl n20 (okI rfl hh1) dX12_sortIn_40 (fun H locs E21 pw22 hI hP hS => ?_)
            have hKp := hKp.pw pw22 rfl
            obtain ⟨g23, eg23⟩ : ∃ z : Nat → Int32, z = upd g10_51 v10_3.toNatClampNeg a0 := ⟨_, rfl⟩
            have hg23 : xi (E21 51) = g23 := by rw [pw22.eu, hr10_51, eg23]
            refine lv_iload_n hx hb dX12_sortIn_41 rfl (lv_at hl 3 rfl) ?_
            refine lv_iconst (v := 1) hx hb dX12_sortIn_42 (by decide) ?_
            refine lv_iadd hx hb dX12_sortIn_43 ?_
            refine lv_topi (fun y24 ey24 => ?_)
            obtain ⟨ty24, iy24⟩ := ti_add (e := 1) (f := 16) i4 ln_1 ey24 (by decide)
            have ty24 : y24.toInt = a1.toInt + 1 := ty24
            have iy24 : 1 ≤ y24.toInt ∧ y24.toInt ≤ 16 := iy24
            rw [hQ]
            exact W.iret (v := y24) hx hb hr (fun t ht hW => ⟨⟨y24, E21, rfl, ⟨hI, hKp, ⟨(iv_w iy24 (by decide)), by all_goals omega, (fun _ => ⟨by omega, (show xi (E21 51) = g23 from hg23).trans (eg23.trans (Eq.symm (by rw [show xi (E 51) = g1 from hg1, hx10_0]; rw [(show v10_3.toNatClampNeg = y15.toNatClampNeg + 1 by rw [tn_ v10_3, tn_ y15]; omega)]; exact shf_e (by rw [← ey16]; omega))))⟩)⟩⟩, by show va_P (dC, dI) vwCl (WL (LC cf) ad E21) t.heap; rw [ht]; exact hP⟩, hS.F ht⟩) hS.2.2 dX12_sortIn_44
          · --20 not
            have t25 : a0.toInt < y16.toInt := ti_nle c18
            have i26 : -100000 ≤ a0.toInt ∧ a0.toInt ≤ 399999 := iv_lt_l t25 hh1 iy16 (by decide)
            have i27 : -99999 ≤ y16.toInt ∧ y16.toInt ≤ 400000 := iv_lt_r t25 hh1 iy16 (by decide)
            refine lv_aload_n hx hb dX12_sortIn_23 rfl (lv_at hl 2 rfl) ?_
            refine lv_iload_n hx hb dX12_sortIn_24 rfl (lv_at hl 0 rfl) ?_
            refine lv_aload_n hx hb dX12_sortIn_25 rfl (lv_at hl 2 rfl) ?_
            refine lv_iload_n hx hb dX12_sortIn_26 rfl (lv_at hl 0 rfl) ?_
            refine lv_iconst (v := 1) hx hb dX12_sortIn_27 (by decide) ?_
            refine lv_isub hx hb dX12_sortIn_28 ?_
            refine lv_topi (fun y28 ey28 => ?_)
            obtain ⟨ty28, iy28⟩ := ti_sub (e := 0) (f := 14) i14 ln_1 ey28 (by decide)
            have ty28 : y28.toInt = v10_3.toInt - 1 := ty28
            have iy28 : 0 ≤ y28.toInt ∧ y28.toInt ≤ 14 := iy28
            have n30 : vp_in y28 16 := (iv_in (n := 16) iy28 (by decide))
            refine th_ialdL hx hb hK hP hI 51 (mF 51 rfl) rfl rfl n30 dX12_sortIn_29 (fun y29 ey29 => ?_)
            have iy29 : -100000 ≤ y29.toInt ∧ y29.toInt ≤ 400000 := hI.el 51 (mF 51 rfl) rfl n30 (fun _ => rfl) ey29
            have ey29 := ey29.trans (congrFun hr10_51 _)
            have n31 : vp_in v10_3 16 := (iv_in (n := 16) i14 (by decide))
            refine th_iastL hx hb hK hP (WL_D hD) hS hI 51 (mF 51 rfl) rfl rfl n31 (okI rfl iy29) dX12_sortIn_30 (fun H locs E32 pw33 hI hP hS => ?_)
            have hKp := hKp.pw pw33 rfl
            obtain ⟨g34, eg34⟩ : ∃ z : Nat → Int32, z = upd g10_51 v10_3.toNatClampNeg y29 := ⟨_, rfl⟩
            have hg34 : xi (E32 51) = g34 := by rw [pw33.eu, hr10_51, eg34]
            obtain ⟨y35, ey35⟩ : ∃ y : Int32, y = v10_3 + (-1 : Int32) := ⟨_, rfl⟩
            obtain ⟨ty35, iy35⟩ := ti_add (e := 0) (f := 14) i14 ln_m1 ey35 (by decide)
            have ty35 : y35.toInt = v10_3.toInt + (-1) := ty35
            have iy35 : 0 ≤ y35.toInt ∧ y35.toInt ≤ 14 := iy35
            refine lv_iinc (v := y35) (lv' := [(3, .int y35), (0, .int a0), (1, .ref (ad 51)), (2, .int a1)]) hx hb dX12_sortIn_31 hl (k := 0) rfl (by rw [ey35]; rfl) (by decide) rfl (fun ls hl => ?_)
            refine lv_goto (tgt := 10) hx hb dX12_sortIn_34 (by decide) ?_
            exact ih10 g34 y35 E32 _ _ _ (iv_w iy35 (by decide)) (by rw [hx10_0, (show v10_3.toNatClampNeg = y35.toNatClampNeg + 1 by rw [tn_ v10_3, tn_ y35]; omega), shf_s (show a0.toInt < (g10_51 y35.toNatClampNeg).toInt by rw [← (show y15.toNatClampNeg = y35.toNatClampNeg by rw [tn_ y15, tn_ y35]; omega), ← ey16]; omega)]; congr 1; rw [eg34, (show v10_3.toNatClampNeg = y35.toNatClampNeg + 1 by rw [tn_ v10_3, tn_ y35]; omega), ey29, (show y28.toNatClampNeg = y35.toNatClampNeg by rw [tn_ y28, tn_ y35]; omega)]) (by omega) (by first | exact ms_sd hx10_2 ty35 (by decide) | exact ms_sd2 hx10_2 ty35 | omega) hI hKp hg34 hP hS (lv_sub hl [0, 1, 2, 3] rfl)
    exact hL10 (16) g1 a1 E _ _ _ i4 rfl (by omega) (by have h9 := i4; first | exact ms_bd h9.2 (by decide) | omega) hI hKp hg1 hP hS (lv_sub hl [0, 1, 2, 3] rfl)
  · --3 not
    have t36 : (16 : Int) ≤ a1.toInt := ti_nlt c2
    have i37 : 16 ≤ a1.toInt ∧ a1.toInt ≤ 16 := iv_le_r t36 (il_ 16) hh0 (by decide)
    refine lv_iload_n hx hb dX12_sortIn_6 rfl (lv_at hl 2 rfl) ?_
    rw [hQ]
    exact W.iret (v := a1) hx hb hr (fun t ht hW => ⟨⟨a1, E, rfl, ⟨hI, hKp, ⟨(iv_w i37 (by decide)), by all_goals omega, (fun q9 => by exfalso; omega)⟩⟩, by show va_P (dC, dI) vwCl (WL (LC cf) ad E) t.heap; rw [ht]; exact hP⟩, hS.F ht⟩) hS.2.2 dX12_sortIn_7
def v_loadX : List Cond := .code yX3_load cX3_load 4 none :: vA
abbrev rm_loadX : Room := { frames := 6, cells := 0, slots := 0, locals := 240 }
def w_loadX : Nat → Nat → Bool := wl [19, 20, 26, 27, 28, 29, 30, 43, 44, 45, 46] [(3, 6), (3, 7), (3, 8)]
set_option maxHeartbeats 4000000 in
set_option maxRecDepth 100000 in
theorem q_loadX (l : Launch) (dC : Nat → ClassId) (dI : Nat → Nat → Nat) (cT : Nat → ClassId) (cf : Nat → Nat) (hC : CF cf) (ad : Nat → Nat) (E : Nat → va_E) (sz : Nat) (a0 : Int32) (hI0 : IXL cT (shC cf) (spC cf) (LC cf) ad E) (hh0 : 0 ≤ a0.toInt ∧ a0.toInt ≤ 19) (hh1 : a0.toInt < ((cf 2 : Nat) : Int)) (hh2 : RulAll cf E) : Met l yX3_load v_loadX rm_loadX (va_Pc [.ref (ad 6), .int a0] (HWL dC dI (TYC cT) cf ad E sz)) (va_Qv (S := Nat → va_E) (fun u => IXL cT (shC cf) (spC cf) (LC cf) ad u ∧ Kp w_loadX E u ∧ ((LdR cf E u a0 (xi (E 1) 0)))) (HBL dC dI (LC cf) ad) (va_A (WL (LC cf) ad E) sz)) 0 0 (va_A (WL (LC cf) ad E) sz) := by
  obtain ⟨⟨hc0, hc1, hc2, hc3, hc4, hc5⟩, hcr⟩ := id hC
  refine Met.ofW (cc := cX3_load) (maxL := 4) (ret := none) (by decide) rfl ?_
  intro p e s m args below meth c s₁ B hml hv
  obtain ⟨hargs, hsz, hP, hK, hD0, hEV⟩ := hv
  subst hsz
  have hx := B.exec
  have hb := B.bytes
  have hr := B.returns
  have hts := atoms_spec (ws := v_loadX) B.pre
  have hown : s.vm.findClass RX3 = some m.cls := findClass_of_methodNamed B.named
  have hlocks := B.notSynchronized
  have hinX0 : ∀ w ∈ u_ws RX0 TX0 11, w ∈ v_loadX := fun w h => vA_in _ w (in_X0 w h)
  have hinX3 : ∀ w ∈ u_ws RX3 TX3 18, w ∈ v_loadX := fun w h => vA_in _ w (in_X3 w h)
  have hinX9 : ∀ w ∈ u_ws RX9 TX9 9, w ∈ v_loadX := fun w h => vA_in _ w (in_X9 w h)
  generalize hAe : va_A (WL (LC cf) ad E) s.heap.size = A at hEV ⊢
  have hA : ∀ q : Nat, s.heap.size ≤ q → A q := fun q h => by rw [← hAe]; exact Or.inr h
  have hD : va_D A (WL (LC cf) ad E) := by rw [← hAe]; exact hD0.self
  have hS : va_S A s.heap s.heap [] := va_S.rf
  have hI := hI0
  have hKp : Kp w_loadX E E := Kp.rf
  have hl := lv_entry ([.ref (ad 6), .int a0]) (n := 4) (Nat.le_of_ble_eq_true rfl)
  obtain ⟨Q, hQ⟩ : ∃ Q, Q = MQ below (va_Qv (S := Nat → va_E) (fun u => IXL cT (shC cf) (spC cf) (LC cf) ad u ∧ Kp w_loadX E u ∧ ((LdR cf E u a0 (xi (E 1) 0)))) (HBL dC dI (LC cf) ad) (A)) args s 0 0 (A) := ⟨_, rfl⟩
  rw [← hQ, show entryFrame m args 4 = _ from (congrArg (fun z => entryFrame m z 4) hargs).trans (lg_entry_eq _ _ _)]
  generalize (lg_sl ([.ref (ad 6), .int a0]) ++ List.replicate (4 - (lg_sl ([.ref (ad 6), .int a0])).length) Slot.unset).toArray = ls at hl ⊢
  have hl : lv_has ls 4 [(0, .ref (ad 6)), (1, .int a0)] := hl
  obtain ⟨g1, hg1⟩ : ∃ g, xi (E 43) = g := ⟨_, rfl⟩
  obtain ⟨g2, hg2⟩ : ∃ g, xi (E 44) = g := ⟨_, rfl⟩
  obtain ⟨g3, hg3⟩ : ∃ g, xi (E 45) = g := ⟨_, rfl⟩
  obtain ⟨g4, hg4⟩ : ∃ g, xi (E 46) = g := ⟨_, rfl⟩
  have z0z : (0 : Int32).toInt = 0 := rfl
  refine lv_aload_n hx hb dX3_load_0 rfl (lv_at hl 0 rfl) ?_
  refine th_getL (ci := 4) (C := RX3) (T := TX3) (N := 18) (v := .ref (ad 3)) hx hb hts hinX3 hown hK hP hI 6 (mF 6 rfl) rfl rfl 1 (Nat.le_of_ble_eq_true rfl) (hts _ (vA_in _ _ (in_11 _ (zs16 (zs4 (zs4 (zs0))))))) (fun _ h9 => h9) (hI.fr 6 (mF 6 rfl) rfl (Nat.le_of_ble_eq_true rfl) 3 rfl) dX3_load_1 ?_
  refine lv_iload_n hx hb dX3_load_4 rfl (lv_at hl 1 rfl) ?_
  refine lv_aload_n hx hb dX3_load_5 rfl (lv_at hl 0 rfl) ?_
  refine th_getL (ci := 4) (C := RX3) (T := TX3) (N := 18) (v := .ref (ad 1)) hx hb hts hinX3 hown hK hP hI 6 (mF 6 rfl) rfl rfl 0 (Nat.le_of_ble_eq_true rfl) (hts _ (vA_in _ _ (in_11 _ (zs16 (zs1 (zs0)))))) (fun _ h9 => h9) (hI.fr 6 (mF 6 rfl) rfl (Nat.le_of_ble_eq_true rfl) 1 rfl) dX3_load_6 ?_
  have i5 : 0 ≤ (xi (E 1) 0).toInt ∧ (xi (E 1) 0).toInt ≤ 400 := hI0.iv 1 (mF 1 rfl) rfl (Nat.le_of_ble_eq_true rfl) rfl
  refine th_getL (ci := 1) (C := RX0) (T := TX0) (N := 11) (v := .int (xi (E 1) 0)) hx hb hts hinX0 hown hK hP hI 1 (mF 1 rfl) rfl rfl 0 (Nat.le_of_ble_eq_true rfl) (hts _ (vA_in _ _ (in_11 _ (zs16 (zs4 (zs4 (zs1 (zs0)))))))) (fun _ h9 => h9) (th_v0L hKp hI0 1 (mF 1 rfl) rfl (Nat.le_of_ble_eq_true rfl) rfl rfl) dX3_load_9 ?_
  refine th_vL (va_runV (As := [.int a0, .int (xi (E 1) 0)]) (rest := []) ⟨hx, hb, hml, hown, hts⟩ (q_sheetX l dC dI cT cf hC ad E s.heap.size a0 (xi (E 1) 0) hI hh0 (by omega) (by exact hh2)) (cwV 2 hts (gi_V (in_11 _ (zs16 (zs16 (zs1 (zs1 (zs0)))))) (in_11 _ (zs16 (zs16 (zs1 (zs1 (zs1 (zs0))))))) (in_11 _ (zs16 (zs16 (zs4 (zs0))))) (in_11 _ (zs16 (zs16 (zs4 (zs1 (zs0)))))) (in_11 _ (zs16 (zs16 (zs4 (zs1 (zs1 (zs0)))))))) rfl rfl rfl ⟨rfl, hz_yX9_read_2⟩ ⟨Nat.le_of_ble_eq_true rfl, Nat.le_of_ble_eq_true rfl⟩) ⟨HWL_bl, va_recv hK hP (ci := 10) (q0 := posL 3 (LC cf)) rfl (hI.ob 3 (mF 3 rfl) rfl), (HWL_wi hP hK (WL_D hD) hS hA hEV)⟩ rfl rfl hl.1 rfl (lv_room (Nat.le_of_ble_eq_true rfl)) dX3_load_12 ⟨Nat.le_of_ble_eq_true rfl, Nat.le_of_ble_eq_true rfl⟩) (WL_D hD) hS hA (fun E7 H locs hw hP hS => ?_)
  obtain ⟨hI, kq8, hw⟩ := hw
  have hKb := hKp
  have hKp := hKp.tr kq8 (wl_sub rfl rfl)
  obtain ⟨y9, ey9⟩ : ∃ y, xi (E7 3) 6 = y := ⟨_, rfl⟩
  have fy9 : xv (E7 3) 6 = .int y9 := (hI.fi 3 (mF 3 rfl) rfl (Nat.le_of_ble_eq_true rfl) rfl).trans (congrArg Value.int ey9)
  have i10 : -1 ≤ y9.toInt ∧ y9.toInt ≤ 15 := by rw [← ey9]; exact hI.iv 3 (mF 3 rfl) rfl (Nat.le_of_ble_eq_true rfl) rfl
  obtain ⟨y11, ey11⟩ : ∃ y, xi (E7 3) 7 = y := ⟨_, rfl⟩
  have fy11 : xv (E7 3) 7 = .int y11 := (hI.fi 3 (mF 3 rfl) rfl (Nat.le_of_ble_eq_true rfl) rfl).trans (congrArg Value.int ey11)
  have i12 : 0 ≤ y11.toInt ∧ y11.toInt ≤ 16 := by rw [← ey11]; exact hI.iv 3 (mF 3 rfl) rfl (Nat.le_of_ble_eq_true rfl) rfl
  obtain ⟨y13, ey13⟩ : ∃ y, xi (E7 3) 8 = y := ⟨_, rfl⟩
  have fy13 : xv (E7 3) 8 = .int y13 := (hI.fi 3 (mF 3 rfl) rfl (Nat.le_of_ble_eq_true rfl) rfl).trans (congrArg Value.int ey13)
  have i14 : 0 ≤ y13.toInt ∧ y13.toInt ≤ 16 := by rw [← ey13]; exact hI.iv 3 (mF 3 rfl) rfl (Nat.le_of_ble_eq_true rfl) rfl
  have f15 := hw
  obtain ⟨g16, hg16⟩ : ∃ g, xi (E7 26) = g := ⟨_, rfl⟩
  obtain ⟨g17, hg17⟩ : ∃ g, xi (E7 27) = g := ⟨_, rfl⟩
  obtain ⟨g18, hg18⟩ : ∃ g, xi (E7 28) = g := ⟨_, rfl⟩
  obtain ⟨g19, hg19⟩ : ∃ g, xi (E7 29) = g := ⟨_, rfl⟩
  refine lv_iconst (v := 0) hx hb dX3_load_15 (by decide) ?_
  refine lv_istore_n (lv' := [(2, .int 0), (0, .ref (ad 6)), (1, .int a0)]) hx hb dX3_load_16 rfl hl (by decide) rfl (fun ls hl => ?_)
  have hL17 : ∀ d : Nat, ∀ (g17_43 : Nat → Int32) (g17_44 : Nat → Int32) (g17_45 : Nat → Int32) (g17_46 : Nat → Int32) (v17_2 : Int32) (E17_ : Nat → va_E) (H : Heap) (locs : List Loc) (ls : Array Slot), 0 ≤ v17_2.toInt ∧ v17_2.toInt ≤ 16 → (∀ b9 : Nat, b9 < v17_2.toNatClampNeg → (fun b9 z9 => (g16 b9).toInt = 0 ↔ z9.toInt = 1) b9 (g17_43 ((16 * a0.toNatClampNeg) + b9))) → (∀ b9 : Nat, b9 < v17_2.toNatClampNeg → (fun b9 z9 => z9 = g17 b9) b9 (g17_44 ((16 * a0.toNatClampNeg) + b9))) → (∀ b9 : Nat, b9 < v17_2.toNatClampNeg → (fun b9 z9 => z9 = g18 b9) b9 (g17_45 ((16 * a0.toNatClampNeg) + b9))) → (∀ b9 : Nat, b9 < v17_2.toNatClampNeg → (fun b9 z9 => z9 = g19 b9) b9 (g17_46 ((16 * a0.toNatClampNeg) + b9))) → (∀ j9 : Nat, (j9 < (16 * a0.toNatClampNeg) ∨ (16 * a0.toNatClampNeg) + 16 ≤ j9) → g17_43 j9 = g1 j9) → (∀ j9 : Nat, (j9 < (16 * a0.toNatClampNeg) ∨ (16 * a0.toNatClampNeg) + 16 ≤ j9) → g17_44 j9 = g2 j9) → (∀ j9 : Nat, (j9 < (16 * a0.toNatClampNeg) ∨ (16 * a0.toNatClampNeg) + 16 ≤ j9) → g17_45 j9 = g3 j9) → (∀ j9 : Nat, (j9 < (16 * a0.toNatClampNeg) ∨ (16 * a0.toNatClampNeg) + 16 ≤ j9) → g17_46 j9 = g4 j9) → 16 - v17_2.toInt < (d : Int) → IXL cT (shC cf) (spC cf) (LC cf) ad E17_ → Kp w_loadX E E17_ → xv (E17_ 3) 6 = .int y9 → xv (E17_ 3) 7 = .int y11 → xv (E17_ 3) 8 = .int y13 → xi (E17_ 43) = g17_43 → xi (E17_ 44) = g17_44 → xi (E17_ 45) = g17_45 → xi (E17_ 46) = g17_46 → xi (E17_ 26) = g16 → xi (E17_ 27) = g17 → xi (E17_ 28) = g18 → xi (E17_ 29) = g19 → va_P (dC, dI) vwCl (WL (LC cf) ad E17_) H → va_S A s.heap H locs → lv_has ls 4 [(2, .int v17_2), (0, .ref (ad 6)), (1, .int a0)] → W p l e (headSpec v_loadX rm_loadX).room s m args below meth c H locs 0 0 Q (F0 m 17 ls []) := by
    intro d
    induction d with
    | zero =>
      intro g17_43 g17_44 g17_45 g17_46 v17_2 E17_ H locs ls hv17_2 hx17_0 hx17_1 hx17_2 hx17_3 hx17_4 hx17_5 hx17_6 hx17_7 hx17_8 hI hKp hs17_3_6 hs17_3_7 hs17_3_8 hr17_43 hr17_44 hr17_45 hr17_46 hr17_26 hr17_27 hr17_28 hr17_29 hP hS hl
      exact absurd hx17_8 (by first | exact ms_zu hv17_2.2 | omega)
    | succ d ih17 =>
      intro g17_43 g17_44 g17_45 g17_46 v17_2 E17_ H locs ls hv17_2 hx17_0 hx17_1 hx17_2 hx17_3 hx17_4 hx17_5 hx17_6 hx17_7 hx17_8 hI hKp hs17_3_6 hs17_3_7 hs17_3_8 hr17_43 hr17_44 hr17_45 hr17_46 hr17_26 hr17_27 hr17_28 hr17_29 hP hS hl
      refine lv_iload_n hx hb dX3_load_17 rfl (lv_at hl 0 rfl) ?_
      refine lv_bipush (v := 16) hx hb dX3_load_18 (by decide) ?_
      refine lv_icmp_ge (tgt := 103) hx hb dX3_load_20 (by decide) (fun c20 => ?_) (fun c20 => ?_)
      · --20 taken
        have t21 : (16 : Int) ≤ v17_2.toInt := ti_le c20
        have i22 : 16 ≤ v17_2.toInt ∧ v17_2.toInt ≤ 16 := iv_le_r t21 (il_ 16) hv17_2 (by decide)
        rw [hQ]
        exact W.vret hx hb hr (fun t ht hW => ⟨⟨E17_, rfl, ⟨hI, hKp, (LdR.of (w := E7) f15 (show xi (E7 26) = g16 from hg16) (show xi (E7 27) = g17 from hg17) (show xi (E7 28) = g18 from hg18) (show xi (E7 29) = g19 from hg19) (show xi (E17_ 43) = g17_43 from hr17_43) (show xi (E17_ 44) = g17_44 from hr17_44) (show xi (E17_ 45) = g17_45 from hr17_45) (show xi (E17_ 46) = g17_46 from hr17_46) (show xi (E 43) = g1 from hg1) (show xi (E 44) = g2 from hg2) (show xi (E 45) = g3 from hg3) (show xi (E 46) = g4 from hg4) (fun b9 h9 => hx17_0 b9 (by rw [tn_]; omega)) (fun b9 h9 => hx17_1 b9 (by rw [tn_]; omega)) (fun b9 h9 => hx17_2 b9 (by rw [tn_]; omega)) (fun b9 h9 => hx17_3 b9 (by rw [tn_]; omega)) hx17_4 hx17_5 hx17_6 hx17_7)⟩, by show va_P (dC, dI) vwCl (WL (LC cf) ad E17_) t.heap; rw [ht]; exact hP⟩, hS.F ht⟩) hS.2.2 dX3_load_103
      · --20 not
        have t23 : v17_2.toInt < 16 := ti_nle c20
        have i24 : 0 ≤ v17_2.toInt ∧ v17_2.toInt ≤ 15 := iv_lt_l t23 hv17_2 (il_ 16) (by decide)
        refine lv_iload_n hx hb dX3_load_23 rfl (lv_at hl 2 rfl) ?_
        refine lv_iload_n hx hb dX3_load_24 rfl (lv_at hl 0 rfl) ?_
        refine th_pi (va_runSN (As := [.int a0, .int v17_2]) (rest := []) ⟨hx, hb, hml, hown, hts⟩ (q_ccell l a0 v17_2 hh0 i24) ⟨va_cnB 2 hts (gi_0 (in_10 _ (zs16 (zs4 (zs0))))) rfl rfl rfl (hEV.1.1 _ (List.mem_of_getElem? (i := 7) rfl)) (hts _ (vA_in _ _ (in_4 _ (zs16 (zs4 (zs1 (zs1 (zs1 (zs0))))))))) hz_yX12_cell_2 ⟨Nat.le_of_ble_eq_true rfl, Nat.le_of_ble_eq_true rfl⟩, (hts _ (vA_in _ _ (in_13 _ (zs1 (zs0))))), trivial⟩ ⟨fun _ _ _ _ q => q, fun _ _ _ => ⟨rfl, trivial⟩⟩ rfl rfl hl.1 rfl (lv_room (Nat.le_of_ble_eq_true rfl)) dX3_load_25 ⟨Nat.le_of_ble_eq_true rfl, Nat.le_of_ble_eq_true rfl⟩) hS (fun r25 H1 locs1 hw hk1 hS => ?_)
        have hP := ub_keep hP hk1
        generalize H1 = H at hP hS ⊢
        generalize locs1 = locs at hS ⊢
        obtain ⟨f26, f27⟩ := hw
        refine lv_istore_n (lv' := [(3, .int r25), (2, .int v17_2), (0, .ref (ad 6)), (1, .int a0)]) hx hb dX3_load_28 rfl hl (by decide) rfl (fun ls hl => ?_)
        refine lv_aload_n hx hb dX3_load_29 rfl (lv_at hl 2 rfl) ?_
        refine th_getL (ci := 4) (C := RX3) (T := TX3) (N := 18) (v := .ref (ad 43)) hx hb hts hinX3 hown hK hP hI 6 (mF 6 rfl) rfl rfl 2 (Nat.le_of_ble_eq_true rfl) (hts _ (vA_in _ _ (in_11 _ (zs16 (zs4 (zs4 (zs1 (zs1 (zs0))))))))) (fun _ h9 => h9) (hI.fr 6 (mF 6 rfl) rfl (Nat.le_of_ble_eq_true rfl) 43 rfl) dX3_load_30 ?_
        refine lv_iload_n hx hb dX3_load_33 rfl (lv_at hl 0 rfl) ?_
        refine lv_aload_n hx hb dX3_load_34 rfl (lv_at hl 2 rfl) ?_
        refine th_getL (ci := 4) (C := RX3) (T := TX3) (N := 18) (v := .ref (ad 3)) hx hb hts hinX3 hown hK hP hI 6 (mF 6 rfl) rfl rfl 1 (Nat.le_of_ble_eq_true rfl) (hts _ (vA_in _ _ (in_11 _ (zs16 (zs4 (zs4 (zs0))))))) (fun _ h9 => h9) (hI.fr 6 (mF 6 rfl) rfl (Nat.le_of_ble_eq_true rfl) 3 rfl) dX3_load_35 ?_
        refine th_getL (ci := 10) (C := RX9) (T := TX9) (N := 9) (v := .ref (ad 26)) hx hb hts hinX9 hown hK hP hI 3 (mF 3 rfl) rfl rfl 1 (Nat.le_of_ble_eq_true rfl) (hts _ (vA_in _ _ (in_11 _ (zs16 (zs4 (zs4 (zs1 (zs1 (zs1 (zs0)))))))))) (fun _ h9 => h9) (hI.fr 3 (mF 3 rfl) rfl (Nat.le_of_ble_eq_true rfl) 26 rfl) dX3_load_38 ?_
        refine lv_iload_n hx hb dX3_load_41 rfl (lv_at hl 1 rfl) ?_
        have n29 : vp_in v17_2 16 := (iv_in (n := 16) i24 (by decide))
        refine th_ialdL hx hb hK hP hI 26 (mF 26 rfl) rfl rfl n29 dX3_load_42 (fun y28 ey28 => ?_)
        have iy28 : -1 ≤ y28.toInt ∧ y28.toInt ≤ 5 := hI.el 26 (mF 26 rfl) rfl n29 (fun _ => rfl) ey28
        have ey28 := ey28.trans (congrFun hr17_26 _)
        refine lv_if_ne (tgt := 50) hx hb dX3_load_43 (by decide) (fun c30 => ?_) (fun c30 => ?_)
        · --43 taken
          have t31 : ¬ y28.toInt = 0 := ti_ne c30
          refine lv_iconst (v := 0) hx hb dX3_load_50 (by decide) ?_
          have n32 : vp_in r25 320 := (iv_in (n := 320) f26 (by decide))
          refine th_zastL hx hb hK hP (WL_D hD) hS hI 43 (mF 43 rfl) rfl rfl n32 (iv_w ln_0 (by decide)) (okI rfl (iv_w ln_0 (by decide))) dX3_load_51 (fun H locs E33 pw34 hI hP hS => ?_)
          have hKp := hKp.pw pw34 rfl
          obtain ⟨g35, eg35⟩ : ∃ z : Nat → Int32, z = upd g17_43 r25.toNatClampNeg (0 : Int32) := ⟨_, rfl⟩
          have hg35 : xi (E33 43) = g35 := by rw [pw34.eu, hr17_43, eg35]
          refine lv_aload_n hx hb dX3_load_52 rfl (lv_at hl 2 rfl) ?_
          refine th_getL (ci := 4) (C := RX3) (T := TX3) (N := 18) (v := .ref (ad 44)) hx hb hts hinX3 hown hK hP hI 6 (mF 6 rfl) rfl rfl 3 (Nat.le_of_ble_eq_true rfl) (hts _ (vA_in _ _ (in_11 _ (zs16 (zs4 (zs4 (zs4 (zs0)))))))) (fun _ h9 => h9) (hI.fr 6 (mF 6 rfl) rfl (Nat.le_of_ble_eq_true rfl) 44 rfl) dX3_load_53 ?_
          refine lv_iload_n hx hb dX3_load_56 rfl (lv_at hl 0 rfl) ?_
          refine lv_aload_n hx hb dX3_load_57 rfl (lv_at hl 2 rfl) ?_
          refine th_getL (ci := 4) (C := RX3) (T := TX3) (N := 18) (v := .ref (ad 3)) hx hb hts hinX3 hown hK hP hI 6 (mF 6 rfl) rfl rfl 1 (Nat.le_of_ble_eq_true rfl) (hts _ (vA_in _ _ (in_11 _ (zs16 (zs4 (zs4 (zs0))))))) (fun _ h9 => h9) (hI.fr 6 (mF 6 rfl) rfl (Nat.le_of_ble_eq_true rfl) 3 rfl) dX3_load_58 ?_
          refine th_getL (ci := 10) (C := RX9) (T := TX9) (N := 9) (v := .ref (ad 27)) hx hb hts hinX9 hown hK hP hI 3 (mF 3 rfl) rfl rfl 2 (Nat.le_of_ble_eq_true rfl) (hts _ (vA_in _ _ (in_11 _ (zs16 (zs4 (zs4 (zs4 (zs1 (zs0))))))))) (fun _ h9 => h9) (hI.fr 3 (mF 3 rfl) rfl (Nat.le_of_ble_eq_true rfl) 27 rfl) dX3_load_61 ?_
          refine lv_iload_n hx hb dX3_load_64 rfl (lv_at hl 1 rfl) ?_
          have n37 : vp_in v17_2 16 := (iv_in (n := 16) i24 (by decide))
          refine th_ialdL hx hb hK hP hI 27 (mF 27 rfl) rfl rfl n37 dX3_load_65 (fun y36 ey36 => ?_)
          have iy36 : 0 ≤ y36.toInt ∧ y36.toInt ≤ 200000 := hI.el 27 (mF 27 rfl) rfl n37 (fun _ => rfl) ey36
          have ey36 := ey36.trans (congrFun ((pw34.ef 27 (Nat.ne_of_beq_eq_false rfl)).trans hr17_27) _)
          have n38 : vp_in r25 320 := (iv_in (n := 320) f26 (by decide))
          refine th_iastL hx hb hK hP (WL_D hD) hS hI 44 (mF 44 rfl) rfl rfl n38 (okI rfl iy36) dX3_load_66 (fun H locs E39 pw40 hI hP hS => ?_)
          have hKp := hKp.pw pw40 rfl
          obtain ⟨g41, eg41⟩ : ∃ z : Nat → Int32, z = upd g17_44 r25.toNatClampNeg y36 := ⟨_, rfl⟩
          have hg41 : xi (E39 44) = g41 := by rw [pw40.eu, ((pw34.ef 44 (Nat.ne_of_beq_eq_false rfl)).trans hr17_44), eg41]
          refine lv_aload_n hx hb dX3_load_67 rfl (lv_at hl 2 rfl) ?_
          refine th_getL (ci := 4) (C := RX3) (T := TX3) (N := 18) (v := .ref (ad 45)) hx hb hts hinX3 hown hK hP hI 6 (mF 6 rfl) rfl rfl 4 (Nat.le_of_ble_eq_true rfl) (hts _ (vA_in _ _ (in_11 _ (zs16 (zs4 (zs4 (zs4 (zs1 (zs1 (zs0)))))))))) (fun _ h9 => h9) (hI.fr 6 (mF 6 rfl) rfl (Nat.le_of_ble_eq_true rfl) 45 rfl) dX3_load_68 ?_
          refine lv_iload_n hx hb dX3_load_71 rfl (lv_at hl 0 rfl) ?_
          refine lv_aload_n hx hb dX3_load_72 rfl (lv_at hl 2 rfl) ?_
          refine th_getL (ci := 4) (C := RX3) (T := TX3) (N := 18) (v := .ref (ad 3)) hx hb hts hinX3 hown hK hP hI 6 (mF 6 rfl) rfl rfl 1 (Nat.le_of_ble_eq_true rfl) (hts _ (vA_in _ _ (in_11 _ (zs16 (zs4 (zs4 (zs0))))))) (fun _ h9 => h9) (hI.fr 6 (mF 6 rfl) rfl (Nat.le_of_ble_eq_true rfl) 3 rfl) dX3_load_73 ?_
          refine th_getL (ci := 10) (C := RX9) (T := TX9) (N := 9) (v := .ref (ad 28)) hx hb hts hinX9 hown hK hP hI 3 (mF 3 rfl) rfl rfl 3 (Nat.le_of_ble_eq_true rfl) (hts _ (vA_in _ _ (in_11 _ (zs16 (zs4 (zs4 (zs4 (zs1 (zs1 (zs1 (zs0))))))))))) (fun _ h9 => h9) (hI.fr 3 (mF 3 rfl) rfl (Nat.le_of_ble_eq_true rfl) 28 rfl) dX3_load_76 ?_
          refine lv_iload_n hx hb dX3_load_79 rfl (lv_at hl 1 rfl) ?_
          have n43 : vp_in v17_2 16 := (iv_in (n := 16) i24 (by decide))
          refine th_ialdL hx hb hK hP hI 28 (mF 28 rfl) rfl rfl n43 dX3_load_80 (fun y42 ey42 => ?_)
          have iy42 : 0 ≤ y42.toInt ∧ y42.toInt ≤ 2000 := hI.el 28 (mF 28 rfl) rfl n43 (fun _ => rfl) ey42
          have ey42 := ey42.trans (congrFun ((pw40.ef 28 (Nat.ne_of_beq_eq_false rfl)).trans ((pw34.ef 28 (Nat.ne_of_beq_eq_false rfl)).trans hr17_28)) _)
          have n44 : vp_in r25 320 := (iv_in (n := 320) f26 (by decide))
          refine th_iastL hx hb hK hP (WL_D hD) hS hI 45 (mF 45 rfl) rfl rfl n44 (okI rfl iy42) dX3_load_81 (fun H locs E45 pw46 hI hP hS => ?_)
          have hKp := hKp.pw pw46 rfl
          obtain ⟨g47, eg47⟩ : ∃ z : Nat → Int32, z = upd g17_45 r25.toNatClampNeg y42 := ⟨_, rfl⟩
          have hg47 : xi (E45 45) = g47 := by rw [pw46.eu, ((pw40.ef 45 (Nat.ne_of_beq_eq_false rfl)).trans ((pw34.ef 45 (Nat.ne_of_beq_eq_false rfl)).trans hr17_45)), eg47]
          refine lv_aload_n hx hb dX3_load_82 rfl (lv_at hl 2 rfl) ?_
          refine th_getL (ci := 4) (C := RX3) (T := TX3) (N := 18) (v := .ref (ad 46)) hx hb hts hinX3 hown hK hP hI 6 (mF 6 rfl) rfl rfl 5 (Nat.le_of_ble_eq_true rfl) (hts _ (vA_in _ _ (in_11 _ (zs16 (zs16 (zs0)))))) (fun _ h9 => h9) (hI.fr 6 (mF 6 rfl) rfl (Nat.le_of_ble_eq_true rfl) 46 rfl) dX3_load_83 ?_
          refine lv_iload_n hx hb dX3_load_86 rfl (lv_at hl 0 rfl) ?_
          refine lv_aload_n hx hb dX3_load_87 rfl (lv_at hl 2 rfl) ?_
          refine th_getL (ci := 4) (C := RX3) (T := TX3) (N := 18) (v := .ref (ad 3)) hx hb hts hinX3 hown hK hP hI 6 (mF 6 rfl) rfl rfl 1 (Nat.le_of_ble_eq_true rfl) (hts _ (vA_in _ _ (in_11 _ (zs16 (zs4 (zs4 (zs0))))))) (fun _ h9 => h9) (hI.fr 6 (mF 6 rfl) rfl (Nat.le_of_ble_eq_true rfl) 3 rfl) dX3_load_88 ?_
          refine th_getL (ci := 10) (C := RX9) (T := TX9) (N := 9) (v := .ref (ad 29)) hx hb hts hinX9 hown hK hP hI 3 (mF 3 rfl) rfl rfl 4 (Nat.le_of_ble_eq_true rfl) (hts _ (vA_in _ _ (in_11 _ (zs16 (zs16 (zs1 (zs0))))))) (fun _ h9 => h9) (hI.fr 3 (mF 3 rfl) rfl (Nat.le_of_ble_eq_true rfl) 29 rfl) dX3_load_91 ?_
          refine lv_iload_n hx hb dX3_load_94 rfl (lv_at hl 1 rfl) ?_
          have n49 : vp_in v17_2 16 := (iv_in (n := 16) i24 (by decide))
          refine th_ialdL hx hb hK hP hI 29 (mF 29 rfl) rfl rfl n49 dX3_load_95 (fun y48 ey48 => ?_)
          have iy48 : -100000 ≤ y48.toInt ∧ y48.toInt ≤ 400000 := hI.el 29 (mF 29 rfl) rfl n49 (fun _ => rfl) ey48
          have ey48 := ey48.trans (congrFun ((pw46.ef 29 (Nat.ne_of_beq_eq_false rfl)).trans ((pw40.ef 29 (Nat.ne_of_beq_eq_false rfl)).trans ((pw34.ef 29 (Nat.ne_of_beq_eq_false rfl)).trans hr17_29))) _)
          have n50 : vp_in r25 320 := (iv_in (n := 320) f26 (by decide))
          refine th_iastL hx hb hK hP (WL_D hD) hS hI 46 (mF 46 rfl) rfl rfl n50 (okI rfl iy48) dX3_load_96 (fun H locs E51 pw52 hI hP hS => ?_)
          have hKp := hKp.pw pw52 rfl
          obtain ⟨g53, eg53⟩ : ∃ z : Nat → Int32, z = upd g17_46 r25.toNatClampNeg y48 := ⟨_, rfl⟩
          have hg53 : xi (E51 46) = g53 := by rw [pw52.eu, ((pw46.ef 46 (Nat.ne_of_beq_eq_false rfl)).trans ((pw40.ef 46 (Nat.ne_of_beq_eq_false rfl)).trans ((pw34.ef 46 (Nat.ne_of_beq_eq_false rfl)).trans hr17_46))), eg53]
          obtain ⟨y54, ey54⟩ : ∃ y : Int32, y = v17_2 + (1 : Int32) := ⟨_, rfl⟩
          obtain ⟨ty54, iy54⟩ := ti_add (e := 1) (f := 16) i24 ln_1 ey54 (by decide)
          have ty54 : y54.toInt = v17_2.toInt + 1 := ty54
          have iy54 : 1 ≤ y54.toInt ∧ y54.toInt ≤ 16 := iy54
          refine lv_iinc (v := y54) (lv' := [(2, .int y54), (3, .int r25), (0, .ref (ad 6)), (1, .int a0)]) hx hb dX3_load_97 hl (k := 1) rfl (by rw [ey54]; rfl) (by decide) rfl (fun ls hl => ?_)
          refine lv_goto (tgt := 17) hx hb dX3_load_100 (by decide) ?_
          exact ih17 g35 g41 g47 g53 y54 E51 _ _ _ (iv_w iy54 (by decide)) (up_d (P := (fun b9 z9 => (g16 b9).toInt = 0 ↔ z9.toInt = 1)) hx17_0 eg35 (by rw [tn_ r25, tn_ v17_2, tn_ a0]; omega) (show (g16 v17_2.toNatClampNeg).toInt = 0 ↔ (0 : Int32).toInt = 1 by rw [← ey28]; have z9 := ln_0; omega) (by omega) (by omega)) (up_d (P := (fun b9 z9 => z9 = g17 b9)) hx17_1 eg41 (by rw [tn_ r25, tn_ v17_2, tn_ a0]; omega) ey36 (by omega) (by omega)) (up_d (P := (fun b9 z9 => z9 = g18 b9)) hx17_2 eg47 (by rw [tn_ r25, tn_ v17_2, tn_ a0]; omega) ey42 (by omega) (by omega)) (up_d (P := (fun b9 z9 => z9 = g19 b9)) hx17_3 eg53 (by rw [tn_ r25, tn_ v17_2, tn_ a0]; omega) ey48 (by omega) (by omega)) (up_z hx17_4 eg35 ⟨by rw [tn_ r25, tn_ a0]; omega, by rw [tn_ r25, tn_ a0]; omega⟩) (up_z hx17_5 eg41 ⟨by rw [tn_ r25, tn_ a0]; omega, by rw [tn_ r25, tn_ a0]; omega⟩) (up_z hx17_6 eg47 ⟨by rw [tn_ r25, tn_ a0]; omega, by rw [tn_ r25, tn_ a0]; omega⟩) (up_z hx17_7 eg53 ⟨by rw [tn_ r25, tn_ a0]; omega, by rw [tn_ r25, tn_ a0]; omega⟩) (by first | exact ms_su hx17_8 ty54 (by decide) | omega) hI hKp ((pw52.2 3 6 (fun q9 => absurd q9.1 (Nat.ne_of_beq_eq_false rfl))).trans ((pw46.2 3 6 (fun q9 => absurd q9.1 (Nat.ne_of_beq_eq_false rfl))).trans ((pw40.2 3 6 (fun q9 => absurd q9.1 (Nat.ne_of_beq_eq_false rfl))).trans ((pw34.2 3 6 (fun q9 => absurd q9.1 (Nat.ne_of_beq_eq_false rfl))).trans hs17_3_6)))) ((pw52.2 3 7 (fun q9 => absurd q9.1 (Nat.ne_of_beq_eq_false rfl))).trans ((pw46.2 3 7 (fun q9 => absurd q9.1 (Nat.ne_of_beq_eq_false rfl))).trans ((pw40.2 3 7 (fun q9 => absurd q9.1 (Nat.ne_of_beq_eq_false rfl))).trans ((pw34.2 3 7 (fun q9 => absurd q9.1 (Nat.ne_of_beq_eq_false rfl))).trans hs17_3_7)))) ((pw52.2 3 8 (fun q9 => absurd q9.1 (Nat.ne_of_beq_eq_false rfl))).trans ((pw46.2 3 8 (fun q9 => absurd q9.1 (Nat.ne_of_beq_eq_false rfl))).trans ((pw40.2 3 8 (fun q9 => absurd q9.1 (Nat.ne_of_beq_eq_false rfl))).trans ((pw34.2 3 8 (fun q9 => absurd q9.1 (Nat.ne_of_beq_eq_false rfl))).trans hs17_3_8)))) ((pw52.ef 43 (Nat.ne_of_beq_eq_false rfl)).trans ((pw46.ef 43 (Nat.ne_of_beq_eq_false rfl)).trans ((pw40.ef 43 (Nat.ne_of_beq_eq_false rfl)).trans hg35))) ((pw52.ef 44 (Nat.ne_of_beq_eq_false rfl)).trans ((pw46.ef 44 (Nat.ne_of_beq_eq_false rfl)).trans hg41)) ((pw52.ef 45 (Nat.ne_of_beq_eq_false rfl)).trans hg47) hg53 ((pw52.ef 26 (Nat.ne_of_beq_eq_false rfl)).trans ((pw46.ef 26 (Nat.ne_of_beq_eq_false rfl)).trans ((pw40.ef 26 (Nat.ne_of_beq_eq_false rfl)).trans ((pw34.ef 26 (Nat.ne_of_beq_eq_false rfl)).trans hr17_26)))) ((pw52.ef 27 (Nat.ne_of_beq_eq_false rfl)).trans ((pw46.ef 27 (Nat.ne_of_beq_eq_false rfl)).trans ((pw40.ef 27 (Nat.ne_of_beq_eq_false rfl)).trans ((pw34.ef 27 (Nat.ne_of_beq_eq_false rfl)).trans hr17_27)))) ((pw52.ef 28 (Nat.ne_of_beq_eq_false rfl)).trans ((pw46.ef 28 (Nat.ne_of_beq_eq_false rfl)).trans ((pw40.ef 28 (Nat.ne_of_beq_eq_false rfl)).trans ((pw34.ef 28 (Nat.ne_of_beq_eq_false rfl)).trans hr17_28)))) ((pw52.ef 29 (Nat.ne_of_beq_eq_false rfl)).trans ((pw46.ef 29 (Nat.ne_of_beq_eq_false rfl)).trans ((pw40.ef 29 (Nat.ne_of_beq_eq_false rfl)).trans ((pw34.ef 29 (Nat.ne_of_beq_eq_false rfl)).trans hr17_29)))) hP hS (lv_sub hl [0, 2, 3] rfl)
        · --43 not
          have t55 : y28.toInt = 0 := ti_eq c30
          have i56 : 0 ≤ y28.toInt ∧ y28.toInt ≤ 0 := iv_eqi t55 iy28 (il_ 0) (by decide)
          refine lv_iconst (v := 1) hx hb dX3_load_46 (by decide) ?_
          refine lv_goto (tgt := 51) hx hb dX3_load_47 (by decide) ?_
          have n57 : vp_in r25 320 := (iv_in (n := 320) f26 (by decide))
          refine th_zastL hx hb hK hP (WL_D hD) hS hI 43 (mF 43 rfl) rfl rfl n57 (iv_w ln_1 (by decide)) (okI rfl (iv_w ln_1 (by decide))) dX3_load_51 (fun H locs E58 pw59 hI hP hS => ?_)
          have hKp := hKp.pw pw59 rfl
          obtain ⟨g60, eg60⟩ : ∃ z : Nat → Int32, z = upd g17_43 r25.toNatClampNeg (1 : Int32) := ⟨_, rfl⟩
          have hg60 : xi (E58 43) = g60 := by rw [pw59.eu, hr17_43, eg60]
          refine lv_aload_n hx hb dX3_load_52 rfl (lv_at hl 2 rfl) ?_
          refine th_getL (ci := 4) (C := RX3) (T := TX3) (N := 18) (v := .ref (ad 44)) hx hb hts hinX3 hown hK hP hI 6 (mF 6 rfl) rfl rfl 3 (Nat.le_of_ble_eq_true rfl) (hts _ (vA_in _ _ (in_11 _ (zs16 (zs4 (zs4 (zs4 (zs0)))))))) (fun _ h9 => h9) (hI.fr 6 (mF 6 rfl) rfl (Nat.le_of_ble_eq_true rfl) 44 rfl) dX3_load_53 ?_
          refine lv_iload_n hx hb dX3_load_56 rfl (lv_at hl 0 rfl) ?_
          refine lv_aload_n hx hb dX3_load_57 rfl (lv_at hl 2 rfl) ?_
          refine th_getL (ci := 4) (C := RX3) (T := TX3) (N := 18) (v := .ref (ad 3)) hx hb hts hinX3 hown hK hP hI 6 (mF 6 rfl) rfl rfl 1 (Nat.le_of_ble_eq_true rfl) (hts _ (vA_in _ _ (in_11 _ (zs16 (zs4 (zs4 (zs0))))))) (fun _ h9 => h9) (hI.fr 6 (mF 6 rfl) rfl (Nat.le_of_ble_eq_true rfl) 3 rfl) dX3_load_58 ?_
          refine th_getL (ci := 10) (C := RX9) (T := TX9) (N := 9) (v := .ref (ad 27)) hx hb hts hinX9 hown hK hP hI 3 (mF 3 rfl) rfl rfl 2 (Nat.le_of_ble_eq_true rfl) (hts _ (vA_in _ _ (in_11 _ (zs16 (zs4 (zs4 (zs4 (zs1 (zs0))))))))) (fun _ h9 => h9) (hI.fr 3 (mF 3 rfl) rfl (Nat.le_of_ble_eq_true rfl) 27 rfl) dX3_load_61 ?_
          refine lv_iload_n hx hb dX3_load_64 rfl (lv_at hl 1 rfl) ?_
          have n62 : vp_in v17_2 16 := (iv_in (n := 16) i24 (by decide))
          refine th_ialdL hx hb hK hP hI 27 (mF 27 rfl) rfl rfl n62 dX3_load_65 (fun y61 ey61 => ?_)
          have iy61 : 0 ≤ y61.toInt ∧ y61.toInt ≤ 200000 := hI.el 27 (mF 27 rfl) rfl n62 (fun _ => rfl) ey61
          have ey61 := ey61.trans (congrFun ((pw59.ef 27 (Nat.ne_of_beq_eq_false rfl)).trans hr17_27) _)
          have n63 : vp_in r25 320 := (iv_in (n := 320) f26 (by decide))
          refine th_iastL hx hb hK hP (WL_D hD) hS hI 44 (mF 44 rfl) rfl rfl n63 (okI rfl iy61) dX3_load_66 (fun H locs E64 pw65 hI hP hS => ?_)
          have hKp := hKp.pw pw65 rfl
          obtain ⟨g66, eg66⟩ : ∃ z : Nat → Int32, z = upd g17_44 r25.toNatClampNeg y61 := ⟨_, rfl⟩
          have hg66 : xi (E64 44) = g66 := by rw [pw65.eu, ((pw59.ef 44 (Nat.ne_of_beq_eq_false rfl)).trans hr17_44), eg66]
          refine lv_aload_n hx hb dX3_load_67 rfl (lv_at hl 2 rfl) ?_
          refine th_getL (ci := 4) (C := RX3) (T := TX3) (N := 18) (v := .ref (ad 45)) hx hb hts hinX3 hown hK hP hI 6 (mF 6 rfl) rfl rfl 4 (Nat.le_of_ble_eq_true rfl) (hts _ (vA_in _ _ (in_11 _ (zs16 (zs4 (zs4 (zs4 (zs1 (zs1 (zs0)))))))))) (fun _ h9 => h9) (hI.fr 6 (mF 6 rfl) rfl (Nat.le_of_ble_eq_true rfl) 45 rfl) dX3_load_68 ?_
          refine lv_iload_n hx hb dX3_load_71 rfl (lv_at hl 0 rfl) ?_
          refine lv_aload_n hx hb dX3_load_72 rfl (lv_at hl 2 rfl) ?_
          refine th_getL (ci := 4) (C := RX3) (T := TX3) (N := 18) (v := .ref (ad 3)) hx hb hts hinX3 hown hK hP hI 6 (mF 6 rfl) rfl rfl 1 (Nat.le_of_ble_eq_true rfl) (hts _ (vA_in _ _ (in_11 _ (zs16 (zs4 (zs4 (zs0))))))) (fun _ h9 => h9) (hI.fr 6 (mF 6 rfl) rfl (Nat.le_of_ble_eq_true rfl) 3 rfl) dX3_load_73 ?_
          refine th_getL (ci := 10) (C := RX9) (T := TX9) (N := 9) (v := .ref (ad 28)) hx hb hts hinX9 hown hK hP hI 3 (mF 3 rfl) rfl rfl 3 (Nat.le_of_ble_eq_true rfl) (hts _ (vA_in _ _ (in_11 _ (zs16 (zs4 (zs4 (zs4 (zs1 (zs1 (zs1 (zs0))))))))))) (fun _ h9 => h9) (hI.fr 3 (mF 3 rfl) rfl (Nat.le_of_ble_eq_true rfl) 28 rfl) dX3_load_76 ?_
          refine lv_iload_n hx hb dX3_load_79 rfl (lv_at hl 1 rfl) ?_
          have n68 : vp_in v17_2 16 := (iv_in (n := 16) i24 (by decide))
          refine th_ialdL hx hb hK hP hI 28 (mF 28 rfl) rfl rfl n68 dX3_load_80 (fun y67 ey67 => ?_)
          have iy67 : 0 ≤ y67.toInt ∧ y67.toInt ≤ 2000 := hI.el 28 (mF 28 rfl) rfl n68 (fun _ => rfl) ey67
          have ey67 := ey67.trans (congrFun ((pw65.ef 28 (Nat.ne_of_beq_eq_false rfl)).trans ((pw59.ef 28 (Nat.ne_of_beq_eq_false rfl)).trans hr17_28)) _)
          have n69 : vp_in r25 320 := (iv_in (n := 320) f26 (by decide))
          refine th_iastL hx hb hK hP (WL_D hD) hS hI 45 (mF 45 rfl) rfl rfl n69 (okI rfl iy67) dX3_load_81 (fun H locs E70 pw71 hI hP hS => ?_)
          have hKp := hKp.pw pw71 rfl
          obtain ⟨g72, eg72⟩ : ∃ z : Nat → Int32, z = upd g17_45 r25.toNatClampNeg y67 := ⟨_, rfl⟩
          have hg72 : xi (E70 45) = g72 := by rw [pw71.eu, ((pw65.ef 45 (Nat.ne_of_beq_eq_false rfl)).trans ((pw59.ef 45 (Nat.ne_of_beq_eq_false rfl)).trans hr17_45)), eg72]
          refine lv_aload_n hx hb dX3_load_82 rfl (lv_at hl 2 rfl) ?_
          refine th_getL (ci := 4) (C := RX3) (T := TX3) (N := 18) (v := .ref (ad 46)) hx hb hts hinX3 hown hK hP hI 6 (mF 6 rfl) rfl rfl 5 (Nat.le_of_ble_eq_true rfl) (hts _ (vA_in _ _ (in_11 _ (zs16 (zs16 (zs0)))))) (fun _ h9 => h9) (hI.fr 6 (mF 6 rfl) rfl (Nat.le_of_ble_eq_true rfl) 46 rfl) dX3_load_83 ?_
          refine lv_iload_n hx hb dX3_load_86 rfl (lv_at hl 0 rfl) ?_
          refine lv_aload_n hx hb dX3_load_87 rfl (lv_at hl 2 rfl) ?_
          refine th_getL (ci := 4) (C := RX3) (T := TX3) (N := 18) (v := .ref (ad 3)) hx hb hts hinX3 hown hK hP hI 6 (mF 6 rfl) rfl rfl 1 (Nat.le_of_ble_eq_true rfl) (hts _ (vA_in _ _ (in_11 _ (zs16 (zs4 (zs4 (zs0))))))) (fun _ h9 => h9) (hI.fr 6 (mF 6 rfl) rfl (Nat.le_of_ble_eq_true rfl) 3 rfl) dX3_load_88 ?_
          refine th_getL (ci := 10) (C := RX9) (T := TX9) (N := 9) (v := .ref (ad 29)) hx hb hts hinX9 hown hK hP hI 3 (mF 3 rfl) rfl rfl 4 (Nat.le_of_ble_eq_true rfl) (hts _ (vA_in _ _ (in_11 _ (zs16 (zs16 (zs1 (zs0))))))) (fun _ h9 => h9) (hI.fr 3 (mF 3 rfl) rfl (Nat.le_of_ble_eq_true rfl) 29 rfl) dX3_load_91 ?_
          refine lv_iload_n hx hb dX3_load_94 rfl (lv_at hl 1 rfl) ?_
          have n74 : vp_in v17_2 16 := (iv_in (n := 16) i24 (by decide))
          refine th_ialdL hx hb hK hP hI 29 (mF 29 rfl) rfl rfl n74 dX3_load_95 (fun y73 ey73 => ?_)
          have iy73 : -100000 ≤ y73.toInt ∧ y73.toInt ≤ 400000 := hI.el 29 (mF 29 rfl) rfl n74 (fun _ => rfl) ey73
          have ey73 := ey73.trans (congrFun ((pw71.ef 29 (Nat.ne_of_beq_eq_false rfl)).trans ((pw65.ef 29 (Nat.ne_of_beq_eq_false rfl)).trans ((pw59.ef 29 (Nat.ne_of_beq_eq_false rfl)).trans hr17_29))) _)
          have n75 : vp_in r25 320 := (iv_in (n := 320) f26 (by decide))
          refine th_iastL hx hb hK hP (WL_D hD) hS hI 46 (mF 46 rfl) rfl rfl n75 (okI rfl iy73) dX3_load_96 (fun H locs E76 pw77 hI hP hS => ?_)
          have hKp := hKp.pw pw77 rfl
          obtain ⟨g78, eg78⟩ : ∃ z : Nat → Int32, z = upd g17_46 r25.toNatClampNeg y73 := ⟨_, rfl⟩
          have hg78 : xi (E76 46) = g78 := by rw [pw77.eu, ((pw71.ef 46 (Nat.ne_of_beq_eq_false rfl)).trans ((pw65.ef 46 (Nat.ne_of_beq_eq_false rfl)).trans ((pw59.ef 46 (Nat.ne_of_beq_eq_false rfl)).trans hr17_46))), eg78]
          obtain ⟨y79, ey79⟩ : ∃ y : Int32, y = v17_2 + (1 : Int32) := ⟨_, rfl⟩
          obtain ⟨ty79, iy79⟩ := ti_add (e := 1) (f := 16) i24 ln_1 ey79 (by decide)
          have ty79 : y79.toInt = v17_2.toInt + 1 := ty79
          have iy79 : 1 ≤ y79.toInt ∧ y79.toInt ≤ 16 := iy79
          refine lv_iinc (v := y79) (lv' := [(2, .int y79), (3, .int r25), (0, .ref (ad 6)), (1, .int a0)]) hx hb dX3_load_97 hl (k := 1) rfl (by rw [ey79]; rfl) (by decide) rfl (fun ls hl => ?_)
          refine lv_goto (tgt := 17) hx hb dX3_load_100 (by decide) ?_
          exact ih17 g60 g66 g72 g78 y79 E76 _ _ _ (iv_w iy79 (by decide)) (up_d (P := (fun b9 z9 => (g16 b9).toInt = 0 ↔ z9.toInt = 1)) hx17_0 eg60 (by rw [tn_ r25, tn_ v17_2, tn_ a0]; omega) (show (g16 v17_2.toNatClampNeg).toInt = 0 ↔ (1 : Int32).toInt = 1 by rw [← ey28]; have z9 := ln_1; omega) (by omega) (by omega)) (up_d (P := (fun b9 z9 => z9 = g17 b9)) hx17_1 eg66 (by rw [tn_ r25, tn_ v17_2, tn_ a0]; omega) ey61 (by omega) (by omega)) (up_d (P := (fun b9 z9 => z9 = g18 b9)) hx17_2 eg72 (by rw [tn_ r25, tn_ v17_2, tn_ a0]; omega) ey67 (by omega) (by omega)) (up_d (P := (fun b9 z9 => z9 = g19 b9)) hx17_3 eg78 (by rw [tn_ r25, tn_ v17_2, tn_ a0]; omega) ey73 (by omega) (by omega)) (up_z hx17_4 eg60 ⟨by rw [tn_ r25, tn_ a0]; omega, by rw [tn_ r25, tn_ a0]; omega⟩) (up_z hx17_5 eg66 ⟨by rw [tn_ r25, tn_ a0]; omega, by rw [tn_ r25, tn_ a0]; omega⟩) (up_z hx17_6 eg72 ⟨by rw [tn_ r25, tn_ a0]; omega, by rw [tn_ r25, tn_ a0]; omega⟩) (up_z hx17_7 eg78 ⟨by rw [tn_ r25, tn_ a0]; omega, by rw [tn_ r25, tn_ a0]; omega⟩) (by first | exact ms_su hx17_8 ty79 (by decide) | omega) hI hKp ((pw77.2 3 6 (fun q9 => absurd q9.1 (Nat.ne_of_beq_eq_false rfl))).trans ((pw71.2 3 6 (fun q9 => absurd q9.1 (Nat.ne_of_beq_eq_false rfl))).trans ((pw65.2 3 6 (fun q9 => absurd q9.1 (Nat.ne_of_beq_eq_false rfl))).trans ((pw59.2 3 6 (fun q9 => absurd q9.1 (Nat.ne_of_beq_eq_false rfl))).trans hs17_3_6)))) ((pw77.2 3 7 (fun q9 => absurd q9.1 (Nat.ne_of_beq_eq_false rfl))).trans ((pw71.2 3 7 (fun q9 => absurd q9.1 (Nat.ne_of_beq_eq_false rfl))).trans ((pw65.2 3 7 (fun q9 => absurd q9.1 (Nat.ne_of_beq_eq_false rfl))).trans ((pw59.2 3 7 (fun q9 => absurd q9.1 (Nat.ne_of_beq_eq_false rfl))).trans hs17_3_7)))) ((pw77.2 3 8 (fun q9 => absurd q9.1 (Nat.ne_of_beq_eq_false rfl))).trans ((pw71.2 3 8 (fun q9 => absurd q9.1 (Nat.ne_of_beq_eq_false rfl))).trans ((pw65.2 3 8 (fun q9 => absurd q9.1 (Nat.ne_of_beq_eq_false rfl))).trans ((pw59.2 3 8 (fun q9 => absurd q9.1 (Nat.ne_of_beq_eq_false rfl))).trans hs17_3_8)))) ((pw77.ef 43 (Nat.ne_of_beq_eq_false rfl)).trans ((pw71.ef 43 (Nat.ne_of_beq_eq_false rfl)).trans ((pw65.ef 43 (Nat.ne_of_beq_eq_false rfl)).trans hg60))) ((pw77.ef 44 (Nat.ne_of_beq_eq_false rfl)).trans ((pw71.ef 44 (Nat.ne_of_beq_eq_false rfl)).trans hg66)) ((pw77.ef 45 (Nat.ne_of_beq_eq_false rfl)).trans hg72) hg78 ((pw77.ef 26 (Nat.ne_of_beq_eq_false rfl)).trans ((pw71.ef 26 (Nat.ne_of_beq_eq_false rfl)).trans ((pw65.ef 26 (Nat.ne_of_beq_eq_false rfl)).trans ((pw59.ef 26 (Nat.ne_of_beq_eq_false rfl)).trans hr17_26)))) ((pw77.ef 27 (Nat.ne_of_beq_eq_false rfl)).trans ((pw71.ef 27 (Nat.ne_of_beq_eq_false rfl)).trans ((pw65.ef 27 (Nat.ne_of_beq_eq_false rfl)).trans ((pw59.ef 27 (Nat.ne_of_beq_eq_false rfl)).trans hr17_27)))) ((pw77.ef 28 (Nat.ne_of_beq_eq_false rfl)).trans ((pw71.ef 28 (Nat.ne_of_beq_eq_false rfl)).trans ((pw65.ef 28 (Nat.ne_of_beq_eq_false rfl)).trans ((pw59.ef 28 (Nat.ne_of_beq_eq_false rfl)).trans hr17_28)))) ((pw77.ef 29 (Nat.ne_of_beq_eq_false rfl)).trans ((pw71.ef 29 (Nat.ne_of_beq_eq_false rfl)).trans ((pw65.ef 29 (Nat.ne_of_beq_eq_false rfl)).trans ((pw59.ef 29 (Nat.ne_of_beq_eq_false rfl)).trans hr17_29)))) hP hS (lv_sub hl [0, 2, 3] rfl)
  exact hL17 (17) g1 g2 g3 g4 (0 : Int32) E7 _ _ _ (iv_w ln_0 (by decide)) (fun b9 h9 => absurd h9 (Nat.not_lt_zero b9)) (fun b9 h9 => absurd h9 (Nat.not_lt_zero b9)) (fun b9 h9 => absurd h9 (Nat.not_lt_zero b9)) (fun b9 h9 => absurd h9 (Nat.not_lt_zero b9)) (fun j9 _ => rfl) (fun j9 _ => rfl) (fun j9 _ => rfl) (fun j9 _ => rfl) (by have h9 := ln_0; first | exact ms_bu h9.1 (by decide) | omega) hI hKp fy9 fy11 fy13 ((kq8.ef 43 (fun _ => rfl)).trans hg1) ((kq8.ef 44 (fun _ => rfl)).trans hg2) ((kq8.ef 45 (fun _ => rfl)).trans hg3) ((kq8.ef 46 (fun _ => rfl)).trans hg4) hg16 hg17 hg18 hg19 hP hS (lv_sub hl [0, 1, 2] rfl)
def v_loadAllX : List Cond := .code yX3_loadAll cX3_loadAll 2 none :: vA
abbrev rm_loadAllX : Room := { frames := 7, cells := 0, slots := 0, locals := 280 }
def w_loadAllX : Nat → Nat → Bool := wl [19, 20, 26, 27, 28, 29, 30, 43, 44, 45, 46] [(3, 6), (3, 7), (3, 8)]
set_option maxHeartbeats 4000000 in
set_option maxRecDepth 100000 in
theorem q_loadAllX (l : Launch) (dC : Nat → ClassId) (dI : Nat → Nat → Nat) (cT : Nat → ClassId) (cf : Nat → Nat) (hC : CF cf) (ad : Nat → Nat) (E : Nat → va_E) (sz : Nat)  (hI0 : IXL cT (shC cf) (spC cf) (LC cf) ad E) (hh0 : RulAll cf E) : Met l yX3_loadAll v_loadAllX rm_loadAllX (va_Pc [.ref (ad 6)] (HWL dC dI (TYC cT) cf ad E sz)) (va_Qv (S := Nat → va_E) (fun u => IXL cT (shC cf) (spC cf) (LC cf) ad u ∧ Kp w_loadAllX E u ∧ ((∀ r9 : Nat, r9 < cf 2 → ∀ b9 : Nat, b9 < 16 → LdB cf E u (nI r9) (xi (E 1) 0) b9))) (HBL dC dI (LC cf) ad) (va_A (WL (LC cf) ad E) sz)) 0 0 (va_A (WL (LC cf) ad E) sz) := by
  obtain ⟨⟨hc0, hc1, hc2, hc3, hc4, hc5⟩, hcr⟩ := id hC
  refine Met.ofW (cc := cX3_loadAll) (maxL := 2) (ret := none) (by decide) rfl ?_
  intro p e s m args below meth c s₁ B hml hv
  obtain ⟨hargs, hsz, hP, hK, hD0, hEV⟩ := hv
  subst hsz
  have hx := B.exec
  have hb := B.bytes
  have hr := B.returns
  have hts := atoms_spec (ws := v_loadAllX) B.pre
  have hown : s.vm.findClass RX3 = some m.cls := findClass_of_methodNamed B.named
  have hlocks := B.notSynchronized
  have hinX0 : ∀ w ∈ u_ws RX0 TX0 11, w ∈ v_loadAllX := fun w h => vA_in _ w (in_X0 w h)
  have hinX3 : ∀ w ∈ u_ws RX3 TX3 18, w ∈ v_loadAllX := fun w h => vA_in _ w (in_X3 w h)
  generalize hAe : va_A (WL (LC cf) ad E) s.heap.size = A at hEV ⊢
  have hA : ∀ q : Nat, s.heap.size ≤ q → A q := fun q h => by rw [← hAe]; exact Or.inr h
  have hD : va_D A (WL (LC cf) ad E) := by rw [← hAe]; exact hD0.self
  have hS : va_S A s.heap s.heap [] := va_S.rf
  have hI := hI0
  have hKp : Kp w_loadAllX E E := Kp.rf
  have hl := lv_entry ([.ref (ad 6)]) (n := 2) (Nat.le_of_ble_eq_true rfl)
  obtain ⟨Q, hQ⟩ : ∃ Q, Q = MQ below (va_Qv (S := Nat → va_E) (fun u => IXL cT (shC cf) (spC cf) (LC cf) ad u ∧ Kp w_loadAllX E u ∧ ((∀ r9 : Nat, r9 < cf 2 → ∀ b9 : Nat, b9 < 16 → LdB cf E u (nI r9) (xi (E 1) 0) b9))) (HBL dC dI (LC cf) ad) (A)) args s 0 0 (A) := ⟨_, rfl⟩
  rw [← hQ, show entryFrame m args 2 = _ from (congrArg (fun z => entryFrame m z 2) hargs).trans (lg_entry_eq _ _ _)]
  generalize (lg_sl ([.ref (ad 6)]) ++ List.replicate (2 - (lg_sl ([.ref (ad 6)])).length) Slot.unset).toArray = ls at hl ⊢
  have hl : lv_has ls 2 [(0, .ref (ad 6))] := hl
  have z0z : (0 : Int32).toInt = 0 := rfl
  refine lv_iconst (v := 0) hx hb dX3_loadAll_0 (by decide) ?_
  refine lv_istore_n (lv' := [(1, .int 0), (0, .ref (ad 6))]) hx hb dX3_loadAll_1 rfl hl (by decide) rfl (fun ls hl => ?_)
  have hL2 : ∀ d : Nat, ∀ (v2_1 : Int32) (E2_ : Nat → va_E) (H : Heap) (locs : List Loc) (ls : Array Slot), 0 ≤ v2_1.toInt ∧ v2_1.toInt ≤ 20 → (∀ r9 : Nat, r9 < v2_1.toNatClampNeg → ∀ b9 : Nat, b9 < 16 → LdB cf E E2_ (nI r9) (xi (E 1) 0) b9) → v2_1.toInt ≤ ((cf 2 : Nat) : Int) → 20 - v2_1.toInt < (d : Int) → IXL cT (shC cf) (spC cf) (LC cf) ad E2_ → Kp w_loadAllX E E2_ → va_P (dC, dI) vwCl (WL (LC cf) ad E2_) H → va_S A s.heap H locs → lv_has ls 2 [(1, .int v2_1), (0, .ref (ad 6))] → W p l e (headSpec v_loadAllX rm_loadAllX).room s m args below meth c H locs 0 0 Q (F0 m 2 ls []) := by
    intro d
    induction d with
    | zero =>
      intro v2_1 E2_ H locs ls hv2_1 hx2_0 hx2_1 hx2_2 hI hKp hP hS hl
      exact absurd hx2_2 (by first | exact ms_zu hv2_1.2 | omega)
    | succ d ih2 =>
      intro v2_1 E2_ H locs ls hv2_1 hx2_0 hx2_1 hx2_2 hI hKp hP hS hl
      refine lv_iload_n hx hb dX3_loadAll_2 rfl (lv_at hl 0 rfl) ?_
      refine lv_aload_n hx hb dX3_loadAll_3 rfl (lv_at hl 1 rfl) ?_
      refine th_getL (ci := 4) (C := RX3) (T := TX3) (N := 18) (v := .ref (ad 1)) hx hb hts hinX3 hown hK hP hI 6 (mF 6 rfl) rfl rfl 0 (Nat.le_of_ble_eq_true rfl) (hts _ (vA_in _ _ (in_11 _ (zs16 (zs1 (zs0)))))) (fun _ h9 => h9) (hI.fr 6 (mF 6 rfl) rfl (Nat.le_of_ble_eq_true rfl) 1 rfl) dX3_loadAll_4 ?_
      refine th_getL (ci := 1) (C := RX0) (T := TX0) (N := 11) (v := .ref (ad 9)) hx hb hts hinX0 hown hK hP hI 1 (mF 1 rfl) rfl rfl 5 (Nat.le_of_ble_eq_true rfl) (hts _ (vA_in _ _ (in_11 _ (zs16 (zs1 (zs1 (zs0))))))) (fun _ h9 => h9) (hI.fr 1 (mF 1 rfl) rfl (Nat.le_of_ble_eq_true rfl) 9 rfl) dX3_loadAll_7 ?_
      refine th_riL (va_runV (As := []) (rest := [.int v2_1]) ⟨hx, hb, hml, hown, hts⟩ (q_size2 l dC dI cT cf hC ad E2_ H.size hI) (cwV 0 hts (gi_V (in_11 _ (zs16 (zs1 (zs1 (zs1 (zs0)))))) (in_4 _ (zs16 (zs16 (zs1 (zs1 (zs1 (zs0))))))) (in_4 _ (zs16 (zs16 (zs4 (zs0))))) (in_3 _ (zs16 (zs1 (zs1 (zs0))))) (in_4 _ (zs16 (zs1 (zs1 (zs1 (zs0))))))) rfl rfl rfl ⟨rfl, hz_yJx4a65c_size_8abf5_0⟩ ⟨Nat.le_of_ble_eq_true rfl, Nat.le_of_ble_eq_true rfl⟩) ⟨HWL_bl, va_recv hK hP (ci := 0) (q0 := posL 9 (LC cf)) rfl (hI.ob 9 (mF 9 rfl) rfl), (HWL_wi hP hK (WL_D hD) hS hA hEV)⟩ rfl rfl hl.1 rfl (lv_room (Nat.le_of_ble_eq_true rfl)) dX3_loadAll_10 ⟨Nat.le_of_ble_eq_true rfl, Nat.le_of_ble_eq_true rfl⟩) hS hP (fun r1 H locs hw hP hS => ?_)
      obtain ⟨f2, f3⟩ := hw
      refine lv_icmp_ge (tgt := 27) hx hb dX3_loadAll_13 (by decide) (fun c4 => ?_) (fun c4 => ?_)
      · --13 taken
        have t5 : r1.toInt ≤ v2_1.toInt := ti_le c4
        rw [hQ]
        exact W.vret hx hb hr (fun t ht hW => ⟨⟨E2_, rfl, ⟨hI, hKp, (fun r9 h9 => hx2_0 r9 (by rw [tn_]; omega))⟩, by show va_P (dC, dI) vwCl (WL (LC cf) ad E2_) t.heap; rw [ht]; exact hP⟩, hS.F ht⟩) hS.2.2 dX3_loadAll_27
      · --13 not
        have t6 : v2_1.toInt < r1.toInt := ti_nle c4
        have i7 : 0 ≤ v2_1.toInt ∧ v2_1.toInt ≤ 19 := iv_lt_l t6 hv2_1 f2 (by decide)
        have i8 : 1 ≤ r1.toInt ∧ r1.toInt ≤ 20 := iv_lt_r t6 hv2_1 f2 (by decide)
        refine lv_aload_n hx hb dX3_loadAll_16 rfl (lv_at hl 1 rfl) ?_
        refine lv_iload_n hx hb dX3_loadAll_17 rfl (lv_at hl 0 rfl) ?_
        refine th_vL (va_runV (As := [.int v2_1]) (rest := []) ⟨hx, hb, hml, hown, hts⟩ (q_loadX l dC dI cT cf hC ad E2_ H.size v2_1 hI i7 (by omega) (by exact (fun i9 hi9 => (hh0 i9 hi9).cg (kp_rul hKp (fun o9 ho9 j9 => wl_p rfl rfl ho9) i9)))) (cwV 1 hts (gi_V (in_11 _ (zs16 (zs4 (zs0)))) (in_11 _ (zs16 (zs4 (zs1 (zs0))))) (in_11 _ (zs16 (zs4 (zs1 (zs1 (zs0)))))) (in_11 _ (zs4 (zs4 (zs4 (zs1 (zs1 (zs1 (zs0)))))))) (in_11 _ (zs16 (zs4 (zs1 (zs1 (zs1 (zs0)))))))) rfl rfl rfl ⟨rfl, hz_yX3_load_1⟩ ⟨Nat.le_of_ble_eq_true rfl, Nat.le_of_ble_eq_true rfl⟩) ⟨HWL_bl, va_recv hK hP (ci := 4) (q0 := posL 6 (LC cf)) rfl (hI.ob 6 (mF 6 rfl) rfl), (HWL_wi hP hK (WL_D hD) hS hA hEV)⟩ rfl rfl hl.1 rfl (lv_room (Nat.le_of_ble_eq_true rfl)) dX3_loadAll_18 ⟨Nat.le_of_ble_eq_true rfl, Nat.le_of_ble_eq_true rfl⟩) (WL_D hD) hS hA (fun E10 H locs hw hP hS => ?_)
        obtain ⟨hI, kq11, hw⟩ := hw
        have hKb := hKp
        have hKp := hKp.tr kq11 (wl_sub rfl rfl)
        have f12 := hw
        have i13 : 0 ≤ (xi (E 1) 0).toInt ∧ (xi (E 1) 0).toInt ≤ 400 := hI0.iv 1 (mF 1 rfl) rfl (Nat.le_of_ble_eq_true rfl) rfl
        try rw [hKb.ei 1 0 rfl] at f12
        obtain ⟨y14, ey14⟩ : ∃ y : Int32, y = v2_1 + (1 : Int32) := ⟨_, rfl⟩
        obtain ⟨ty14, iy14⟩ := ti_add (e := 1) (f := 20) i7 ln_1 ey14 (by decide)
        have ty14 : y14.toInt = v2_1.toInt + 1 := ty14
        have iy14 : 1 ≤ y14.toInt ∧ y14.toInt ≤ 20 := iy14
        refine lv_iinc (v := y14) (lv' := [(1, .int y14), (0, .ref (ad 6))]) hx hb dX3_loadAll_21 hl (k := 0) rfl (by rw [ey14]; rfl) (by decide) rfl (fun ls hl => ?_)
        refine lv_goto (tgt := 2) hx hb dX3_loadAll_24 (by decide) ?_
        exact ih2 y14 E10 _ _ _ (iv_w iy14 (by decide)) (la_next (fun r9 h9 => hx2_0 r9 h9) (K64.of hKb (fun o9 ho9 j9 => wl_p rfl rfl ho9)) f12 (by omega) (by omega)) (by omega) (by first | exact ms_su hx2_2 ty14 (by decide) | omega) hI hKp hP hS (lv_sub hl [0, 1] rfl)
  exact hL2 (21) (0 : Int32) E _ _ _ (iv_w ln_0 (by decide)) (fun r9 h9 => absurd h9 (Nat.not_lt_zero r9)) (by omega) (by have h9 := ln_0; first | exact ms_bu h9.1 (by decide) | omega) hI hKp hP hS (lv_sub hl [0, 1] rfl)
def v_middleOfX : List Cond := .code yX3_middleOf cX3_middleOf 5 (some .int) :: vA
abbrev rm_middleOfX : Room := { frames := 3, cells := 0, slots := 0, locals := 120 }
def w_middleOfX : Nat → Nat → Bool := wl [51] []
set_option maxHeartbeats 4000000 in
set_option maxRecDepth 100000 in
theorem q_middleOfX (l : Launch) (dC : Nat → ClassId) (dI : Nat → Nat → Nat) (cT : Nat → ClassId) (cf : Nat → Nat) (hC : CF cf) (ad : Nat → Nat) (E : Nat → va_E) (sz : Nat) (a0 : Int32) (a1 : Int32) (hI0 : IXL cT (shC cf) (spC cf) (LC cf) ad E) (hh0 : 0 ≤ a0.toInt ∧ a0.toInt ≤ 19) (hh1 : a0.toInt < ((cf 2 : Nat) : Int)) (hh2 : 0 ≤ a1.toInt ∧ a1.toInt ≤ 15) : Met l yX3_middleOf v_middleOfX rm_middleOfX (va_Pc [.ref (ad 6), .int a0, .int a1] (HWL dC dI (TYC cT) cf ad E sz)) (va_Qi (S := Nat → va_E) (fun r u => IXL cT (shC cf) (spC cf) (LC cf) ad u ∧ Kp w_middleOfX E u ∧ ((-1000000000 ≤ r.toInt ∧ r.toInt ≤ 400000) ∧ ((r.toInt = -1000000000 ∨ -100000 ≤ r.toInt)) ∧ (MdO E a0.toNatClampNeg a1.toNatClampNeg r))) (HBL dC dI (LC cf) ad) (va_A (WL (LC cf) ad E) sz)) 0 0 (va_A (WL (LC cf) ad E) sz) := by
  obtain ⟨⟨hc0, hc1, hc2, hc3, hc4, hc5⟩, hcr⟩ := id hC
  refine Met.ofW (cc := cX3_middleOf) (maxL := 5) (ret := (some .int)) (by decide) rfl ?_
  intro p e s m args below meth c s₁ B hml hv
  obtain ⟨hargs, hsz, hP, hK, hD0, hEV⟩ := hv
  subst hsz
  have hx := B.exec
  have hb := B.bytes
  have hr := B.returns
  have hts := atoms_spec (ws := v_middleOfX) B.pre
  have hown : s.vm.findClass RX3 = some m.cls := findClass_of_methodNamed B.named
  have hlocks := B.notSynchronized
  have hinX0 : ∀ w ∈ u_ws RX0 TX0 11, w ∈ v_middleOfX := fun w h => vA_in _ w (in_X0 w h)
  have hinX3 : ∀ w ∈ u_ws RX3 TX3 18, w ∈ v_middleOfX := fun w h => vA_in _ w (in_X3 w h)
  have hinX5 : ∀ w ∈ u_ws RX5 TX5 12, w ∈ v_middleOfX := fun w h => vA_in _ w (in_X5 w h)
  generalize hAe : va_A (WL (LC cf) ad E) s.heap.size = A at hEV ⊢
  have hA : ∀ q : Nat, s.heap.size ≤ q → A q := fun q h => by rw [← hAe]; exact Or.inr h
  have hD : va_D A (WL (LC cf) ad E) := by rw [← hAe]; exact hD0.self
  have hS : va_S A s.heap s.heap [] := va_S.rf
  have hI := hI0
  have hKp : Kp w_middleOfX E E := Kp.rf
  have hl := lv_entry ([.ref (ad 6), .int a0, .int a1]) (n := 5) (Nat.le_of_ble_eq_true rfl)
  obtain ⟨Q, hQ⟩ : ∃ Q, Q = MQ below (va_Qi (S := Nat → va_E) (fun r u => IXL cT (shC cf) (spC cf) (LC cf) ad u ∧ Kp w_middleOfX E u ∧ ((-1000000000 ≤ r.toInt ∧ r.toInt ≤ 400000) ∧ ((r.toInt = -1000000000 ∨ -100000 ≤ r.toInt)) ∧ (MdO E a0.toNatClampNeg a1.toNatClampNeg r))) (HBL dC dI (LC cf) ad) (A)) args s 0 0 (A) := ⟨_, rfl⟩
  rw [← hQ, show entryFrame m args 5 = _ from (congrArg (fun z => entryFrame m z 5) hargs).trans (lg_entry_eq _ _ _)]
  generalize (lg_sl ([.ref (ad 6), .int a0, .int a1]) ++ List.replicate (5 - (lg_sl ([.ref (ad 6), .int a0, .int a1])).length) Slot.unset).toArray = ls at hl ⊢
  have hl : lv_has ls 5 [(0, .ref (ad 6)), (1, .int a0), (2, .int a1)] := hl
  have z0z : (0 : Int32).toInt = 0 := rfl
  refine lv_aload_n hx hb dX3_middleOf_0 rfl (lv_at hl 0 rfl) ?_
  refine th_getL (ci := 4) (C := RX3) (T := TX3) (N := 18) (v := .ref (ad 1)) hx hb hts hinX3 hown hK hP hI 6 (mF 6 rfl) rfl rfl 0 (Nat.le_of_ble_eq_true rfl) (hts _ (vA_in _ _ (in_11 _ (zs16 (zs1 (zs0)))))) (fun _ h9 => h9) (hI.fr 6 (mF 6 rfl) rfl (Nat.le_of_ble_eq_true rfl) 1 rfl) dX3_middleOf_1 ?_
  refine th_getL (ci := 1) (C := RX0) (T := TX0) (N := 11) (v := .ref (ad 9)) hx hb hts hinX0 hown hK hP hI 1 (mF 1 rfl) rfl rfl 5 (Nat.le_of_ble_eq_true rfl) (hts _ (vA_in _ _ (in_11 _ (zs16 (zs1 (zs1 (zs0))))))) (fun _ h9 => h9) (hI.fr 1 (mF 1 rfl) rfl (Nat.le_of_ble_eq_true rfl) 9 rfl) dX3_middleOf_4 ?_
  refine lv_iload_n hx hb dX3_middleOf_7 rfl (lv_at hl 1 rfl) ?_
  refine th_rrL (va_runV (As := [.int a0]) (rest := []) ⟨hx, hb, hml, hown, hts⟩ (q_get2 l dC dI cT cf hC ad E s.heap.size a0 hI (by omega)) (cwV 1 hts (gi_V (in_13 _ (zs16 (zs4 (zs1 (zs0))))) (in_4 _ (zs16 (zs16 (zs4 (zs1 (zs1 (zs0))))))) (in_4 _ (zs16 (zs16 (zs4 (zs1 (zs1 (zs1 (zs0)))))))) (in_3 _ (zs16 (zs1 (zs1 (zs0))))) (in_3 _ (zs16 (zs16 (zs4 (zs1 (zs1 (zs1 (zs0))))))))) rfl rfl rfl ⟨rfl, hz_yJx4a65c_get_915e3_1⟩ ⟨Nat.le_of_ble_eq_true rfl, Nat.le_of_ble_eq_true rfl⟩) ⟨HWL_bl, va_recv hK hP (ci := 0) (q0 := posL 9 (LC cf)) rfl (hI.ob 9 (mF 9 rfl) rfl), (HWL_wi hP hK (WL_D hD) hS hA hEV)⟩ rfl rfl hl.1 rfl (lv_room (Nat.le_of_ble_eq_true rfl)) dX3_middleOf_8 ⟨Nat.le_of_ble_eq_true rfl, Nat.le_of_ble_eq_true rfl⟩) hS hP (fun r1 H locs hw hP hS => ?_)
  obtain rfl := hw
  have lv2 : a0.toNatClampNeg < cf 2 := by rw [tn_]; omega
  refine va_castS (cC := dC 6) hx hb hown (hts _ (vA_in _ _ (in_13 _ (zs16 (zs1 (zs0)))))) (hK.1 6 _ rfl).2 (va_recv hK hP (ci := 6) (q0 := posL (64 * (a0.toNatClampNeg + 1) + 6) (LC cf)) rfl (hI.ob (64 * (a0.toNatClampNeg + 1) + 6) (mP 6 a0.toNatClampNeg (by decide) lv2 (kl_le hC 2 (by decide))) (shC_p 6 a0.toNatClampNeg (by decide)))) dX3_middleOf_11 ?_
  have i3 : 0 ≤ (xi (E (64 * (a0.toNatClampNeg + 1) + 6)) 3).toInt ∧ (xi (E (64 * (a0.toNatClampNeg + 1) + 6)) 3).toInt ≤ 1 := hI0.iv (64 * (a0.toNatClampNeg + 1) + 6) (mP 6 a0.toNatClampNeg (by decide) lv2 (kl_le hC 2 (by decide))) (shC_p 6 a0.toNatClampNeg (by decide)) (Nat.le_of_ble_eq_true rfl) (spC_p 6 a0.toNatClampNeg (by decide) 3)
  refine th_getL (ci := 6) (C := RX5) (T := TX5) (N := 12) (v := .int (xi (E (64 * (a0.toNatClampNeg + 1) + 6)) 3)) hx hb hts hinX5 hown hK hP hI (64 * (a0.toNatClampNeg + 1) + 6) (mP 6 a0.toNatClampNeg (by decide) lv2 (kl_le hC 2 (by decide))) (shC_p 6 a0.toNatClampNeg (by decide)) rfl 3 (Nat.le_of_ble_eq_true rfl) (hts _ (vA_in _ _ (in_13 _ (zs16 (zs1 (zs1 (zs0))))))) (fun _ h9 => h9) (th_v0L hKp hI0 (64 * (a0.toNatClampNeg + 1) + 6) (mP 6 a0.toNatClampNeg (by decide) lv2 (kl_le hC 2 (by decide))) (shC_p 6 a0.toNatClampNeg (by decide)) (Nat.le_of_ble_eq_true rfl) (spC_p 6 a0.toNatClampNeg (by decide) 3) (wl_p rfl rfl (by omega))) dX3_middleOf_14 ?_
  refine lv_if_ne (tgt := 33) hx hb dX3_middleOf_17 (by decide) (fun c4 => ?_) (fun c4 => ?_)
  · --17 taken
    have t5 : ¬ (xi (E (64 * (a0.toNatClampNeg + 1) + 6)) 3).toInt = 0 := ti_ne c4
    have i6 : 1 ≤ (xi (E (64 * (a0.toNatClampNeg + 1) + 6)) 3).toInt ∧ (xi (E (64 * (a0.toNatClampNeg + 1) + 6)) 3).toInt ≤ 1 := iv_ne_l t5 i3 (il_ 0)
    refine lv_ldc hx hb hown (hts _ (vA_in _ _ (in_13 _ (zs16 (zs16 (zs1 (zs1 (zs0)))))))) dX3_middleOf_33 ?_
    rw [hQ]
    exact W.iret (v := (-1000000000)) hx hb hr (fun t ht hW => ⟨⟨(-1000000000), E, rfl, ⟨hI, hKp, ⟨(iv_w ln_m1000000000 (by decide)), by have h8 := ln_m1000000000; all_goals omega, ⟨fun _ => rfl, fun q9 => by exfalso; have q8 : (xi (E (64 * (a0.toNatClampNeg + 1) + 6)) 3).toInt = 0 := q9.1; omega⟩⟩⟩, by show va_P (dC, dI) vwCl (WL (LC cf) ad E) t.heap; rw [ht]; exact hP⟩, hS.F ht⟩) hS.2.2 dX3_middleOf_35
  · --17 not
    have t7 : (xi (E (64 * (a0.toNatClampNeg + 1) + 6)) 3).toInt = 0 := ti_eq c4
    have i8 : 0 ≤ (xi (E (64 * (a0.toNatClampNeg + 1) + 6)) 3).toInt ∧ (xi (E (64 * (a0.toNatClampNeg + 1) + 6)) 3).toInt ≤ 0 := iv_eqi t7 i3 (il_ 0) (by decide)
    refine lv_aload_n hx hb dX3_middleOf_20 rfl (lv_at hl 0 rfl) ?_
    refine th_getL (ci := 4) (C := RX3) (T := TX3) (N := 18) (v := .ref (ad 43)) hx hb hts hinX3 hown hK hP hI 6 (mF 6 rfl) rfl rfl 2 (Nat.le_of_ble_eq_true rfl) (hts _ (vA_in _ _ (in_11 _ (zs16 (zs4 (zs4 (zs1 (zs1 (zs0))))))))) (fun _ h9 => h9) (hI.fr 6 (mF 6 rfl) rfl (Nat.le_of_ble_eq_true rfl) 43 rfl) dX3_middleOf_21 ?_
    refine lv_iload_n hx hb dX3_middleOf_24 rfl (lv_at hl 1 rfl) ?_
    refine lv_iload_n hx hb dX3_middleOf_25 rfl (lv_at hl 2 rfl) ?_
    refine th_pi (va_runSN (As := [.int a0, .int a1]) (rest := [.ref (ad 43)]) ⟨hx, hb, hml, hown, hts⟩ (q_ccell l a0 a1 hh0 hh2) ⟨va_cnB 2 hts (gi_0 (in_10 _ (zs16 (zs4 (zs0))))) rfl rfl rfl (hEV.1.1 _ (List.mem_of_getElem? (i := 7) rfl)) (hts _ (vA_in _ _ (in_4 _ (zs16 (zs4 (zs1 (zs1 (zs1 (zs0))))))))) hz_yX12_cell_2 ⟨Nat.le_of_ble_eq_true rfl, Nat.le_of_ble_eq_true rfl⟩, (hts _ (vA_in _ _ (in_13 _ (zs1 (zs0))))), trivial⟩ ⟨fun _ _ _ _ q => q, fun _ _ _ => ⟨rfl, trivial⟩⟩ rfl rfl hl.1 rfl (lv_room (Nat.le_of_ble_eq_true rfl)) dX3_middleOf_26 ⟨Nat.le_of_ble_eq_true rfl, Nat.le_of_ble_eq_true rfl⟩) hS (fun r9 H1 locs1 hw hk1 hS => ?_)
    have hP := ub_keep hP hk1
    generalize H1 = H at hP hS ⊢
    generalize locs1 = locs at hS ⊢
    obtain ⟨f10, f11⟩ := hw
    have n13 : vp_in r9 320 := (iv_in (n := 320) f10 (by decide))
    refine th_zaldL hx hb hK hP hI 43 (mF 43 rfl) rfl rfl n13 dX3_middleOf_29 (fun y12 ey12 => ?_)
    have iy12 : 0 ≤ y12.toInt ∧ y12.toInt ≤ 1 := hI.el 43 (mF 43 rfl) rfl n13 (fun _ => rfl) ey12
    have ey12 := ey12.trans (hKp.ei 43 _ rfl)
    refine lv_if_ne (tgt := 36) hx hb dX3_middleOf_30 (by decide) (fun c14 => ?_) (fun c14 => ?_)
    · --30 taken
      have t15 : ¬ y12.toInt = 0 := ti_ne c14
      have i16 : 1 ≤ y12.toInt ∧ y12.toInt ≤ 1 := iv_ne_l t15 iy12 (il_ 0)
      refine lv_iconst (v := 0) hx hb dX3_middleOf_36 (by decide) ?_
      refine lv_istore_n (lv' := [(3, .int 0), (0, .ref (ad 6)), (1, .int a0), (2, .int a1)]) hx hb dX3_middleOf_37 rfl hl (by decide) rfl (fun ls hl => ?_)
      refine lv_iconst (v := 0) hx hb dX3_middleOf_38 (by decide) ?_
      refine lv_istore (lv' := [(4, .int 0), (3, .int 0), (0, .ref (ad 6)), (1, .int a0), (2, .int a1)]) hx hb dX3_middleOf_39 hl (by decide) rfl (fun ls hl => ?_)
      have hL41 : ∀ d : Nat, ∀ (v41_4 : Int32) (v41_3 : Int32) (E41_ : Nat → va_E) (H : Heap) (locs : List Loc) (ls : Array Slot), 0 ≤ v41_4.toInt ∧ v41_4.toInt ≤ 16 → 0 ≤ v41_3.toInt ∧ v41_3.toInt ≤ 16 → (∃ g9 : Nat → Int32, MR (fun o9 => (xi (E 43) (16 * a0.toNatClampNeg + o9)).toInt = 1) (fun o9 => xi (E 46) (16 * a0.toNatClampNeg + o9)) a1.toNatClampNeg v41_4.toNatClampNeg v41_3.toNatClampNeg g9 ∧ xi (E41_ 51) = g9) → v41_3.toInt ≤ v41_4.toInt → 16 - v41_4.toInt < (d : Int) → IXL cT (shC cf) (spC cf) (LC cf) ad E41_ → Kp w_middleOfX E E41_ → va_P (dC, dI) vwCl (WL (LC cf) ad E41_) H → va_S A s.heap H locs → lv_has ls 5 [(4, .int v41_4), (3, .int v41_3), (0, .ref (ad 6)), (1, .int a0), (2, .int a1)] → W p l e (headSpec v_middleOfX rm_middleOfX).room s m args below meth c H locs 0 0 Q (F0 m 41 ls []) := by
        intro d
        induction d with
        | zero =>
          intro v41_4 v41_3 E41_ H locs ls hv41_4 hv41_3 hx41_0 hx41_1 hx41_2 hI hKp hP hS hl
          exact absurd hx41_2 (by first | exact ms_zu hv41_4.2 | omega)
        | succ d ih41 =>
          intro v41_4 v41_3 E41_ H locs ls hv41_4 hv41_3 hx41_0 hx41_1 hx41_2 hI hKp hP hS hl
          refine lv_iload hx hb dX3_middleOf_41 (lv_at hl 0 rfl) ?_
          refine lv_bipush (v := 16) hx hb dX3_middleOf_43 (by decide) ?_
          refine lv_icmp_ge (tgt := 94) hx hb dX3_middleOf_45 (by decide) (fun c17 => ?_) (fun c17 => ?_)
          · --45 taken
            have t18 : (16 : Int) ≤ v41_4.toInt := ti_le c17
            have i19 : 16 ≤ v41_4.toInt ∧ v41_4.toInt ≤ 16 := iv_le_r t18 (il_ 16) hv41_4 (by decide)
            refine lv_iload_n hx hb dX3_middleOf_94 rfl (lv_at hl 1 rfl) ?_
            refine lv_if_ne (tgt := 103) hx hb dX3_middleOf_95 (by decide) (fun c20 => ?_) (fun c20 => ?_)
            · --95 taken
              have t21 : ¬ v41_3.toInt = 0 := ti_ne c20
              have i22 : 1 ≤ v41_3.toInt ∧ v41_3.toInt ≤ 16 := iv_ne_l t21 hv41_3 (il_ 0)
              refine lv_aload_n hx hb dX3_middleOf_103 rfl (lv_at hl 2 rfl) ?_
              refine th_getL (ci := 4) (C := RX3) (T := TX3) (N := 18) (v := .ref (ad 51)) hx hb hts hinX3 hown hK hP hI 6 (mF 6 rfl) rfl rfl 10 (Nat.le_of_ble_eq_true rfl) (hts _ (vA_in _ _ (in_17 _ (zs16 (zs4 (zs1 (zs1 (zs0)))))))) (fun _ h9 => h9) (hI.fr 6 (mF 6 rfl) rfl (Nat.le_of_ble_eq_true rfl) 51 rfl) dX3_middleOf_104 ?_
              refine lv_iload_n hx hb dX3_middleOf_107 rfl (lv_at hl 1 rfl) ?_
              refine lv_iconst (v := 1) hx hb dX3_middleOf_108 (by decide) ?_
              refine lv_isub hx hb dX3_middleOf_109 ?_
              refine lv_topi (fun y23 ey23 => ?_)
              obtain ⟨ty23, iy23⟩ := ti_sub (e := 0) (f := 15) i22 ln_1 ey23 (by decide)
              have ty23 : y23.toInt = v41_3.toInt - 1 := ty23
              have iy23 : 0 ≤ y23.toInt ∧ y23.toInt ≤ 15 := iy23
              refine lv_iconst (v := 2) hx hb dX3_middleOf_110 (by decide) ?_
              refine lv_idiv hx hb dX3_middleOf_111 (by decide) ?_
              refine lv_topi (fun y24 ey24 => ?_)
              obtain ⟨ty24, iy24⟩ := ti_div (e := 0) (f := 7) iy23 ln_2 ey24 (by decide)
              have iy24 : 0 ≤ y24.toInt ∧ y24.toInt ≤ 7 := iy24
              have n26 : vp_in y24 16 := (iv_in (n := 16) iy24 (by decide))
              refine th_ialdL hx hb hK hP hI 51 (mF 51 rfl) rfl rfl n26 dX3_middleOf_112 (fun y25 ey25 => ?_)
              have iy25 : -100000 ≤ y25.toInt ∧ y25.toInt ≤ 400000 := hI.el 51 (mF 51 rfl) rfl n26 (fun _ => rfl) ey25
              rw [hQ]
              exact W.iret (v := y25) hx hb hr (fun t ht hW => ⟨⟨y25, E41_, rfl, ⟨hI, hKp, ⟨(iv_w iy25 (by decide)), by all_goals omega, ⟨fun q9 => absurd (show (rcS E a0.toNatClampNeg 3).toInt = 0 ∧ (xi (E 43) (16 * a0.toNatClampNeg + a1.toNatClampNeg)).toInt = 1 from ⟨(by show (xi (E (64 * (a0.toNatClampNeg + 1) + 6)) 3).toInt = 0; omega), (by rw [(show 16 * a0.toNatClampNeg + a1.toNatClampNeg = r9.toNatClampNeg by rw [tn_ r9, tn_ a1, tn_ a0]; omega), ← ey12]; omega)⟩) q9, fun _ => by obtain ⟨g9, h8, h9⟩ := hx41_0; rw [show v41_4.toNatClampNeg = 16 by rw [tn_]; omega] at h8; exact ⟨_, g9, h8, fun z9 => by exfalso; rw [tn_] at z9; omega, fun _ => by rw [← h9, show (v41_3.toNatClampNeg - 1) / 2 = y24.toNatClampNeg by have q7 := ty24; rw [show (2 : Int32).toInt = 2 from rfl] at q7; rw [tn_ y24, tn_ v41_3]; omega, show xi (E41_ 51) y24.toNatClampNeg = y25 from ey25.symm]⟩⟩⟩⟩, by show va_P (dC, dI) vwCl (WL (LC cf) ad E41_) t.heap; rw [ht]; exact hP⟩, hS.F ht⟩) hS.2.2 dX3_middleOf_113
            · --95 not
              have t27 : v41_3.toInt = 0 := ti_eq c20
              have i28 : 0 ≤ v41_3.toInt ∧ v41_3.toInt ≤ 0 := iv_eqi t27 hv41_3 (il_ 0) (by decide)
              refine lv_ldc hx hb hown (hts _ (vA_in _ _ (in_13 _ (zs16 (zs16 (zs1 (zs1 (zs0)))))))) dX3_middleOf_98 ?_
              refine lv_goto (tgt := 113) hx hb dX3_middleOf_100 (by decide) ?_
              rw [hQ]
              exact W.iret (v := (-1000000000)) hx hb hr (fun t ht hW => ⟨⟨(-1000000000), E41_, rfl, ⟨hI, hKp, ⟨(iv_w ln_m1000000000 (by decide)), by have h8 := ln_m1000000000; all_goals omega, ⟨fun q9 => absurd (show (rcS E a0.toNatClampNeg 3).toInt = 0 ∧ (xi (E 43) (16 * a0.toNatClampNeg + a1.toNatClampNeg)).toInt = 1 from ⟨(by show (xi (E (64 * (a0.toNatClampNeg + 1) + 6)) 3).toInt = 0; omega), (by rw [(show 16 * a0.toNatClampNeg + a1.toNatClampNeg = r9.toNatClampNeg by rw [tn_ r9, tn_ a1, tn_ a0]; omega), ← ey12]; omega)⟩) q9, fun _ => by obtain ⟨g9, h8, h9⟩ := hx41_0; rw [show v41_4.toNatClampNeg = 16 by rw [tn_]; omega] at h8; exact ⟨_, g9, h8, fun _ => rfl, fun z9 => by exfalso; rw [tn_] at z9; omega⟩⟩⟩⟩, by show va_P (dC, dI) vwCl (WL (LC cf) ad E41_) t.heap; rw [ht]; exact hP⟩, hS.F ht⟩) hS.2.2 dX3_middleOf_113
          · --45 not
            have t29 : v41_4.toInt < 16 := ti_nle c17
            have i30 : 0 ≤ v41_4.toInt ∧ v41_4.toInt ≤ 15 := iv_lt_l t29 hv41_4 (il_ 16) (by decide)
            have i31 : 0 ≤ v41_3.toInt ∧ v41_3.toInt ≤ 15 := by omega
            refine lv_iload hx hb dX3_middleOf_48 (lv_at hl 0 rfl) ?_
            refine lv_iload_n hx hb dX3_middleOf_50 rfl (lv_at hl 4 rfl) ?_
            refine lv_icmp_eq (tgt := 88) hx hb dX3_middleOf_51 (by decide) (fun c32 => ?_) (fun c32 => ?_)
            · --51 taken
              have t33 : v41_4.toInt = a1.toInt := ti_eq c32
              obtain ⟨y34, ey34⟩ : ∃ y : Int32, y = v41_4 + (1 : Int32) := ⟨_, rfl⟩
              obtain ⟨ty34, iy34⟩ := ti_add (e := 1) (f := 16) i30 ln_1 ey34 (by decide)
              have ty34 : y34.toInt = v41_4.toInt + 1 := ty34
              have iy34 : 1 ≤ y34.toInt ∧ y34.toInt ≤ 16 := iy34
              refine lv_iinc (v := y34) (lv' := [(4, .int y34), (3, .int v41_3), (0, .ref (ad 6)), (1, .int a0), (2, .int a1)]) hx hb dX3_middleOf_88 hl (k := 0) rfl (by rw [ey34]; rfl) (by decide) rfl (fun ls hl => ?_)
              refine lv_goto (tgt := 41) hx hb dX3_middleOf_91 (by decide) ?_
              exact ih41 y34 v41_3 E41_ _ _ _ (iv_w iy34 (by decide)) (iv_w i31 (by decide)) (by obtain ⟨g9, h8, h9⟩ := hx41_0; exact ⟨g9, h8.no (fun q9 => q9.1 (by rw [tn_, tn_]; omega)) (by rw [tn_ y34, tn_ v41_4]; omega), h9⟩) (by omega) (by first | exact ms_su hx41_2 ty34 (by decide) | omega) hI hKp hP hS (lv_sub hl [0, 1, 2, 3, 4] rfl)
            · --51 not
              have t35 : ¬ v41_4.toInt = a1.toInt := ti_ne c32
              refine lv_aload_n hx hb dX3_middleOf_54 rfl (lv_at hl 2 rfl) ?_
              refine th_getL (ci := 4) (C := RX3) (T := TX3) (N := 18) (v := .ref (ad 43)) hx hb hts hinX3 hown hK hP hI 6 (mF 6 rfl) rfl rfl 2 (Nat.le_of_ble_eq_true rfl) (hts _ (vA_in _ _ (in_11 _ (zs16 (zs4 (zs4 (zs1 (zs1 (zs0))))))))) (fun _ h9 => h9) (hI.fr 6 (mF 6 rfl) rfl (Nat.le_of_ble_eq_true rfl) 43 rfl) dX3_middleOf_55 ?_
              refine lv_iload_n hx hb dX3_middleOf_58 rfl (lv_at hl 3 rfl) ?_
              refine lv_iload hx hb dX3_middleOf_59 (lv_at hl 0 rfl) ?_
              refine th_pi (va_runSN (As := [.int a0, .int v41_4]) (rest := [.ref (ad 43)]) ⟨hx, hb, hml, hown, hts⟩ (q_ccell l a0 v41_4 hh0 i30) ⟨va_cnB 2 hts (gi_0 (in_10 _ (zs16 (zs4 (zs0))))) rfl rfl rfl (hEV.1.1 _ (List.mem_of_getElem? (i := 7) rfl)) (hts _ (vA_in _ _ (in_4 _ (zs16 (zs4 (zs1 (zs1 (zs1 (zs0))))))))) hz_yX12_cell_2 ⟨Nat.le_of_ble_eq_true rfl, Nat.le_of_ble_eq_true rfl⟩, (hts _ (vA_in _ _ (in_13 _ (zs1 (zs0))))), trivial⟩ ⟨fun _ _ _ _ q => q, fun _ _ _ => ⟨rfl, trivial⟩⟩ rfl rfl hl.1 rfl (lv_room (Nat.le_of_ble_eq_true rfl)) dX3_middleOf_61 ⟨Nat.le_of_ble_eq_true rfl, Nat.le_of_ble_eq_true rfl⟩) hS (fun r36 H1 locs1 hw hk1 hS => ?_)
              have hP := ub_keep hP hk1
              generalize H1 = H at hP hS ⊢
              generalize locs1 = locs at hS ⊢
              obtain ⟨f37, f38⟩ := hw
              have n40 : vp_in r36 320 := (iv_in (n := 320) f37 (by decide))
              refine th_zaldL hx hb hK hP hI 43 (mF 43 rfl) rfl rfl n40 dX3_middleOf_64 (fun y39 ey39 => ?_)
              have iy39 : 0 ≤ y39.toInt ∧ y39.toInt ≤ 1 := hI.el 43 (mF 43 rfl) rfl n40 (fun _ => rfl) ey39
              have ey39 := ey39.trans (hKp.ei 43 _ rfl)
              refine lv_if_eq (tgt := 88) hx hb dX3_middleOf_65 (by decide) (fun c41 => ?_) (fun c41 => ?_)
              · --65 taken
                have t42 : y39.toInt = 0 := ti_eq c41
                have i43 : 0 ≤ y39.toInt ∧ y39.toInt ≤ 0 := iv_eqi t42 iy39 (il_ 0) (by decide)
                obtain ⟨y44, ey44⟩ : ∃ y : Int32, y = v41_4 + (1 : Int32) := ⟨_, rfl⟩
                obtain ⟨ty44, iy44⟩ := ti_add (e := 1) (f := 16) i30 ln_1 ey44 (by decide)
                have ty44 : y44.toInt = v41_4.toInt + 1 := ty44
                have iy44 : 1 ≤ y44.toInt ∧ y44.toInt ≤ 16 := iy44
                refine lv_iinc (v := y44) (lv' := [(4, .int y44), (3, .int v41_3), (0, .ref (ad 6)), (1, .int a0), (2, .int a1)]) hx hb dX3_middleOf_88 hl (k := 0) rfl (by rw [ey44]; rfl) (by decide) rfl (fun ls hl => ?_)
                refine lv_goto (tgt := 41) hx hb dX3_middleOf_91 (by decide) ?_
                exact ih41 y44 v41_3 E41_ _ _ _ (iv_w iy44 (by decide)) (iv_w i31 (by decide)) (by obtain ⟨g9, h8, h9⟩ := hx41_0; exact ⟨g9, h8.no (fun q9 => by have q8 : (xi (E 43) (16 * a0.toNatClampNeg + v41_4.toNatClampNeg)).toInt = 1 := q9.2; rw [show 16 * a0.toNatClampNeg + v41_4.toNatClampNeg = r36.toNatClampNeg by rw [tn_ r36, tn_ v41_4, tn_ a0]; omega, ← ey39] at q8; omega) (by rw [tn_ y44, tn_ v41_4]; omega), h9⟩) (by omega) (by first | exact ms_su hx41_2 ty44 (by decide) | omega) hI hKp hP hS (lv_sub hl [0, 1, 2, 3, 4] rfl)
              · --65 not
                have t45 : ¬ y39.toInt = 0 := ti_ne c41
                have i46 : 1 ≤ y39.toInt ∧ y39.toInt ≤ 1 := iv_ne_l t45 iy39 (il_ 0)
                refine lv_aload_n hx hb dX3_middleOf_68 rfl (lv_at hl 2 rfl) ?_
                refine th_getL (ci := 4) (C := RX3) (T := TX3) (N := 18) (v := .ref (ad 46)) hx hb hts hinX3 hown hK hP hI 6 (mF 6 rfl) rfl rfl 5 (Nat.le_of_ble_eq_true rfl) (hts _ (vA_in _ _ (in_11 _ (zs16 (zs16 (zs0)))))) (fun _ h9 => h9) (hI.fr 6 (mF 6 rfl) rfl (Nat.le_of_ble_eq_true rfl) 46 rfl) dX3_middleOf_69 ?_
                refine lv_iload_n hx hb dX3_middleOf_72 rfl (lv_at hl 3 rfl) ?_
                refine lv_iload hx hb dX3_middleOf_73 (lv_at hl 0 rfl) ?_
                refine th_pi (va_runSN (As := [.int a0, .int v41_4]) (rest := [.ref (ad 46)]) ⟨hx, hb, hml, hown, hts⟩ (q_ccell l a0 v41_4 hh0 i30) ⟨va_cnB 2 hts (gi_0 (in_10 _ (zs16 (zs4 (zs0))))) rfl rfl rfl (hEV.1.1 _ (List.mem_of_getElem? (i := 7) rfl)) (hts _ (vA_in _ _ (in_4 _ (zs16 (zs4 (zs1 (zs1 (zs1 (zs0))))))))) hz_yX12_cell_2 ⟨Nat.le_of_ble_eq_true rfl, Nat.le_of_ble_eq_true rfl⟩, (hts _ (vA_in _ _ (in_13 _ (zs1 (zs0))))), trivial⟩ ⟨fun _ _ _ _ q => q, fun _ _ _ => ⟨rfl, trivial⟩⟩ rfl rfl hl.1 rfl (lv_room (Nat.le_of_ble_eq_true rfl)) dX3_middleOf_75 ⟨Nat.le_of_ble_eq_true rfl, Nat.le_of_ble_eq_true rfl⟩) hS (fun r47 H1 locs1 hw hk1 hS => ?_)
                have hP := ub_keep hP hk1
                generalize H1 = H at hP hS ⊢
                generalize locs1 = locs at hS ⊢
                obtain ⟨f48, f49⟩ := hw
                have n51 : vp_in r47 320 := (iv_in (n := 320) f48 (by decide))
                refine th_ialdL hx hb hK hP hI 46 (mF 46 rfl) rfl rfl n51 dX3_middleOf_78 (fun y50 ey50 => ?_)
                have iy50 : -100000 ≤ y50.toInt ∧ y50.toInt ≤ 400000 := hI.el 46 (mF 46 rfl) rfl n51 (fun _ => rfl) ey50
                have ey50 := ey50.trans (hKp.ei 46 _ rfl)
                refine lv_aload_n hx hb dX3_middleOf_79 rfl (lv_at hl 2 rfl) ?_
                refine th_getL (ci := 4) (C := RX3) (T := TX3) (N := 18) (v := .ref (ad 51)) hx hb hts hinX3 hown hK hP hI 6 (mF 6 rfl) rfl rfl 10 (Nat.le_of_ble_eq_true rfl) (hts _ (vA_in _ _ (in_17 _ (zs16 (zs4 (zs1 (zs1 (zs0)))))))) (fun _ h9 => h9) (hI.fr 6 (mF 6 rfl) rfl (Nat.le_of_ble_eq_true rfl) 51 rfl) dX3_middleOf_80 ?_
                refine lv_iload_n hx hb dX3_middleOf_83 rfl (lv_at hl 1 rfl) ?_
                refine th_iL (va_runSN (As := [.int y50, .ref (ad 51), .int v41_3]) (rest := []) ⟨hx, hb, hml, hown, hts⟩ (q_sortIn51X l dC dI cT cf hC ad E41_ H.size y50 v41_3 hI (iv_w i31 (by decide)) iy50) ⟨va_cnB 3 hts (gi_0 (in_17 _ (zs16 (zs4 (zs4 (zs0)))))) rfl rfl rfl (hEV.1.1 _ (List.mem_of_getElem? (i := 5) rfl)) (hts _ (vA_in _ _ (in_4 _ (zs16 (zs4 (zs1 (zs1 (zs1 (zs0))))))))) hz_yX12_sortIn_3 ⟨Nat.le_of_ble_eq_true rfl, Nat.le_of_ble_eq_true rfl⟩, (hts _ (vA_in _ _ (in_17 _ (zs16 (zs4 (zs1 (zs1 (zs1 (zs0))))))))), trivial⟩ ⟨HWL_bl, (HWL_wi hP hK (WL_D hD) hS hA hEV)⟩ rfl rfl hl.1 rfl (lv_room (Nat.le_of_ble_eq_true rfl)) dX3_middleOf_84 ⟨Nat.le_of_ble_eq_true rfl, Nat.le_of_ble_eq_true rfl⟩) (WL_D hD) hS hA (fun r52 E53 H locs hw hP hS => ?_)
                obtain ⟨hI, kq54, hw⟩ := hw
                have hKb := hKp
                have hKp := hKp.tr kq54 (wl_sub rfl rfl)
                obtain ⟨f55, f56, f57⟩ := hw
                refine lv_istore_n (lv' := [(3, .int r52), (4, .int v41_4), (0, .ref (ad 6)), (1, .int a0), (2, .int a1)]) hx hb dX3_middleOf_87 rfl hl (by decide) rfl (fun ls hl => ?_)
                obtain ⟨y58, ey58⟩ : ∃ y : Int32, y = v41_4 + (1 : Int32) := ⟨_, rfl⟩
                obtain ⟨ty58, iy58⟩ := ti_add (e := 1) (f := 16) i30 ln_1 ey58 (by decide)
                have ty58 : y58.toInt = v41_4.toInt + 1 := ty58
                have iy58 : 1 ≤ y58.toInt ∧ y58.toInt ≤ 16 := iy58
                refine lv_iinc (v := y58) (lv' := [(4, .int y58), (3, .int r52), (0, .ref (ad 6)), (1, .int a0), (2, .int a1)]) hx hb dX3_middleOf_88 hl (k := 1) rfl (by rw [ey58]; rfl) (by decide) rfl (fun ls hl => ?_)
                refine lv_goto (tgt := 41) hx hb dX3_middleOf_91 (by decide) ?_
                exact ih41 y58 r52 E53 _ _ _ (iv_w iy58 (by decide)) f55 (by obtain ⟨g9, h8, h9⟩ := hx41_0; exact ⟨_, h8.one (g' := xi (E53 51)) ⟨(fun q9 => by rw [tn_, tn_] at q9; omega), (by show (xi (E 43) (16 * a0.toNatClampNeg + v41_4.toNatClampNeg)).toInt = 1; rw [(show 16 * a0.toNatClampNeg + v41_4.toNatClampNeg = r36.toNatClampNeg by rw [tn_ r36, tn_ v41_4, tn_ a0]; omega), ← ey39]; omega)⟩ (fun i9 _ => by rw [(f57 (by omega)).2, h9, (show y50 = xi (E 46) (16 * a0.toNatClampNeg + v41_4.toNatClampNeg) by rw [(show 16 * a0.toNatClampNeg + v41_4.toNatClampNeg = r47.toNatClampNeg by rw [tn_ r47, tn_ v41_4, tn_ a0]; omega), ← ey50])]) (by rw [tn_ r52, tn_ v41_3]; omega) (by rw [tn_ y58, tn_ v41_4]; omega), rfl⟩) (by omega) (by first | exact ms_su hx41_2 ty58 (by decide) | omega) hI hKp hP hS (lv_sub hl [0, 1, 2, 3, 4] rfl)
      exact hL41 (17) (0 : Int32) (0 : Int32) E _ _ _ (iv_w ln_0 (by decide)) (iv_w ln_0 (by decide)) ⟨_, (show MR (fun o9 => (xi (E 43) (16 * a0.toNatClampNeg + o9)).toInt = 1) (fun o9 => xi (E 46) (16 * a0.toNatClampNeg + o9)) a1.toNatClampNeg 0 0 _ from rfl), rfl⟩ (by omega) (by have h9 := ln_0; first | exact ms_bu h9.1 (by decide) | omega) hI hKp hP hS (lv_sub hl [0, 1, 2, 3, 4] rfl)
    · --30 not
      have t59 : y12.toInt = 0 := ti_eq c14
      have i60 : 0 ≤ y12.toInt ∧ y12.toInt ≤ 0 := iv_eqi t59 iy12 (il_ 0) (by decide)
      refine lv_ldc hx hb hown (hts _ (vA_in _ _ (in_13 _ (zs16 (zs16 (zs1 (zs1 (zs0)))))))) dX3_middleOf_33 ?_
      rw [hQ]
      exact W.iret (v := (-1000000000)) hx hb hr (fun t ht hW => ⟨⟨(-1000000000), E, rfl, ⟨hI, hKp, ⟨(iv_w ln_m1000000000 (by decide)), by have h8 := ln_m1000000000; all_goals omega, ⟨fun _ => rfl, fun q9 => by exfalso; have q8 : (xi (E 43) (16 * a0.toNatClampNeg + a1.toNatClampNeg)).toInt = 1 := q9.2; rw [(show 16 * a0.toNatClampNeg + a1.toNatClampNeg = r9.toNatClampNeg by rw [tn_ r9, tn_ a1, tn_ a0]; omega), ← ey12] at q8; omega⟩⟩⟩, by show va_P (dC, dI) vwCl (WL (LC cf) ad E) t.heap; rw [ht]; exact hP⟩, hS.F ht⟩) hS.2.2 dX3_middleOf_35
def v_u_middleX : List Cond := .code yX12_middle cX12_middle 3 (some .int) :: vA
abbrev rm_u_middleX : Room := { frames := 7, cells := 0, slots := 0, locals := 280 }
def w_u_middleX : Nat → Nat → Bool := wl [19, 20, 26, 27, 28, 29, 30, 43, 44, 45, 46, 51] [(3, 6), (3, 7), (3, 8)]
set_option maxHeartbeats 4000000 in
set_option maxRecDepth 100000 in
theorem q_u_middleX (l : Launch) (dC : Nat → ClassId) (dI : Nat → Nat → Nat) (cT : Nat → ClassId) (cf : Nat → Nat) (hC : CF cf) (ad : Nat → Nat) (E : Nat → va_E) (sz : Nat) (a0 : Int32) (a1 : Int32) (hI0 : IXL cT (shC cf) (spC cf) (LC cf) ad E) (hh0 : RulAll cf E) : Met l yX12_middle v_u_middleX rm_u_middleX (va_Pc [.ref (ad 0), .int a0, .int a1] (HWL dC dI (TYC cT) cf ad E sz)) (va_Qi (S := Nat → va_E) (fun r u => IXL cT (shC cf) (spC cf) (LC cf) ad u ∧ Kp w_u_middleX E u ∧ ((((((0 ≤ a0.toInt ∧ a0.toInt < ((cf 2 : Nat) : Int)) ∧ (0 ≤ a1.toInt ∧ a1.toInt < (xi (E 1) 1).toInt)) → (MdC cf E a0 (xi (E 1) 0) a1.toNatClampNeg r)) ∧ (¬ ((0 ≤ a0.toInt ∧ a0.toInt < ((cf 2 : Nat) : Int)) ∧ (0 ≤ a1.toInt ∧ a1.toInt < (xi (E 1) 1).toInt)) → (r.toInt = -1000000000)))))) (HBL dC dI (LC cf) ad) (va_A (WL (LC cf) ad E) sz)) 0 0 (va_A (WL (LC cf) ad E) sz) := by
  obtain ⟨⟨hc0, hc1, hc2, hc3, hc4, hc5⟩, hcr⟩ := id hC
  refine Met.ofW (cc := cX12_middle) (maxL := 3) (ret := (some .int)) (by decide) rfl ?_
  intro p e s m args below meth c s₁ B hml hv
  obtain ⟨hargs, hsz, hP, hK, hD0, hEV⟩ := hv
  subst hsz
  have hx := B.exec
  have hb := B.bytes
  have hr := B.returns
  have hts := atoms_spec (ws := v_u_middleX) B.pre
  have hown : s.vm.findClass RX12 = some m.cls := findClass_of_methodNamed B.named
  have hlocks := B.notSynchronized
  have hinX12 : ∀ w ∈ u_ws RX12 TX12 6, w ∈ v_u_middleX := fun w h => vA_in _ w (in_X12 w h)
  generalize hAe : va_A (WL (LC cf) ad E) s.heap.size = A at hEV ⊢
  have hA : ∀ q : Nat, s.heap.size ≤ q → A q := fun q h => by rw [← hAe]; exact Or.inr h
  have hD : va_D A (WL (LC cf) ad E) := by rw [← hAe]; exact hD0.self
  have hS : va_S A s.heap s.heap [] := va_S.rf
  have hI := hI0
  have hKp : Kp w_u_middleX E E := Kp.rf
  have hl := lv_entry ([.ref (ad 0), .int a0, .int a1]) (n := 3) (Nat.le_of_ble_eq_true rfl)
  obtain ⟨Q, hQ⟩ : ∃ Q, Q = MQ below (va_Qi (S := Nat → va_E) (fun r u => IXL cT (shC cf) (spC cf) (LC cf) ad u ∧ Kp w_u_middleX E u ∧ ((((((0 ≤ a0.toInt ∧ a0.toInt < ((cf 2 : Nat) : Int)) ∧ (0 ≤ a1.toInt ∧ a1.toInt < (xi (E 1) 1).toInt)) → (MdC cf E a0 (xi (E 1) 0) a1.toNatClampNeg r)) ∧ (¬ ((0 ≤ a0.toInt ∧ a0.toInt < ((cf 2 : Nat) : Int)) ∧ (0 ≤ a1.toInt ∧ a1.toInt < (xi (E 1) 1).toInt)) → (r.toInt = -1000000000)))))) (HBL dC dI (LC cf) ad) (A)) args s 0 0 (A) := ⟨_, rfl⟩
  rw [← hQ, show entryFrame m args 3 = _ from (congrArg (fun z => entryFrame m z 3) hargs).trans (lg_entry_eq _ _ _)]
  generalize (lg_sl ([.ref (ad 0), .int a0, .int a1]) ++ List.replicate (3 - (lg_sl ([.ref (ad 0), .int a0, .int a1])).length) Slot.unset).toArray = ls at hl ⊢
  have hl : lv_has ls 3 [(0, .ref (ad 0)), (1, .int a0), (2, .int a1)] := hl
  refine lv_aload_n hx hb dX12_middle_0 rfl (lv_at hl 0 rfl) ?_
  refine th_getL (ci := 13) (C := RX12) (T := TX12) (N := 6) (v := .ref (ad 1)) hx hb hts hinX12 hown hK hP hI 0 (mF 0 rfl) rfl rfl 0 (Nat.le_of_ble_eq_true rfl) (hts _ (vA_in _ _ (in_10 _ (zs16 (zs1 (zs0)))))) (fun _ h9 => h9) (hI.fr 0 (mF 0 rfl) rfl (Nat.le_of_ble_eq_true rfl) 1 rfl) dX12_middle_1 ?_
  refine lv_iload_n hx hb dX12_middle_4 rfl (lv_at hl 1 rfl) ?_
  refine th_riL (va_runV (As := [.int a0]) (rest := []) ⟨hx, hb, hml, hown, hts⟩ (q_isRaceC l dC dI cT cf hC ad E s.heap.size a0 hI) (cwV 1 hts (gi_V (in_18 _ zs0) (in_6 _ (zs4 (zs1 (zs1 (zs1 (zs0)))))) (in_6 _ (zs4 (zs4 (zs0)))) (in_5 _ (zs4 (zs1 (zs1 (zs0))))) (in_6 _ (zs4 (zs4 (zs1 (zs0)))))) rfl rfl rfl ⟨rfl, hz_yX0_isRace_1⟩ ⟨Nat.le_of_ble_eq_true rfl, Nat.le_of_ble_eq_true rfl⟩) ⟨HWL_bl, va_recv hK hP (ci := 1) (q0 := posL 1 (LC cf)) rfl (hI.ob 1 (mF 1 rfl) rfl), (HWL_wi hP hK (WL_D hD) hS hA hEV)⟩ rfl rfl hl.1 rfl (lv_room (Nat.le_of_ble_eq_true rfl)) dX12_middle_5 ⟨Nat.le_of_ble_eq_true rfl, Nat.le_of_ble_eq_true rfl⟩) hS hP (fun r1 H locs hw hP hS => ?_)
  rcases hw with hw | hw
  · -- isRaceC, case 0
    obtain ⟨rfl, f2, f3⟩ := hw
    refine lv_if_eq (tgt := 22) hx hb dX12_middle_8 (by decide) (fun c4 => ?_) (fun c4 => ?_)
    · --8 taken
      exact absurd c4 (by decide)
    · --8 not
      refine lv_aload_n hx hb dX12_middle_11 rfl (lv_at hl 0 rfl) ?_
      refine th_getL (ci := 13) (C := RX12) (T := TX12) (N := 6) (v := .ref (ad 1)) hx hb hts hinX12 hown hK hP hI 0 (mF 0 rfl) rfl rfl 0 (Nat.le_of_ble_eq_true rfl) (hts _ (vA_in _ _ (in_10 _ (zs16 (zs1 (zs0)))))) (fun _ h9 => h9) (hI.fr 0 (mF 0 rfl) rfl (Nat.le_of_ble_eq_true rfl) 1 rfl) dX12_middle_12 ?_
      refine lv_iload_n hx hb dX12_middle_15 rfl (lv_at hl 2 rfl) ?_
      refine th_riL (va_runV (As := [.int a1]) (rest := []) ⟨hx, hb, hml, hown, hts⟩ (q_isBoatC l dC dI cT cf hC ad E H.size a1 hI) (cwV 1 hts (gi_V (in_10 _ (zs16 (zs4 (zs4 (zs1 (zs1 (zs1 (zs0)))))))) (in_6 _ (zs4 (zs4 (zs4 (zs0))))) (in_6 _ (zs4 (zs4 (zs4 (zs1 (zs0)))))) (in_5 _ (zs4 (zs1 (zs1 (zs0))))) (in_5 _ (zs16 (zs16 (zs4 (zs1 (zs1 (zs0)))))))) rfl rfl rfl ⟨rfl, hz_yX0_isBoat_1⟩ ⟨Nat.le_of_ble_eq_true rfl, Nat.le_of_ble_eq_true rfl⟩) ⟨HWL_bl, va_recv hK hP (ci := 1) (q0 := posL 1 (LC cf)) rfl (hI.ob 1 (mF 1 rfl) rfl), (HWL_wi hP hK (WL_D hD) hS hA hEV)⟩ rfl rfl hl.1 rfl (lv_room (Nat.le_of_ble_eq_true rfl)) dX12_middle_16 ⟨Nat.le_of_ble_eq_true rfl, Nat.le_of_ble_eq_true rfl⟩) hS hP (fun r5 H locs hw hP hS => ?_)
      rcases hw with hw | hw
      · -- isBoatC, case 0
        obtain ⟨rfl, f6, f7⟩ := hw
        have i8 : 0 ≤ (xi (E 1) 1).toInt ∧ (xi (E 1) 1).toInt ≤ 16 := hI0.iv 1 (mF 1 rfl) rfl (Nat.le_of_ble_eq_true rfl) rfl
        refine lv_if_ne (tgt := 25) hx hb dX12_middle_19 (by decide) (fun c9 => ?_) (fun c9 => ?_)
        · --19 taken
          refine lv_aload_n hx hb dX12_middle_25 rfl (lv_at hl 0 rfl) ?_
          refine th_getL (ci := 13) (C := RX12) (T := TX12) (N := 6) (v := .ref (ad 6)) hx hb hts hinX12 hown hK hP hI 0 (mF 0 rfl) rfl rfl 5 (Nat.le_of_ble_eq_true rfl) (hts _ (vA_in _ _ (in_11 _ (zs4 (zs4 (zs0)))))) (fun _ h9 => h9) (hI.fr 0 (mF 0 rfl) rfl (Nat.le_of_ble_eq_true rfl) 6 rfl) dX12_middle_26 ?_
          refine lv_iload_n hx hb dX12_middle_29 rfl (lv_at hl 1 rfl) ?_
          refine th_vL (va_runV (As := [.int a0]) (rest := []) ⟨hx, hb, hml, hown, hts⟩ (q_loadX l dC dI cT cf hC ad E H.size a0 hI f3 (by omega) (by exact hh0)) (cwV 1 hts (gi_V (in_19 _ (zs16 (zs16 (zs4 (zs1 (zs1 (zs1 (zs0)))))))) (in_11 _ (zs16 (zs4 (zs1 (zs0))))) (in_11 _ (zs16 (zs4 (zs1 (zs1 (zs0)))))) (in_11 _ (zs4 (zs4 (zs4 (zs1 (zs1 (zs1 (zs0)))))))) (in_11 _ (zs16 (zs4 (zs1 (zs1 (zs1 (zs0)))))))) rfl rfl rfl ⟨rfl, hz_yX3_load_1⟩ ⟨Nat.le_of_ble_eq_true rfl, Nat.le_of_ble_eq_true rfl⟩) ⟨HWL_bl, va_recv hK hP (ci := 4) (q0 := posL 6 (LC cf)) rfl (hI.ob 6 (mF 6 rfl) rfl), (HWL_wi hP hK (WL_D hD) hS hA hEV)⟩ rfl rfl hl.1 rfl (lv_room (Nat.le_of_ble_eq_true rfl)) dX12_middle_30 ⟨Nat.le_of_ble_eq_true rfl, Nat.le_of_ble_eq_true rfl⟩) (WL_D hD) hS hA (fun E11 H locs hw hP hS => ?_)
          obtain ⟨hI, kq12, hw⟩ := hw
          have hKb := hKp
          have hKp := hKp.tr kq12 (wl_sub rfl rfl)
          have f13 := hw
          have i14 : 0 ≤ (xi (E 1) 0).toInt ∧ (xi (E 1) 0).toInt ≤ 400 := hI0.iv 1 (mF 1 rfl) rfl (Nat.le_of_ble_eq_true rfl) rfl
          refine lv_aload_n hx hb dX12_middle_33 rfl (lv_at hl 0 rfl) ?_
          refine th_getL (ci := 13) (C := RX12) (T := TX12) (N := 6) (v := .ref (ad 6)) hx hb hts hinX12 hown hK hP hI 0 (mF 0 rfl) rfl rfl 5 (Nat.le_of_ble_eq_true rfl) (hts _ (vA_in _ _ (in_11 _ (zs4 (zs4 (zs0)))))) (fun _ h9 => h9) (hI.fr 0 (mF 0 rfl) rfl (Nat.le_of_ble_eq_true rfl) 6 rfl) dX12_middle_34 ?_
          refine lv_iload_n hx hb dX12_middle_37 rfl (lv_at hl 1 rfl) ?_
          refine lv_iload_n hx hb dX12_middle_38 rfl (lv_at hl 2 rfl) ?_
          refine th_iL (va_runV (As := [.int a0, .int a1]) (rest := []) ⟨hx, hb, hml, hown, hts⟩ (q_middleOfX l dC dI cT cf hC ad E11 H.size a0 a1 hI f3 (by omega) f7) (cwV 2 hts (gi_V (in_20 _ zs0) (in_17 _ (zs16 (zs1 (zs1 (zs1 (zs0)))))) (in_17 _ (zs16 (zs4 (zs0)))) (in_11 _ (zs4 (zs4 (zs4 (zs1 (zs1 (zs1 (zs0)))))))) (in_17 _ (zs16 (zs4 (zs1 (zs0)))))) rfl rfl rfl ⟨rfl, hz_yX3_middleOf_2⟩ ⟨Nat.le_of_ble_eq_true rfl, Nat.le_of_ble_eq_true rfl⟩) ⟨HWL_bl, va_recv hK hP (ci := 4) (q0 := posL 6 (LC cf)) rfl (hI.ob 6 (mF 6 rfl) rfl), (HWL_wi hP hK (WL_D hD) hS hA hEV)⟩ rfl rfl hl.1 rfl (lv_room (Nat.le_of_ble_eq_true rfl)) dX12_middle_39 ⟨Nat.le_of_ble_eq_true rfl, Nat.le_of_ble_eq_true rfl⟩) (WL_D hD) hS hA (fun r15 E16 H locs hw hP hS => ?_)
          obtain ⟨hI, kq17, hw⟩ := hw
          have hKb := hKp
          have hKp := hKp.tr kq17 (wl_sub rfl rfl)
          obtain ⟨f18, f19, f20⟩ := hw
          rw [hQ]
          exact W.iret (v := r15) hx hb hr (fun t ht hW => ⟨⟨r15, E16, rfl, ⟨hI, hKp, ⟨fun _ => MdO.c f20 (K64.of hKb (fun o9 ho9 j9 => wl_p rfl rfl ho9)) (by rw [tn_]; omega) f13.1, fun g9 => by exfalso; omega⟩⟩, by show va_P (dC, dI) vwCl (WL (LC cf) ad E16) t.heap; rw [ht]; exact hP⟩, hS.F ht⟩) hS.2.2 dX12_middle_42
        · --19 not
          exact absurd c9 (by decide)
      · -- isBoatC, case 1
        obtain ⟨rfl, f21⟩ := hw
        have i22 : 0 ≤ (xi (E 1) 1).toInt ∧ (xi (E 1) 1).toInt ≤ 16 := hI0.iv 1 (mF 1 rfl) rfl (Nat.le_of_ble_eq_true rfl) rfl
        refine lv_if_ne (tgt := 25) hx hb dX12_middle_19 (by decide) (fun c23 => ?_) (fun c23 => ?_)
        · --19 taken
          exact absurd c23 (by decide)
        · --19 not
          refine lv_ldc hx hb hown (hts _ (vA_in _ _ (in_11 _ (zs4 (zs1 (zs1 (zs1 (zs0)))))))) dX12_middle_22 ?_
          rw [hQ]
          exact W.iret (v := (-1000000000)) hx hb hr (fun t ht hW => ⟨⟨(-1000000000), E, rfl, ⟨hI, hKp, ⟨fun g9 => by exfalso; omega, fun _ => rfl⟩⟩, by show va_P (dC, dI) vwCl (WL (LC cf) ad E) t.heap; rw [ht]; exact hP⟩, hS.F ht⟩) hS.2.2 dX12_middle_24
  · -- isRaceC, case 1
    obtain ⟨rfl, f24⟩ := hw
    refine lv_if_eq (tgt := 22) hx hb dX12_middle_8 (by decide) (fun c25 => ?_) (fun c25 => ?_)
    · --8 taken
      refine lv_ldc hx hb hown (hts _ (vA_in _ _ (in_11 _ (zs4 (zs1 (zs1 (zs1 (zs0)))))))) dX12_middle_22 ?_
      rw [hQ]
      exact W.iret (v := (-1000000000)) hx hb hr (fun t ht hW => ⟨⟨(-1000000000), E, rfl, ⟨hI, hKp, ⟨fun g9 => by exfalso; omega, fun _ => rfl⟩⟩, by show va_P (dC, dI) vwCl (WL (LC cf) ad E) t.heap; rw [ht]; exact hP⟩, hS.F ht⟩) hS.2.2 dX12_middle_24
    · --8 not
      exact absurd c25 (by decide)
