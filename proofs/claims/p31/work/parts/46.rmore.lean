set_option maxRecDepth 100000 in
theorem zh_dX10_read_0_0 : zc cX10_read 0 [42, 3, 181, 0, 31, 42, 2, 181, 0, 34, 42, 3, 181, 0, 37, 42] = true := by decide +kernel
set_option maxRecDepth 100000 in
theorem zh_dX10_read_16_16 : zc cX10_read 16 [3, 181, 0, 40, 42, 182, 0, 43, 3, 60, 27, 17, 0, 200, 162, 0] = true := by decide +kernel
set_option maxRecDepth 100000 in
theorem zh_dX10_read_30_32 : zc cX10_read 32 [32, 42, 182, 0, 46, 16, 59, 160, 0, 23, 42, 89, 180, 0, 31, 4] = true := by decide +kernel
set_option maxRecDepth 100000 in
theorem zh_dX10_read_48_48 : zc cX10_read 48 [96, 181, 0, 31, 42, 182, 0, 43, 132, 1, 1, 167, 255, 223, 42, 182] = true := by decide +kernel
set_option maxRecDepth 100000 in
theorem zh_dX10_read_63_64 : zc cX10_read 64 [0, 46, 2, 159, 0, 7, 42, 182, 0, 50, 42, 180, 0, 21, 42, 180] = true := by decide +kernel
set_option maxRecDepth 100000 in
theorem zh_dX10_read_79_80 : zc cX10_read 80 [0, 40, 42, 180, 0, 37, 79, 42, 180, 0, 34, 172] = true := by decide +kernel
set_option maxRecDepth 100000 in
theorem zh_dX10_readClause_0_0 : zc cX10_readClause 0 [42, 182, 0, 46, 60, 18, 64, 27, 184, 0, 66, 153, 0, 12, 42, 180] = true := by decide +kernel
set_option maxRecDepth 100000 in
theorem zh_dX10_readClause_15_16 : zc cX10_readClause 16 [0, 40, 16, 51, 161, 0, 8, 42, 182, 0, 50, 177, 42, 89, 180, 0] = true := by decide +kernel
set_option maxRecDepth 100000 in
theorem zh_dX10_readClause_30_32 : zc cX10_readClause 32 [31, 4, 96, 181, 0, 31, 42, 16, 58, 182, 0, 70, 42, 180, 0, 18] = true := by decide +kernel
set_option maxRecDepth 100000 in
theorem zh_dX10_readClause_48_48 : zc cX10_readClause 48 [42, 180, 0, 40, 27, 79, 42, 180, 0, 21, 42, 180, 0, 40, 42, 180] = true := by decide +kernel
set_option maxRecDepth 100000 in
theorem zh_dX10_readClause_63_64 : zc cX10_readClause 64 [0, 37, 79, 42, 180, 0, 24, 42, 180, 0, 40, 42, 180, 0, 37, 79] = true := by decide +kernel
set_option maxRecDepth 100000 in
theorem zh_dX10_readClause_80_80 : zc cX10_readClause 80 [18, 74, 42, 182, 0, 46, 184, 0, 66, 61, 28, 154, 0, 8, 42, 3] = true := by decide +kernel
set_option maxRecDepth 100000 in
theorem zh_dX10_readClause_96_96 : zc cX10_readClause 96 [182, 0, 76, 28, 154, 0, 15, 18, 79, 42, 182, 0, 46, 184, 0, 66] = true := by decide +kernel
set_option maxRecDepth 100000 in
theorem zh_dX10_readClause_112_112 : zc cX10_readClause 112 [153, 0, 41, 42, 3, 28, 154, 0, 7, 4, 167, 0, 4, 3, 182, 0] = true := by decide +kernel
set_option maxRecDepth 100000 in
theorem zh_dX10_readClause_126_128 : zc cX10_readClause 128 [81, 42, 16, 63, 182, 0, 70, 42, 180, 0, 24, 42, 180, 0, 40, 42] = true := by decide +kernel
set_option maxRecDepth 100000 in
theorem zh_dX10_readClause_144_144 : zc cX10_readClause 144 [180, 0, 37, 79, 42, 3, 182, 0, 76, 42, 89, 180, 0, 40, 4, 96] = true := by decide +kernel
set_option maxRecDepth 100000 in
theorem zh_dX10_readClause_160_160 : zc cX10_readClause 160 [181, 0, 40, 177] = true := by decide +kernel
theorem dX10_read_0 : decode cX10_read 0 = .ok (.aload_n 0, 1) := zo_42 (zi_at zh_dX10_read_0_0 0 rfl)
theorem dX10_read_1 : decode cX10_read 1 = .ok (.iconst 0, 1) := zo_3 (zi_at zh_dX10_read_0_0 1 rfl)
theorem dX10_read_2 : decode cX10_read 2 = .ok (.putfield 31, 3) := zo_181 (zi_at zh_dX10_read_0_0 2 rfl) (zi_at zh_dX10_read_0_0 3 rfl) (zi_at zh_dX10_read_0_0 4 rfl) rfl
theorem dX10_read_5 : decode cX10_read 5 = .ok (.aload_n 0, 1) := zo_42 (zi_at zh_dX10_read_0_0 5 rfl)
theorem dX10_read_6 : decode cX10_read 6 = .ok (.iconst (-1), 1) := zo_2 (zi_at zh_dX10_read_0_0 6 rfl)
theorem dX10_read_7 : decode cX10_read 7 = .ok (.putfield 34, 3) := zo_181 (zi_at zh_dX10_read_0_0 7 rfl) (zi_at zh_dX10_read_0_0 8 rfl) (zi_at zh_dX10_read_0_0 9 rfl) rfl
theorem dX10_read_10 : decode cX10_read 10 = .ok (.aload_n 0, 1) := zo_42 (zi_at zh_dX10_read_0_0 10 rfl)
theorem dX10_read_11 : decode cX10_read 11 = .ok (.iconst 0, 1) := zo_3 (zi_at zh_dX10_read_0_0 11 rfl)
theorem dX10_read_12 : decode cX10_read 12 = .ok (.putfield 37, 3) := zo_181 (zi_at zh_dX10_read_0_0 12 rfl) (zi_at zh_dX10_read_0_0 13 rfl) (zi_at zh_dX10_read_0_0 14 rfl) rfl
theorem dX10_read_15 : decode cX10_read 15 = .ok (.aload_n 0, 1) := zo_42 (zi_at zh_dX10_read_0_0 15 rfl)
theorem dX10_read_16 : decode cX10_read 16 = .ok (.iconst 0, 1) := zo_3 (zi_at zh_dX10_read_16_16 0 rfl)
theorem dX10_read_17 : decode cX10_read 17 = .ok (.putfield 40, 3) := zo_181 (zi_at zh_dX10_read_16_16 1 rfl) (zi_at zh_dX10_read_16_16 2 rfl) (zi_at zh_dX10_read_16_16 3 rfl) rfl
theorem dX10_read_20 : decode cX10_read 20 = .ok (.aload_n 0, 1) := zo_42 (zi_at zh_dX10_read_16_16 4 rfl)
theorem dX10_read_21 : decode cX10_read 21 = .ok (.invokevirtual 43, 3) := zo_182 (zi_at zh_dX10_read_16_16 5 rfl) (zi_at zh_dX10_read_16_16 6 rfl) (zi_at zh_dX10_read_16_16 7 rfl) rfl
theorem dX10_read_24 : decode cX10_read 24 = .ok (.iconst 0, 1) := zo_3 (zi_at zh_dX10_read_16_16 8 rfl)
theorem dX10_read_25 : decode cX10_read 25 = .ok (.istore_n 1, 1) := zo_60 (zi_at zh_dX10_read_16_16 9 rfl)
theorem dX10_read_26 : decode cX10_read 26 = .ok (.iload_n 1, 1) := zo_27 (zi_at zh_dX10_read_16_16 10 rfl)
theorem dX10_read_27 : decode cX10_read 27 = .ok (.sipush 200, 3) := zo_17 (zi_at zh_dX10_read_16_16 11 rfl) (zi_at zh_dX10_read_16_16 12 rfl) (zi_at zh_dX10_read_16_16 13 rfl) rfl
theorem dX10_read_30 : decode cX10_read 30 = .ok (.if_icmp .ge 32, 3) := zo_162 (zi_at zh_dX10_read_16_16 14 rfl) (zi_at zh_dX10_read_16_16 15 rfl) (zi_at zh_dX10_read_30_32 0 rfl) rfl
theorem dX10_read_33 : decode cX10_read 33 = .ok (.aload_n 0, 1) := zo_42 (zi_at zh_dX10_read_30_32 1 rfl)
theorem dX10_read_34 : decode cX10_read 34 = .ok (.invokevirtual 46, 3) := zo_182 (zi_at zh_dX10_read_30_32 2 rfl) (zi_at zh_dX10_read_30_32 3 rfl) (zi_at zh_dX10_read_30_32 4 rfl) rfl
theorem dX10_read_37 : decode cX10_read 37 = .ok (.bipush 59, 2) := zo_16 (zi_at zh_dX10_read_30_32 5 rfl) (zi_at zh_dX10_read_30_32 6 rfl) rfl
theorem dX10_read_39 : decode cX10_read 39 = .ok (.if_icmp .ne 23, 3) := zo_160 (zi_at zh_dX10_read_30_32 7 rfl) (zi_at zh_dX10_read_30_32 8 rfl) (zi_at zh_dX10_read_30_32 9 rfl) rfl
theorem dX10_read_42 : decode cX10_read 42 = .ok (.aload_n 0, 1) := zo_42 (zi_at zh_dX10_read_30_32 10 rfl)
theorem dX10_read_43 : decode cX10_read 43 = .ok (.dup, 1) := zo_89 (zi_at zh_dX10_read_30_32 11 rfl)
theorem dX10_read_44 : decode cX10_read 44 = .ok (.getfield 31, 3) := zo_180 (zi_at zh_dX10_read_30_32 12 rfl) (zi_at zh_dX10_read_30_32 13 rfl) (zi_at zh_dX10_read_30_32 14 rfl) rfl
theorem dX10_read_47 : decode cX10_read 47 = .ok (.iconst 1, 1) := zo_4 (zi_at zh_dX10_read_30_32 15 rfl)
theorem dX10_read_48 : decode cX10_read 48 = .ok (.iadd, 1) := zo_96 (zi_at zh_dX10_read_48_48 0 rfl)
theorem dX10_read_49 : decode cX10_read 49 = .ok (.putfield 31, 3) := zo_181 (zi_at zh_dX10_read_48_48 1 rfl) (zi_at zh_dX10_read_48_48 2 rfl) (zi_at zh_dX10_read_48_48 3 rfl) rfl
theorem dX10_read_52 : decode cX10_read 52 = .ok (.aload_n 0, 1) := zo_42 (zi_at zh_dX10_read_48_48 4 rfl)
theorem dX10_read_53 : decode cX10_read 53 = .ok (.invokevirtual 43, 3) := zo_182 (zi_at zh_dX10_read_48_48 5 rfl) (zi_at zh_dX10_read_48_48 6 rfl) (zi_at zh_dX10_read_48_48 7 rfl) rfl
theorem dX10_read_56 : decode cX10_read 56 = .ok (.iinc 1 1, 3) := zo_132 (zi_at zh_dX10_read_48_48 8 rfl) (zi_at zh_dX10_read_48_48 9 rfl) (zi_at zh_dX10_read_48_48 10 rfl) rfl
theorem dX10_read_59 : decode cX10_read 59 = .ok (.goto (-33), 3) := zo_167 (zi_at zh_dX10_read_48_48 11 rfl) (zi_at zh_dX10_read_48_48 12 rfl) (zi_at zh_dX10_read_48_48 13 rfl) rfl
theorem dX10_read_62 : decode cX10_read 62 = .ok (.aload_n 0, 1) := zo_42 (zi_at zh_dX10_read_48_48 14 rfl)
theorem dX10_read_63 : decode cX10_read 63 = .ok (.invokevirtual 46, 3) := zo_182 (zi_at zh_dX10_read_48_48 15 rfl) (zi_at zh_dX10_read_63_64 0 rfl) (zi_at zh_dX10_read_63_64 1 rfl) rfl
theorem dX10_read_66 : decode cX10_read 66 = .ok (.iconst (-1), 1) := zo_2 (zi_at zh_dX10_read_63_64 2 rfl)
theorem dX10_read_67 : decode cX10_read 67 = .ok (.if_icmp .eq 7, 3) := zo_159 (zi_at zh_dX10_read_63_64 3 rfl) (zi_at zh_dX10_read_63_64 4 rfl) (zi_at zh_dX10_read_63_64 5 rfl) rfl
theorem dX10_read_70 : decode cX10_read 70 = .ok (.aload_n 0, 1) := zo_42 (zi_at zh_dX10_read_63_64 6 rfl)
theorem dX10_read_71 : decode cX10_read 71 = .ok (.invokevirtual 50, 3) := zo_182 (zi_at zh_dX10_read_63_64 7 rfl) (zi_at zh_dX10_read_63_64 8 rfl) (zi_at zh_dX10_read_63_64 9 rfl) rfl
theorem dX10_read_74 : decode cX10_read 74 = .ok (.aload_n 0, 1) := zo_42 (zi_at zh_dX10_read_63_64 10 rfl)
theorem dX10_read_75 : decode cX10_read 75 = .ok (.getfield 21, 3) := zo_180 (zi_at zh_dX10_read_63_64 11 rfl) (zi_at zh_dX10_read_63_64 12 rfl) (zi_at zh_dX10_read_63_64 13 rfl) rfl
theorem dX10_read_78 : decode cX10_read 78 = .ok (.aload_n 0, 1) := zo_42 (zi_at zh_dX10_read_63_64 14 rfl)
theorem dX10_read_79 : decode cX10_read 79 = .ok (.getfield 40, 3) := zo_180 (zi_at zh_dX10_read_63_64 15 rfl) (zi_at zh_dX10_read_79_80 0 rfl) (zi_at zh_dX10_read_79_80 1 rfl) rfl
theorem dX10_read_82 : decode cX10_read 82 = .ok (.aload_n 0, 1) := zo_42 (zi_at zh_dX10_read_79_80 2 rfl)
theorem dX10_read_83 : decode cX10_read 83 = .ok (.getfield 37, 3) := zo_180 (zi_at zh_dX10_read_79_80 3 rfl) (zi_at zh_dX10_read_79_80 4 rfl) (zi_at zh_dX10_read_79_80 5 rfl) rfl
theorem dX10_read_86 : decode cX10_read 86 = .ok (.iastore, 1) := zo_79 (zi_at zh_dX10_read_79_80 6 rfl)
theorem dX10_read_87 : decode cX10_read 87 = .ok (.aload_n 0, 1) := zo_42 (zi_at zh_dX10_read_79_80 7 rfl)
theorem dX10_read_88 : decode cX10_read 88 = .ok (.getfield 34, 3) := zo_180 (zi_at zh_dX10_read_79_80 8 rfl) (zi_at zh_dX10_read_79_80 9 rfl) (zi_at zh_dX10_read_79_80 10 rfl) rfl
theorem dX10_read_91 : decode cX10_read 91 = .ok (.ireturn, 1) := zo_172 (zi_at zh_dX10_read_79_80 11 rfl)
theorem dX10_readClause_0 : decode cX10_readClause 0 = .ok (.aload_n 0, 1) := zo_42 (zi_at zh_dX10_readClause_0_0 0 rfl)
theorem dX10_readClause_1 : decode cX10_readClause 1 = .ok (.invokevirtual 46, 3) := zo_182 (zi_at zh_dX10_readClause_0_0 1 rfl) (zi_at zh_dX10_readClause_0_0 2 rfl) (zi_at zh_dX10_readClause_0_0 3 rfl) rfl
theorem dX10_readClause_4 : decode cX10_readClause 4 = .ok (.istore_n 1, 1) := zo_60 (zi_at zh_dX10_readClause_0_0 4 rfl)
theorem dX10_readClause_5 : decode cX10_readClause 5 = .ok (.ldc 64, 2) := zo_18 (zi_at zh_dX10_readClause_0_0 5 rfl) (zi_at zh_dX10_readClause_0_0 6 rfl)
theorem dX10_readClause_7 : decode cX10_readClause 7 = .ok (.iload_n 1, 1) := zo_27 (zi_at zh_dX10_readClause_0_0 7 rfl)
theorem dX10_readClause_8 : decode cX10_readClause 8 = .ok (.invokestatic 66, 3) := zo_184 (zi_at zh_dX10_readClause_0_0 8 rfl) (zi_at zh_dX10_readClause_0_0 9 rfl) (zi_at zh_dX10_readClause_0_0 10 rfl) rfl
theorem dX10_readClause_11 : decode cX10_readClause 11 = .ok (.ifCond .eq 12, 3) := zo_153 (zi_at zh_dX10_readClause_0_0 11 rfl) (zi_at zh_dX10_readClause_0_0 12 rfl) (zi_at zh_dX10_readClause_0_0 13 rfl) rfl
theorem dX10_readClause_14 : decode cX10_readClause 14 = .ok (.aload_n 0, 1) := zo_42 (zi_at zh_dX10_readClause_0_0 14 rfl)
theorem dX10_readClause_15 : decode cX10_readClause 15 = .ok (.getfield 40, 3) := zo_180 (zi_at zh_dX10_readClause_0_0 15 rfl) (zi_at zh_dX10_readClause_15_16 0 rfl) (zi_at zh_dX10_readClause_15_16 1 rfl) rfl
theorem dX10_readClause_18 : decode cX10_readClause 18 = .ok (.bipush 51, 2) := zo_16 (zi_at zh_dX10_readClause_15_16 2 rfl) (zi_at zh_dX10_readClause_15_16 3 rfl) rfl
theorem dX10_readClause_20 : decode cX10_readClause 20 = .ok (.if_icmp .lt 8, 3) := zo_161 (zi_at zh_dX10_readClause_15_16 4 rfl) (zi_at zh_dX10_readClause_15_16 5 rfl) (zi_at zh_dX10_readClause_15_16 6 rfl) rfl
theorem dX10_readClause_23 : decode cX10_readClause 23 = .ok (.aload_n 0, 1) := zo_42 (zi_at zh_dX10_readClause_15_16 7 rfl)
theorem dX10_readClause_24 : decode cX10_readClause 24 = .ok (.invokevirtual 50, 3) := zo_182 (zi_at zh_dX10_readClause_15_16 8 rfl) (zi_at zh_dX10_readClause_15_16 9 rfl) (zi_at zh_dX10_readClause_15_16 10 rfl) rfl
theorem dX10_readClause_27 : decode cX10_readClause 27 = .ok (.return_, 1) := zo_177 (zi_at zh_dX10_readClause_15_16 11 rfl)
theorem dX10_readClause_28 : decode cX10_readClause 28 = .ok (.aload_n 0, 1) := zo_42 (zi_at zh_dX10_readClause_15_16 12 rfl)
theorem dX10_readClause_29 : decode cX10_readClause 29 = .ok (.dup, 1) := zo_89 (zi_at zh_dX10_readClause_15_16 13 rfl)
theorem dX10_readClause_30 : decode cX10_readClause 30 = .ok (.getfield 31, 3) := zo_180 (zi_at zh_dX10_readClause_15_16 14 rfl) (zi_at zh_dX10_readClause_15_16 15 rfl) (zi_at zh_dX10_readClause_30_32 0 rfl) rfl
theorem dX10_readClause_33 : decode cX10_readClause 33 = .ok (.iconst 1, 1) := zo_4 (zi_at zh_dX10_readClause_30_32 1 rfl)
theorem dX10_readClause_34 : decode cX10_readClause 34 = .ok (.iadd, 1) := zo_96 (zi_at zh_dX10_readClause_30_32 2 rfl)
theorem dX10_readClause_35 : decode cX10_readClause 35 = .ok (.putfield 31, 3) := zo_181 (zi_at zh_dX10_readClause_30_32 3 rfl) (zi_at zh_dX10_readClause_30_32 4 rfl) (zi_at zh_dX10_readClause_30_32 5 rfl) rfl
theorem dX10_readClause_38 : decode cX10_readClause 38 = .ok (.aload_n 0, 1) := zo_42 (zi_at zh_dX10_readClause_30_32 6 rfl)
theorem dX10_readClause_39 : decode cX10_readClause 39 = .ok (.bipush 58, 2) := zo_16 (zi_at zh_dX10_readClause_30_32 7 rfl) (zi_at zh_dX10_readClause_30_32 8 rfl) rfl
theorem dX10_readClause_41 : decode cX10_readClause 41 = .ok (.invokevirtual 70, 3) := zo_182 (zi_at zh_dX10_readClause_30_32 9 rfl) (zi_at zh_dX10_readClause_30_32 10 rfl) (zi_at zh_dX10_readClause_30_32 11 rfl) rfl
theorem dX10_readClause_44 : decode cX10_readClause 44 = .ok (.aload_n 0, 1) := zo_42 (zi_at zh_dX10_readClause_30_32 12 rfl)
theorem dX10_readClause_45 : decode cX10_readClause 45 = .ok (.getfield 18, 3) := zo_180 (zi_at zh_dX10_readClause_30_32 13 rfl) (zi_at zh_dX10_readClause_30_32 14 rfl) (zi_at zh_dX10_readClause_30_32 15 rfl) rfl
theorem dX10_readClause_48 : decode cX10_readClause 48 = .ok (.aload_n 0, 1) := zo_42 (zi_at zh_dX10_readClause_48_48 0 rfl)
theorem dX10_readClause_49 : decode cX10_readClause 49 = .ok (.getfield 40, 3) := zo_180 (zi_at zh_dX10_readClause_48_48 1 rfl) (zi_at zh_dX10_readClause_48_48 2 rfl) (zi_at zh_dX10_readClause_48_48 3 rfl) rfl
theorem dX10_readClause_52 : decode cX10_readClause 52 = .ok (.iload_n 1, 1) := zo_27 (zi_at zh_dX10_readClause_48_48 4 rfl)
theorem dX10_readClause_53 : decode cX10_readClause 53 = .ok (.iastore, 1) := zo_79 (zi_at zh_dX10_readClause_48_48 5 rfl)
theorem dX10_readClause_54 : decode cX10_readClause 54 = .ok (.aload_n 0, 1) := zo_42 (zi_at zh_dX10_readClause_48_48 6 rfl)
theorem dX10_readClause_55 : decode cX10_readClause 55 = .ok (.getfield 21, 3) := zo_180 (zi_at zh_dX10_readClause_48_48 7 rfl) (zi_at zh_dX10_readClause_48_48 8 rfl) (zi_at zh_dX10_readClause_48_48 9 rfl) rfl
theorem dX10_readClause_58 : decode cX10_readClause 58 = .ok (.aload_n 0, 1) := zo_42 (zi_at zh_dX10_readClause_48_48 10 rfl)
theorem dX10_readClause_59 : decode cX10_readClause 59 = .ok (.getfield 40, 3) := zo_180 (zi_at zh_dX10_readClause_48_48 11 rfl) (zi_at zh_dX10_readClause_48_48 12 rfl) (zi_at zh_dX10_readClause_48_48 13 rfl) rfl
theorem dX10_readClause_62 : decode cX10_readClause 62 = .ok (.aload_n 0, 1) := zo_42 (zi_at zh_dX10_readClause_48_48 14 rfl)
theorem dX10_readClause_63 : decode cX10_readClause 63 = .ok (.getfield 37, 3) := zo_180 (zi_at zh_dX10_readClause_48_48 15 rfl) (zi_at zh_dX10_readClause_63_64 0 rfl) (zi_at zh_dX10_readClause_63_64 1 rfl) rfl
theorem dX10_readClause_66 : decode cX10_readClause 66 = .ok (.iastore, 1) := zo_79 (zi_at zh_dX10_readClause_63_64 2 rfl)
theorem dX10_readClause_67 : decode cX10_readClause 67 = .ok (.aload_n 0, 1) := zo_42 (zi_at zh_dX10_readClause_63_64 3 rfl)
theorem dX10_readClause_68 : decode cX10_readClause 68 = .ok (.getfield 24, 3) := zo_180 (zi_at zh_dX10_readClause_63_64 4 rfl) (zi_at zh_dX10_readClause_63_64 5 rfl) (zi_at zh_dX10_readClause_63_64 6 rfl) rfl
theorem dX10_readClause_71 : decode cX10_readClause 71 = .ok (.aload_n 0, 1) := zo_42 (zi_at zh_dX10_readClause_63_64 7 rfl)
theorem dX10_readClause_72 : decode cX10_readClause 72 = .ok (.getfield 40, 3) := zo_180 (zi_at zh_dX10_readClause_63_64 8 rfl) (zi_at zh_dX10_readClause_63_64 9 rfl) (zi_at zh_dX10_readClause_63_64 10 rfl) rfl
theorem dX10_readClause_75 : decode cX10_readClause 75 = .ok (.aload_n 0, 1) := zo_42 (zi_at zh_dX10_readClause_63_64 11 rfl)
theorem dX10_readClause_76 : decode cX10_readClause 76 = .ok (.getfield 37, 3) := zo_180 (zi_at zh_dX10_readClause_63_64 12 rfl) (zi_at zh_dX10_readClause_63_64 13 rfl) (zi_at zh_dX10_readClause_63_64 14 rfl) rfl
theorem dX10_readClause_79 : decode cX10_readClause 79 = .ok (.iastore, 1) := zo_79 (zi_at zh_dX10_readClause_63_64 15 rfl)
theorem dX10_readClause_80 : decode cX10_readClause 80 = .ok (.ldc 74, 2) := zo_18 (zi_at zh_dX10_readClause_80_80 0 rfl) (zi_at zh_dX10_readClause_80_80 1 rfl)
theorem dX10_readClause_82 : decode cX10_readClause 82 = .ok (.aload_n 0, 1) := zo_42 (zi_at zh_dX10_readClause_80_80 2 rfl)
theorem dX10_readClause_83 : decode cX10_readClause 83 = .ok (.invokevirtual 46, 3) := zo_182 (zi_at zh_dX10_readClause_80_80 3 rfl) (zi_at zh_dX10_readClause_80_80 4 rfl) (zi_at zh_dX10_readClause_80_80 5 rfl) rfl
theorem dX10_readClause_86 : decode cX10_readClause 86 = .ok (.invokestatic 66, 3) := zo_184 (zi_at zh_dX10_readClause_80_80 6 rfl) (zi_at zh_dX10_readClause_80_80 7 rfl) (zi_at zh_dX10_readClause_80_80 8 rfl) rfl
theorem dX10_readClause_89 : decode cX10_readClause 89 = .ok (.istore_n 2, 1) := zo_61 (zi_at zh_dX10_readClause_80_80 9 rfl)
theorem dX10_readClause_90 : decode cX10_readClause 90 = .ok (.iload_n 2, 1) := zo_28 (zi_at zh_dX10_readClause_80_80 10 rfl)
theorem dX10_readClause_91 : decode cX10_readClause 91 = .ok (.ifCond .ne 8, 3) := zo_154 (zi_at zh_dX10_readClause_80_80 11 rfl) (zi_at zh_dX10_readClause_80_80 12 rfl) (zi_at zh_dX10_readClause_80_80 13 rfl) rfl
theorem dX10_readClause_94 : decode cX10_readClause 94 = .ok (.aload_n 0, 1) := zo_42 (zi_at zh_dX10_readClause_80_80 14 rfl)
theorem dX10_readClause_95 : decode cX10_readClause 95 = .ok (.iconst 0, 1) := zo_3 (zi_at zh_dX10_readClause_80_80 15 rfl)
theorem dX10_readClause_96 : decode cX10_readClause 96 = .ok (.invokevirtual 76, 3) := zo_182 (zi_at zh_dX10_readClause_96_96 0 rfl) (zi_at zh_dX10_readClause_96_96 1 rfl) (zi_at zh_dX10_readClause_96_96 2 rfl) rfl
theorem dX10_readClause_99 : decode cX10_readClause 99 = .ok (.iload_n 2, 1) := zo_28 (zi_at zh_dX10_readClause_96_96 3 rfl)
theorem dX10_readClause_100 : decode cX10_readClause 100 = .ok (.ifCond .ne 15, 3) := zo_154 (zi_at zh_dX10_readClause_96_96 4 rfl) (zi_at zh_dX10_readClause_96_96 5 rfl) (zi_at zh_dX10_readClause_96_96 6 rfl) rfl
theorem dX10_readClause_103 : decode cX10_readClause 103 = .ok (.ldc 79, 2) := zo_18 (zi_at zh_dX10_readClause_96_96 7 rfl) (zi_at zh_dX10_readClause_96_96 8 rfl)
theorem dX10_readClause_105 : decode cX10_readClause 105 = .ok (.aload_n 0, 1) := zo_42 (zi_at zh_dX10_readClause_96_96 9 rfl)
theorem dX10_readClause_106 : decode cX10_readClause 106 = .ok (.invokevirtual 46, 3) := zo_182 (zi_at zh_dX10_readClause_96_96 10 rfl) (zi_at zh_dX10_readClause_96_96 11 rfl) (zi_at zh_dX10_readClause_96_96 12 rfl) rfl
theorem dX10_readClause_109 : decode cX10_readClause 109 = .ok (.invokestatic 66, 3) := zo_184 (zi_at zh_dX10_readClause_96_96 13 rfl) (zi_at zh_dX10_readClause_96_96 14 rfl) (zi_at zh_dX10_readClause_96_96 15 rfl) rfl
theorem dX10_readClause_112 : decode cX10_readClause 112 = .ok (.ifCond .eq 41, 3) := zo_153 (zi_at zh_dX10_readClause_112_112 0 rfl) (zi_at zh_dX10_readClause_112_112 1 rfl) (zi_at zh_dX10_readClause_112_112 2 rfl) rfl
theorem dX10_readClause_115 : decode cX10_readClause 115 = .ok (.aload_n 0, 1) := zo_42 (zi_at zh_dX10_readClause_112_112 3 rfl)
theorem dX10_readClause_116 : decode cX10_readClause 116 = .ok (.iconst 0, 1) := zo_3 (zi_at zh_dX10_readClause_112_112 4 rfl)
theorem dX10_readClause_117 : decode cX10_readClause 117 = .ok (.iload_n 2, 1) := zo_28 (zi_at zh_dX10_readClause_112_112 5 rfl)
theorem dX10_readClause_118 : decode cX10_readClause 118 = .ok (.ifCond .ne 7, 3) := zo_154 (zi_at zh_dX10_readClause_112_112 6 rfl) (zi_at zh_dX10_readClause_112_112 7 rfl) (zi_at zh_dX10_readClause_112_112 8 rfl) rfl
theorem dX10_readClause_121 : decode cX10_readClause 121 = .ok (.iconst 1, 1) := zo_4 (zi_at zh_dX10_readClause_112_112 9 rfl)
theorem dX10_readClause_122 : decode cX10_readClause 122 = .ok (.goto 4, 3) := zo_167 (zi_at zh_dX10_readClause_112_112 10 rfl) (zi_at zh_dX10_readClause_112_112 11 rfl) (zi_at zh_dX10_readClause_112_112 12 rfl) rfl
theorem dX10_readClause_125 : decode cX10_readClause 125 = .ok (.iconst 0, 1) := zo_3 (zi_at zh_dX10_readClause_112_112 13 rfl)
theorem dX10_readClause_126 : decode cX10_readClause 126 = .ok (.invokevirtual 81, 3) := zo_182 (zi_at zh_dX10_readClause_112_112 14 rfl) (zi_at zh_dX10_readClause_112_112 15 rfl) (zi_at zh_dX10_readClause_126_128 0 rfl) rfl
theorem dX10_readClause_129 : decode cX10_readClause 129 = .ok (.aload_n 0, 1) := zo_42 (zi_at zh_dX10_readClause_126_128 1 rfl)
theorem dX10_readClause_130 : decode cX10_readClause 130 = .ok (.bipush 63, 2) := zo_16 (zi_at zh_dX10_readClause_126_128 2 rfl) (zi_at zh_dX10_readClause_126_128 3 rfl) rfl
theorem dX10_readClause_132 : decode cX10_readClause 132 = .ok (.invokevirtual 70, 3) := zo_182 (zi_at zh_dX10_readClause_126_128 4 rfl) (zi_at zh_dX10_readClause_126_128 5 rfl) (zi_at zh_dX10_readClause_126_128 6 rfl) rfl
theorem dX10_readClause_135 : decode cX10_readClause 135 = .ok (.aload_n 0, 1) := zo_42 (zi_at zh_dX10_readClause_126_128 7 rfl)
theorem dX10_readClause_136 : decode cX10_readClause 136 = .ok (.getfield 24, 3) := zo_180 (zi_at zh_dX10_readClause_126_128 8 rfl) (zi_at zh_dX10_readClause_126_128 9 rfl) (zi_at zh_dX10_readClause_126_128 10 rfl) rfl
theorem dX10_readClause_139 : decode cX10_readClause 139 = .ok (.aload_n 0, 1) := zo_42 (zi_at zh_dX10_readClause_126_128 11 rfl)
theorem dX10_readClause_140 : decode cX10_readClause 140 = .ok (.getfield 40, 3) := zo_180 (zi_at zh_dX10_readClause_126_128 12 rfl) (zi_at zh_dX10_readClause_126_128 13 rfl) (zi_at zh_dX10_readClause_126_128 14 rfl) rfl
theorem dX10_readClause_143 : decode cX10_readClause 143 = .ok (.aload_n 0, 1) := zo_42 (zi_at zh_dX10_readClause_126_128 15 rfl)
theorem dX10_readClause_144 : decode cX10_readClause 144 = .ok (.getfield 37, 3) := zo_180 (zi_at zh_dX10_readClause_144_144 0 rfl) (zi_at zh_dX10_readClause_144_144 1 rfl) (zi_at zh_dX10_readClause_144_144 2 rfl) rfl
theorem dX10_readClause_147 : decode cX10_readClause 147 = .ok (.iastore, 1) := zo_79 (zi_at zh_dX10_readClause_144_144 3 rfl)
theorem dX10_readClause_148 : decode cX10_readClause 148 = .ok (.aload_n 0, 1) := zo_42 (zi_at zh_dX10_readClause_144_144 4 rfl)
theorem dX10_readClause_149 : decode cX10_readClause 149 = .ok (.iconst 0, 1) := zo_3 (zi_at zh_dX10_readClause_144_144 5 rfl)
theorem dX10_readClause_150 : decode cX10_readClause 150 = .ok (.invokevirtual 76, 3) := zo_182 (zi_at zh_dX10_readClause_144_144 6 rfl) (zi_at zh_dX10_readClause_144_144 7 rfl) (zi_at zh_dX10_readClause_144_144 8 rfl) rfl
theorem dX10_readClause_153 : decode cX10_readClause 153 = .ok (.aload_n 0, 1) := zo_42 (zi_at zh_dX10_readClause_144_144 9 rfl)
theorem dX10_readClause_154 : decode cX10_readClause 154 = .ok (.dup, 1) := zo_89 (zi_at zh_dX10_readClause_144_144 10 rfl)
theorem dX10_readClause_155 : decode cX10_readClause 155 = .ok (.getfield 40, 3) := zo_180 (zi_at zh_dX10_readClause_144_144 11 rfl) (zi_at zh_dX10_readClause_144_144 12 rfl) (zi_at zh_dX10_readClause_144_144 13 rfl) rfl
theorem dX10_readClause_158 : decode cX10_readClause 158 = .ok (.iconst 1, 1) := zo_4 (zi_at zh_dX10_readClause_144_144 14 rfl)
theorem dX10_readClause_159 : decode cX10_readClause 159 = .ok (.iadd, 1) := zo_96 (zi_at zh_dX10_readClause_144_144 15 rfl)
theorem dX10_readClause_160 : decode cX10_readClause 160 = .ok (.putfield 40, 3) := zo_181 (zi_at zh_dX10_readClause_160_160 0 rfl) (zi_at zh_dX10_readClause_160_160 1 rfl) (zi_at zh_dX10_readClause_160_160 2 rfl) rfl
theorem dX10_readClause_163 : decode cX10_readClause 163 = .ok (.return_, 1) := zo_177 (zi_at zh_dX10_readClause_160_160 3 rfl)
theorem hz_yX10_readClause_0 : yX10_readClause.cls ≠ "java/lang/invoke/MethodHandle" ∧ yX10_readClause.cls ≠ "java/lang/invoke/VarHandle" ∧ (parseMethodDescriptor yX10_readClause.desc).map (fun d => d.parameters.length) = some 0 := by decide +kernel

def v_readClauseX : List Cond := .code yX10_readClause cX10_readClause 3 none :: vA
abbrev rm_readClauseX : Room := { frames := 70, cells := 0, slots := 0, locals := 2800 }
def w_readClauseX : Nat → Nat → Bool := wl [22, 23, 24, 25] [(2, 2), (2, 3), (2, 5), (2, 9)]
set_option maxHeartbeats 4000000 in
set_option maxRecDepth 100000 in
theorem q_readClauseX (l : Launch) (dC : Nat → ClassId) (dI : Nat → Nat → Nat) (cT : Nat → ClassId) (cf : Nat → Nat) (hC : CF cf) (ad : Nat → Nat) (E : Nat → va_E) (sz : Nat)  (hI0 : IXL cT (shC cf) (spC cf) (LC cf) ad E) (hh0 : TPok (xi (E 24)) (xi (E 25)) (xi (E 2) 9) (xi (E 2) 5)) (hh1 : ClO (xi (E 2) 9) E) : Met l yX10_readClause v_readClauseX rm_readClauseX (va_Pc [.ref (ad 2)] (HWL dC dI (TYC cT) cf ad E sz)) (va_Qv (S := Nat → va_E) (fun u => IXL cT (shC cf) (spC cf) (LC cf) ad u ∧ Kp w_readClauseX E u ∧ (((xi (E 2) 5).toInt ≤ (xi (u 2) 5).toInt) ∧ (TPok (xi (u 24)) (xi (u 25)) (xi (u 2) 9) (xi (u 2) 5)) ∧ (RdC (fun t m a => clauseS false t m a) E u) ∧ (ClP (xi (E 2) 9) (xi (u 2) 9) u))) (HBL dC dI (LC cf) ad) (va_A (WL (LC cf) ad E) sz)) 0 0 (va_A (WL (LC cf) ad E) sz) := by
  obtain ⟨⟨hc0, hc1, hc2, hc3, hc4, hc5⟩, hcr⟩ := id hC
  refine Met.ofW (cc := cX10_readClause) (maxL := 3) (ret := none) (by decide) rfl ?_
  intro p e s m args below meth c s₁ B hml hv
  obtain ⟨hargs, hsz, hP, hK, hD0, hEV⟩ := hv
  subst hsz
  have hx := B.exec
  have hb := B.bytes
  have hr := B.returns
  have hts := atoms_spec (ws := v_readClauseX) B.pre
  have hown : s.vm.findClass RX10 = some m.cls := findClass_of_methodNamed B.named
  have hlocks := B.notSynchronized
  have hinX10 : ∀ w ∈ u_ws RX10 TX10 10, w ∈ v_readClauseX := fun w h => vA_in _ w (in_X10 w h)
  generalize hAe : va_A (WL (LC cf) ad E) s.heap.size = A at hEV ⊢
  have hA : ∀ q : Nat, s.heap.size ≤ q → A q := fun q h => by rw [← hAe]; exact Or.inr h
  have hD : va_D A (WL (LC cf) ad E) := by rw [← hAe]; exact hD0.self
  have hS : va_S A s.heap s.heap [] := va_S.rf
  have hI := hI0
  have hKp : Kp w_readClauseX E E := Kp.rf
  have hl := lv_entry ([.ref (ad 2)]) (n := 3) (Nat.le_of_ble_eq_true rfl)
  obtain ⟨Q, hQ⟩ : ∃ Q, Q = MQ below (va_Qv (S := Nat → va_E) (fun u => IXL cT (shC cf) (spC cf) (LC cf) ad u ∧ Kp w_readClauseX E u ∧ (((xi (E 2) 5).toInt ≤ (xi (u 2) 5).toInt) ∧ (TPok (xi (u 24)) (xi (u 25)) (xi (u 2) 9) (xi (u 2) 5)) ∧ (RdC (fun t m a => clauseS false t m a) E u) ∧ (ClP (xi (E 2) 9) (xi (u 2) 9) u))) (HBL dC dI (LC cf) ad) (A)) args s 0 0 (A) := ⟨_, rfl⟩
  rw [← hQ, show entryFrame m args 3 = _ from (congrArg (fun z => entryFrame m z 3) hargs).trans (lg_entry_eq _ _ _)]
  generalize (lg_sl ([.ref (ad 2)]) ++ List.replicate (3 - (lg_sl ([.ref (ad 2)])).length) Slot.unset).toArray = ls at hl ⊢
  have hl : lv_has ls 3 [(0, .ref (ad 2))] := hl
  obtain ⟨y1, ey1⟩ : ∃ y, xi (E 2) 5 = y := ⟨_, rfl⟩
  have fy1 : xv (E 2) 5 = .int y1 := (hI.fi 2 (mF 2 rfl) rfl (Nat.le_of_ble_eq_true rfl) rfl).trans (congrArg Value.int ey1)
  have i2 : 0 ≤ y1.toInt ∧ y1.toInt ≤ 200 := by rw [← ey1]; exact hI.iv 2 (mF 2 rfl) rfl (Nat.le_of_ble_eq_true rfl) rfl
  obtain ⟨g3, hg3⟩ : ∃ g, xi (E 24) = g := ⟨_, rfl⟩
  obtain ⟨g4, hg4⟩ : ∃ g, xi (E 25) = g := ⟨_, rfl⟩
  obtain ⟨y5, ey5⟩ : ∃ y, xi (E 2) 9 = y := ⟨_, rfl⟩
  have fy5 : xv (E 2) 9 = .int y5 := (hI.fi 2 (mF 2 rfl) rfl (Nat.le_of_ble_eq_true rfl) rfl).trans (congrArg Value.int ey5)
  have i6 : 0 ≤ y5.toInt ∧ y5.toInt ≤ 51 := by rw [← ey5]; exact hI.iv 2 (mF 2 rfl) rfl (Nat.le_of_ble_eq_true rfl) rfl
  have hTP := hh0
  try rw [show xi (E 24) = g3 from hg3] at hTP
  try rw [show xi (E 25) = g4 from hg4] at hTP
  try rw [show xi (E 2) 9 = y5 from vi_e fy5] at hTP
  try rw [show xi (E 2) 5 = y1 from vi_e fy1] at hTP
  have i7 : 0 ≤ (xi (E 2) 1).toInt ∧ (xi (E 2) 1).toInt ≤ 200 := hI0.iv 2 (mF 2 rfl) rfl (Nat.le_of_ble_eq_true rfl) rfl
  refine lv_aload_n hx hb dX10_readClause_0 rfl (lv_at hl 0 rfl) ?_
  refine th_iL (va_runV (As := []) (rest := []) ⟨hx, hb, hml, hown, hts⟩ (q_nextX l dC dI cT cf hC ad E s.heap.size hI) (cwV 0 hts (gi_V (in_8 _ (zs16 (zs4 (zs4 (zs1 (zs1 (zs1 (zs0)))))))) (in_8 _ (zs16 (zs4 (zs4 (zs4 (zs0)))))) (in_8 _ (zs16 (zs4 (zs4 (zs4 (zs1 (zs0))))))) (in_8 _ (zs4 (zs4 (zs4 (zs1 (zs1 (zs0))))))) (in_8 _ (zs16 (zs1 (zs1 (zs1 (zs0))))))) rfl rfl rfl ⟨rfl, hz_yX10_next_0⟩ ⟨Nat.le_of_ble_eq_true rfl, Nat.le_of_ble_eq_true rfl⟩) ⟨HWL_bl, va_recv hK hP (ci := 11) (q0 := posL 2 (LC cf)) rfl (hI.ob 2 (mF 2 rfl) rfl), (HWL_wi hP hK (WL_D hD) hS hA hEV)⟩ rfl rfl hl.1 rfl (lv_room (Nat.le_of_ble_eq_true rfl)) dX10_readClause_1 ⟨Nat.le_of_ble_eq_true rfl, Nat.le_of_ble_eq_true rfl⟩) (WL_D hD) hS hA (fun r8 E9 H locs hw hP hS => ?_)
  obtain ⟨hI, kq10, hw⟩ := hw
  have hKb := hKp
  have hKp := hKp.tr kq10 (wl_sub rfl rfl)
  obtain ⟨y11, ey11⟩ : ∃ y, xi (E9 2) 2 = y := ⟨_, rfl⟩
  have fy11 : xv (E9 2) 2 = .int y11 := (hI.fi 2 (mF 2 rfl) rfl (Nat.le_of_ble_eq_true rfl) rfl).trans (congrArg Value.int ey11)
  have i12 : 0 ≤ y11.toInt ∧ y11.toInt ≤ 200 := by rw [← ey11]; exact hI.iv 2 (mF 2 rfl) rfl (Nat.le_of_ble_eq_true rfl) rfl
  obtain ⟨f13, f14, f15⟩ := hw
  try rw [(show xi (E9 2) 2 = y11 from vi_e fy11)] at f14
  refine lv_istore_n (lv' := [(1, .int r8), (0, .ref (ad 2))]) hx hb dX10_readClause_4 rfl hl (by decide) rfl (fun ls hl => ?_)
  obtain ⟨qs16, vs17, hRqs16, hSSqs16⟩ := hEV.2.1.1
  refine va_ldcS hx hb hown hRqs16 dX10_readClause_5 ?_
  refine lv_iload_n hx hb dX10_readClause_7 rfl (lv_at hl 0 rfl) ?_
  refine th_pi (va_runSN (As := [.ref qs16, .int r8]) (rest := []) ⟨hx, hb, hml, hown, hts⟩ (q_isOneOfX l qs16 vs17 tLAB r8 (by decide) (by decide) f13) ⟨va_cnB 2 hts (gi_0 (in_8 _ (zs16 (zs4 (zs4 (zs4 (zs1 (zs1 (zs1 (zs0)))))))))) rfl rfl rfl (hEV.1.1 _ (List.mem_of_getElem? (i := 12) rfl)) (hts _ (vA_in _ _ (in_4 _ (zs16 (zs4 (zs1 (zs1 (zs1 (zs0))))))))) hz_yX12_isOneOf_2 ⟨Nat.le_of_ble_eq_true rfl, Nat.le_of_ble_eq_true rfl⟩, (hts _ (vA_in _ _ (in_8 _ (zs16 (zs4 (zs4 (zs4 (zs1 (zs1 (zs0)))))))))), trivial⟩ ⟨fun a U g mk q => ⟨q.1, SS_c q.2⟩, fun U hU hW => ⟨rfl, SS_w hU hW hS (fun _ h => h.elim) hSSqs16⟩⟩ rfl rfl hl.1 rfl (lv_room (Nat.le_of_ble_eq_true rfl)) dX10_readClause_8 ⟨Nat.le_of_ble_eq_true rfl, Nat.le_of_ble_eq_true rfl⟩) hS (fun r18 H1 locs1 hw hk1 hS => ?_)
  have hP := ub_keep hP hk1
  generalize H1 = H at hP hS ⊢
  generalize locs1 = locs at hS ⊢
  rcases hw with hw | hw
  · -- isOneOfX, case 0
    obtain ⟨rfl, f19⟩ := hw
    refine lv_if_eq (tgt := 23) hx hb dX10_readClause_11 (by decide) (fun c20 => ?_) (fun c20 => ?_)
    · --11 taken
      exact absurd c20 (by decide)
    · --11 not
      refine lv_aload_n hx hb dX10_readClause_14 rfl (lv_at hl 1 rfl) ?_
      refine th_getL (ci := 11) (C := RX10) (T := TX10) (N := 10) (v := .int y5) hx hb hts hinX10 hown hK hP hI 2 (mF 2 rfl) rfl rfl 9 (Nat.le_of_ble_eq_true rfl) (hts _ (vA_in _ _ (in_7 _ (zs16 (zs16 (zs4 (zs0))))))) (fun _ h9 => h9) ((kq10 2 9 rfl).trans fy5) dX10_readClause_15 ?_
      refine lv_bipush (v := 51) hx hb dX10_readClause_18 (by decide) ?_
      refine lv_icmp_lt (tgt := 28) hx hb dX10_readClause_20 (by decide) (fun c21 => ?_) (fun c21 => ?_)
      · --20 taken
        have t22 : y5.toInt < 51 := ti_lt c21
        have i23 : 0 ≤ y5.toInt ∧ y5.toInt ≤ 50 := iv_lt_l t22 i6 (il_ 51) (by decide)
        refine lv_aload_n hx hb dX10_readClause_28 rfl (lv_at hl 1 rfl) ?_
        refine lv_dup hx hb dX10_readClause_29 rfl ?_
        refine th_getL (ci := 11) (C := RX10) (T := TX10) (N := 10) (v := .int y11) hx hb hts hinX10 hown hK hP hI 2 (mF 2 rfl) rfl rfl 2 (Nat.le_of_ble_eq_true rfl) (hts _ (vA_in _ _ (in_8 _ (zs4 (zs4 (zs1 (zs0))))))) (fun _ h9 => h9) fy11 dX10_readClause_30 ?_
        refine lv_iconst (v := 1) hx hb dX10_readClause_33 (by decide) ?_
        refine lv_iadd hx hb dX10_readClause_34 ?_
        refine lv_topi (fun y24 ey24 => ?_)
        obtain ⟨ty24, iy24⟩ := ti_add (e := 1) (f := 201) i12 ln_1 ey24 (by decide)
        have ty24 : y24.toInt = y11.toInt + 1 := ty24
        have iy24 : 1 ≤ y24.toInt ∧ y24.toInt ≤ 201 := iy24
        have i25 : 1 ≤ y24.toInt ∧ y24.toInt ≤ 200 := by omega
        refine th_putL (ci := 11) (C := RX10) (T := TX10) (N := 10) (v := .int y24) (ty := .int) hx hb hts hinX10 tyX10 tyX10_ok nmX10 hown hK hP (WL_D hD) hS hI 2 (mF 2 rfl) rfl rfl 2 (Nat.le_of_ble_eq_true rfl) (hts _ (vA_in _ _ (in_8 _ (zs4 (zs4 (zs1 (zs0))))))) (fun _ h9 => h9) rfl (by decide +kernel) rfl rfl (okI rfl (iv_w i25 (by decide))) dX10_readClause_35 (fun H locs E26 pw27 hI hP hS => ?_)
        have hKp := hKp.pw pw27 rfl
        have k28 : AtP E9 E26 := AtP.pw pw27.2 (vi_e fy11) (vi_e pw27.1) ty24 (by omega)
        refine lv_aload_n hx hb dX10_readClause_38 rfl (lv_at hl 1 rfl) ?_
        refine lv_bipush (v := 58) hx hb dX10_readClause_39 (by decide) ?_
        refine th_vL (va_runV (As := [.int 58]) (rest := []) ⟨hx, hb, hml, hown, hts⟩ (q_takeX l dC dI cT cf hC ad E26 H.size (58 : Int32) hI (iv_w ln_58 (by decide))) (cwV 1 hts (gi_V (in_8 _ (zs16 (zs16 (zs1 (zs1 (zs1 (zs0))))))) (in_8 _ (zs16 (zs16 (zs4 (zs0))))) (in_8 _ (zs16 (zs16 (zs4 (zs1 (zs0)))))) (in_8 _ (zs4 (zs4 (zs4 (zs1 (zs1 (zs0))))))) (in_8 _ (zs16 (zs16 (zs4 (zs1 (zs1 (zs0)))))))) rfl rfl rfl ⟨rfl, hz_yX10_take_1⟩ ⟨Nat.le_of_ble_eq_true rfl, Nat.le_of_ble_eq_true rfl⟩) ⟨HWL_bl, va_recv hK hP (ci := 11) (q0 := posL 2 (LC cf)) rfl (hI.ob 2 (mF 2 rfl) rfl), (HWL_wi hP hK (WL_D hD) hS hA hEV)⟩ rfl rfl hl.1 rfl (lv_room (Nat.le_of_ble_eq_true rfl)) dX10_readClause_41 ⟨Nat.le_of_ble_eq_true rfl, Nat.le_of_ble_eq_true rfl⟩) (WL_D hD) hS hA (fun E30 H locs hw hP hS => ?_)
        obtain ⟨hI, kq31, hw⟩ := hw
        have hKb := hKp
        have hKp := hKp.tr kq31 (wl_sub rfl rfl)
        have f32 := hw
        refine lv_aload_n hx hb dX10_readClause_44 rfl (lv_at hl 1 rfl) ?_
        refine th_getL (ci := 11) (C := RX10) (T := TX10) (N := 10) (v := .ref (ad 23)) hx hb hts hinX10 hown hK hP hI 2 (mF 2 rfl) rfl rfl 6 (Nat.le_of_ble_eq_true rfl) (hts _ (vA_in _ _ (in_7 _ (zs16 (zs16 (zs1 (zs1 (zs1 (zs0))))))))) (fun _ h9 => h9) (hI.fr 2 (mF 2 rfl) rfl (Nat.le_of_ble_eq_true rfl) 23 rfl) dX10_readClause_45 ?_
        refine lv_aload_n hx hb dX10_readClause_48 rfl (lv_at hl 1 rfl) ?_
        refine th_getL (ci := 11) (C := RX10) (T := TX10) (N := 10) (v := .int y5) hx hb hts hinX10 hown hK hP hI 2 (mF 2 rfl) rfl rfl 9 (Nat.le_of_ble_eq_true rfl) (hts _ (vA_in _ _ (in_7 _ (zs16 (zs16 (zs4 (zs0))))))) (fun _ h9 => h9) ((kq31 2 9 rfl).trans ((pw27.2 2 9 (fun q9 => absurd q9.2 (Nat.ne_of_beq_eq_false rfl))).trans ((kq10 2 9 rfl).trans fy5))) dX10_readClause_49 ?_
        refine lv_iload_n hx hb dX10_readClause_52 rfl (lv_at hl 0 rfl) ?_
        have n33 : vp_in y5 51 := (iv_in (n := 51) i23 (by decide))
        have i36 : 0 ≤ r8.toInt ∧ r8.toInt ≤ 255 := by omega
        refine th_iastL hx hb hK hP (WL_D hD) hS hI 23 (mF 23 rfl) rfl rfl n33 (okI rfl i36) dX10_readClause_53 (fun H locs E34 pw35 hI hP hS => ?_)
        have hKp := hKp.pw pw35 rfl
        have k37 : KS E30 E34 := KS.pw pw35.2 (by decide) (fun q => absurd q (by decide))
        refine lv_aload_n hx hb dX10_readClause_54 rfl (lv_at hl 1 rfl) ?_
        refine th_getL (ci := 11) (C := RX10) (T := TX10) (N := 10) (v := .ref (ad 24)) hx hb hts hinX10 hown hK hP hI 2 (mF 2 rfl) rfl rfl 7 (Nat.le_of_ble_eq_true rfl) (hts _ (vA_in _ _ (in_7 _ (zs16 (zs16 (zs4 (zs1 (zs0)))))))) (fun _ h9 => h9) (hI.fr 2 (mF 2 rfl) rfl (Nat.le_of_ble_eq_true rfl) 24 rfl) dX10_readClause_55 ?_
        refine lv_aload_n hx hb dX10_readClause_58 rfl (lv_at hl 1 rfl) ?_
        refine th_getL (ci := 11) (C := RX10) (T := TX10) (N := 10) (v := .int y5) hx hb hts hinX10 hown hK hP hI 2 (mF 2 rfl) rfl rfl 9 (Nat.le_of_ble_eq_true rfl) (hts _ (vA_in _ _ (in_7 _ (zs16 (zs16 (zs4 (zs0))))))) (fun _ h9 => h9) ((pw35.2 2 9 (fun q9 => absurd q9.1 (Nat.ne_of_beq_eq_false rfl))).trans ((kq31 2 9 rfl).trans ((pw27.2 2 9 (fun q9 => absurd q9.2 (Nat.ne_of_beq_eq_false rfl))).trans ((kq10 2 9 rfl).trans fy5)))) dX10_readClause_59 ?_
        refine lv_aload_n hx hb dX10_readClause_62 rfl (lv_at hl 1 rfl) ?_
        refine th_getL (ci := 11) (C := RX10) (T := TX10) (N := 10) (v := .int y1) hx hb hts hinX10 hown hK hP hI 2 (mF 2 rfl) rfl rfl 5 (Nat.le_of_ble_eq_true rfl) (hts _ (vA_in _ _ (in_7 _ (zs16 (zs4 (zs4 (zs4 (zs1 (zs1 (zs0)))))))))) (fun _ h9 => h9) ((pw35.2 2 5 (fun q9 => absurd q9.1 (Nat.ne_of_beq_eq_false rfl))).trans ((kq31 2 5 rfl).trans ((pw27.2 2 5 (fun q9 => absurd q9.2 (Nat.ne_of_beq_eq_false rfl))).trans ((kq10 2 5 rfl).trans fy1)))) dX10_readClause_63 ?_
        have n38 : vp_in y5 52 := (iv_in (n := 52) i23 (by decide))
        refine th_iastL hx hb hK hP (WL_D hD) hS hI 24 (mF 24 rfl) rfl rfl n38 (okI rfl i2) dX10_readClause_66 (fun H locs E39 pw40 hI hP hS => ?_)
        have hKp := hKp.pw pw40 rfl
        obtain ⟨g41, eg41⟩ : ∃ z : Nat → Int32, z = upd g3 y5.toNatClampNeg y1 := ⟨_, rfl⟩
        have hg41 : xi (E39 24) = g41 := by rw [pw40.eu, ((pw35.ef 24 (Nat.ne_of_beq_eq_false rfl)).trans ((kq31.ef 24 (fun _ => rfl)).trans ((pw27.ef 24 (Nat.ne_of_beq_eq_false rfl)).trans ((kq10.ef 24 (fun _ => rfl)).trans hg3)))), eg41]
        have k42 : KS E34 E39 := KS.pw pw40.2 (by decide) (fun q => absurd q (by decide))
        refine lv_aload_n hx hb dX10_readClause_67 rfl (lv_at hl 1 rfl) ?_
        refine th_getL (ci := 11) (C := RX10) (T := TX10) (N := 10) (v := .ref (ad 25)) hx hb hts hinX10 hown hK hP hI 2 (mF 2 rfl) rfl rfl 8 (Nat.le_of_ble_eq_true rfl) (hts _ (vA_in _ _ (in_7 _ (zs16 (zs16 (zs4 (zs1 (zs1 (zs0))))))))) (fun _ h9 => h9) (hI.fr 2 (mF 2 rfl) rfl (Nat.le_of_ble_eq_true rfl) 25 rfl) dX10_readClause_68 ?_
        refine lv_aload_n hx hb dX10_readClause_71 rfl (lv_at hl 1 rfl) ?_
        refine th_getL (ci := 11) (C := RX10) (T := TX10) (N := 10) (v := .int y5) hx hb hts hinX10 hown hK hP hI 2 (mF 2 rfl) rfl rfl 9 (Nat.le_of_ble_eq_true rfl) (hts _ (vA_in _ _ (in_7 _ (zs16 (zs16 (zs4 (zs0))))))) (fun _ h9 => h9) ((pw40.2 2 9 (fun q9 => absurd q9.1 (Nat.ne_of_beq_eq_false rfl))).trans ((pw35.2 2 9 (fun q9 => absurd q9.1 (Nat.ne_of_beq_eq_false rfl))).trans ((kq31 2 9 rfl).trans ((pw27.2 2 9 (fun q9 => absurd q9.2 (Nat.ne_of_beq_eq_false rfl))).trans ((kq10 2 9 rfl).trans fy5))))) dX10_readClause_72 ?_
        refine lv_aload_n hx hb dX10_readClause_75 rfl (lv_at hl 1 rfl) ?_
        refine th_getL (ci := 11) (C := RX10) (T := TX10) (N := 10) (v := .int y1) hx hb hts hinX10 hown hK hP hI 2 (mF 2 rfl) rfl rfl 5 (Nat.le_of_ble_eq_true rfl) (hts _ (vA_in _ _ (in_7 _ (zs16 (zs4 (zs4 (zs4 (zs1 (zs1 (zs0)))))))))) (fun _ h9 => h9) ((pw40.2 2 5 (fun q9 => absurd q9.1 (Nat.ne_of_beq_eq_false rfl))).trans ((pw35.2 2 5 (fun q9 => absurd q9.1 (Nat.ne_of_beq_eq_false rfl))).trans ((kq31 2 5 rfl).trans ((pw27.2 2 5 (fun q9 => absurd q9.2 (Nat.ne_of_beq_eq_false rfl))).trans ((kq10 2 5 rfl).trans fy1))))) dX10_readClause_76 ?_
        have n43 : vp_in y5 51 := (iv_in (n := 51) i23 (by decide))
        refine th_iastL hx hb hK hP (WL_D hD) hS hI 25 (mF 25 rfl) rfl rfl n43 (okI rfl i2) dX10_readClause_79 (fun H locs E44 pw45 hI hP hS => ?_)
        have hKp := hKp.pw pw45 rfl
        obtain ⟨g46, eg46⟩ : ∃ z : Nat → Int32, z = upd g4 y5.toNatClampNeg y1 := ⟨_, rfl⟩
        have hg46 : xi (E44 25) = g46 := by rw [pw45.eu, ((pw40.ef 25 (Nat.ne_of_beq_eq_false rfl)).trans ((pw35.ef 25 (Nat.ne_of_beq_eq_false rfl)).trans ((kq31.ef 25 (fun _ => rfl)).trans ((pw27.ef 25 (Nat.ne_of_beq_eq_false rfl)).trans ((kq10.ef 25 (fun _ => rfl)).trans hg4))))), eg46]
        have k47 : KS E39 E44 := KS.pw pw45.2 (by decide) (fun q => absurd q (by decide))
        obtain ⟨qs48, vs49, hRqs48, hSSqs48⟩ := hEV.2.1.2.1
        refine va_ldcS hx hb hown hRqs48 dX10_readClause_80 ?_
        refine lv_aload_n hx hb dX10_readClause_82 rfl (lv_at hl 1 rfl) ?_
        refine th_iL (va_runV (As := []) (rest := [.ref qs48]) ⟨hx, hb, hml, hown, hts⟩ (q_nextX l dC dI cT cf hC ad E44 H.size hI) (cwV 0 hts (gi_V (in_8 _ (zs16 (zs4 (zs4 (zs1 (zs1 (zs1 (zs0)))))))) (in_8 _ (zs16 (zs4 (zs4 (zs4 (zs0)))))) (in_8 _ (zs16 (zs4 (zs4 (zs4 (zs1 (zs0))))))) (in_8 _ (zs4 (zs4 (zs4 (zs1 (zs1 (zs0))))))) (in_8 _ (zs16 (zs1 (zs1 (zs1 (zs0))))))) rfl rfl rfl ⟨rfl, hz_yX10_next_0⟩ ⟨Nat.le_of_ble_eq_true rfl, Nat.le_of_ble_eq_true rfl⟩) ⟨HWL_bl, va_recv hK hP (ci := 11) (q0 := posL 2 (LC cf)) rfl (hI.ob 2 (mF 2 rfl) rfl), (HWL_wi hP hK (WL_D hD) hS hA hEV)⟩ rfl rfl hl.1 rfl (lv_room (Nat.le_of_ble_eq_true rfl)) dX10_readClause_83 ⟨Nat.le_of_ble_eq_true rfl, Nat.le_of_ble_eq_true rfl⟩) (WL_D hD) hS hA (fun r50 E51 H locs hw hP hS => ?_)
        obtain ⟨hI, kq52, hw⟩ := hw
        have hKb := hKp
        have hKp := hKp.tr kq52 (wl_sub rfl rfl)
        obtain ⟨y53, ey53⟩ : ∃ y, xi (E51 2) 2 = y := ⟨_, rfl⟩
        have fy53 : xv (E51 2) 2 = .int y53 := (hI.fi 2 (mF 2 rfl) rfl (Nat.le_of_ble_eq_true rfl) rfl).trans (congrArg Value.int ey53)
        have i54 : 0 ≤ y53.toInt ∧ y53.toInt ≤ 200 := by rw [← ey53]; exact hI.iv 2 (mF 2 rfl) rfl (Nat.le_of_ble_eq_true rfl) rfl
        obtain ⟨f55, f56, f57⟩ := hw
        try rw [hKb.ei 2 1 rfl] at f56
        try rw [(show xi (E51 2) 2 = y53 from vi_e fy53)] at f56
        refine th_pi (va_runSN (As := [.ref qs48, .int r50]) (rest := []) ⟨hx, hb, hml, hown, hts⟩ (q_isOneOfX l qs48 vs49 tCON r50 (by decide) (by decide) f55) ⟨va_cnB 2 hts (gi_0 (in_8 _ (zs16 (zs4 (zs4 (zs4 (zs1 (zs1 (zs1 (zs0)))))))))) rfl rfl rfl (hEV.1.1 _ (List.mem_of_getElem? (i := 12) rfl)) (hts _ (vA_in _ _ (in_4 _ (zs16 (zs4 (zs1 (zs1 (zs1 (zs0))))))))) hz_yX12_isOneOf_2 ⟨Nat.le_of_ble_eq_true rfl, Nat.le_of_ble_eq_true rfl⟩, (hts _ (vA_in _ _ (in_8 _ (zs16 (zs4 (zs4 (zs4 (zs1 (zs1 (zs0)))))))))), trivial⟩ ⟨fun a U g mk q => ⟨q.1, SS_c q.2⟩, fun U hU hW => ⟨rfl, SS_w hU hW hS (fun _ h => h.elim) hSSqs48⟩⟩ rfl rfl hl.1 rfl (lv_room (Nat.le_of_ble_eq_true rfl)) dX10_readClause_86 ⟨Nat.le_of_ble_eq_true rfl, Nat.le_of_ble_eq_true rfl⟩) hS (fun r58 H1 locs1 hw hk1 hS => ?_)
        have hP := ub_keep hP hk1
        generalize H1 = H at hP hS ⊢
        generalize locs1 = locs at hS ⊢
        rcases hw with hw | hw
        · -- isOneOfX, case 0
          obtain ⟨rfl, f59⟩ := hw
          refine lv_istore_n (lv' := [(2, .int 1), (1, .int r8), (0, .ref (ad 2))]) hx hb dX10_readClause_89 rfl hl (by decide) rfl (fun ls hl => ?_)
          refine lv_iload_n hx hb dX10_readClause_90 rfl (lv_at hl 0 rfl) ?_
          refine lv_if_ne (tgt := 99) hx hb dX10_readClause_91 (by decide) (fun c60 => ?_) (fun c60 => ?_)
          · --91 taken
            refine lv_iload_n hx hb dX10_readClause_99 rfl (lv_at hl 0 rfl) ?_
            refine lv_if_ne (tgt := 115) hx hb dX10_readClause_100 (by decide) (fun c61 => ?_) (fun c61 => ?_)
            · --100 taken
              refine lv_aload_n hx hb dX10_readClause_115 rfl (lv_at hl 2 rfl) ?_
              refine lv_iconst (v := 0) hx hb dX10_readClause_116 (by decide) ?_
              refine lv_iload_n hx hb dX10_readClause_117 rfl (lv_at hl 0 rfl) ?_
              refine lv_if_ne (tgt := 125) hx hb dX10_readClause_118 (by decide) (fun c62 => ?_) (fun c62 => ?_)
              · --118 taken
                refine lv_iconst (v := 0) hx hb dX10_readClause_125 (by decide) ?_
                have z0 := ln_0
                refine th_vL (va_runV (As := [.int 0, .int 0]) (rest := []) ⟨hx, hb, hml, hown, hts⟩ ((q_cgroupX l 8).2.2 dC dI cT cf hC ad E51 H.size (0 : Int32) (0 : Int32) hI (iv_w ln_0 (by decide)) (by omega) (iv_w ln_0 (by decide))) (cwV 2 hts (gi_V (in_9 _ (zs16 (zs4 (zs4 (zs4 (zs0)))))) (in_9 _ (zs16 (zs4 (zs4 (zs4 (zs1 (zs0))))))) (in_9 _ (zs16 (zs4 (zs4 (zs4 (zs1 (zs1 (zs0)))))))) (in_8 _ (zs4 (zs4 (zs4 (zs1 (zs1 (zs0))))))) (in_9 _ (zs16 (zs4 (zs4 (zs4 (zs1 (zs1 (zs1 (zs0)))))))))) rfl rfl rfl (by decide +kernel) ⟨(show 7 * 8 + 13 + 1 ≤ 70 from Nat.le_of_ble_eq_true rfl), (show 8 + (4 + 11) + 40 * (7 * 8 + 13) ≤ 40 * (70) from Nat.le_of_ble_eq_true rfl)⟩) ⟨HWL_bl, va_recv hK hP (ci := 11) (q0 := posL 2 (LC cf)) rfl (hI.ob 2 (mF 2 rfl) rfl), (HWL_wi hP hK (WL_D hD) hS hA hEV)⟩ rfl rfl hl.1 rfl (lv_room (Nat.le_of_ble_eq_true rfl)) dX10_readClause_126 ⟨Nat.le_of_ble_eq_true rfl, Nat.le_of_ble_eq_true rfl⟩) (WL_D hD) hS hA (fun E64 H locs hw hP hS => ?_)
                obtain ⟨hI, kq65, hw⟩ := hw
                have hKb := hKp
                have hKp := hKp.tr kq65 (wl_sub rfl rfl)
                obtain ⟨y66, ey66⟩ : ∃ y, xi (E64 2) 5 = y := ⟨_, rfl⟩
                have fy66 : xv (E64 2) 5 = .int y66 := (hI.fi 2 (mF 2 rfl) rfl (Nat.le_of_ble_eq_true rfl) rfl).trans (congrArg Value.int ey66)
                have i67 : 0 ≤ y66.toInt ∧ y66.toInt ≤ 200 := by rw [← ey66]; exact hI.iv 2 (mF 2 rfl) rfl (Nat.le_of_ble_eq_true rfl) rfl
                obtain ⟨f68, f69⟩ := hw
                try rw [(show xi (E51 2) 5 = y1 from vi_e ((kq52 2 5 rfl).trans ((pw45.2 2 5 (fun q9 => absurd q9.1 (Nat.ne_of_beq_eq_false rfl))).trans ((pw40.2 2 5 (fun q9 => absurd q9.1 (Nat.ne_of_beq_eq_false rfl))).trans ((pw35.2 2 5 (fun q9 => absurd q9.1 (Nat.ne_of_beq_eq_false rfl))).trans ((kq31 2 5 rfl).trans ((pw27.2 2 5 (fun q9 => absurd q9.2 (Nat.ne_of_beq_eq_false rfl))).trans ((kq10 2 5 rfl).trans fy1))))))))] at f68
                try rw [(show xi (E64 2) 5 = y66 from vi_e fy66)] at f68
                refine lv_aload_n hx hb dX10_readClause_129 rfl (lv_at hl 2 rfl) ?_
                refine lv_bipush (v := 63) hx hb dX10_readClause_130 (by decide) ?_
                refine th_vL (va_runV (As := [.int 63]) (rest := []) ⟨hx, hb, hml, hown, hts⟩ (q_takeX l dC dI cT cf hC ad E64 H.size (63 : Int32) hI (iv_w ln_63 (by decide))) (cwV 1 hts (gi_V (in_8 _ (zs16 (zs16 (zs1 (zs1 (zs1 (zs0))))))) (in_8 _ (zs16 (zs16 (zs4 (zs0))))) (in_8 _ (zs16 (zs16 (zs4 (zs1 (zs0)))))) (in_8 _ (zs4 (zs4 (zs4 (zs1 (zs1 (zs0))))))) (in_8 _ (zs16 (zs16 (zs4 (zs1 (zs1 (zs0)))))))) rfl rfl rfl ⟨rfl, hz_yX10_take_1⟩ ⟨Nat.le_of_ble_eq_true rfl, Nat.le_of_ble_eq_true rfl⟩) ⟨HWL_bl, va_recv hK hP (ci := 11) (q0 := posL 2 (LC cf)) rfl (hI.ob 2 (mF 2 rfl) rfl), (HWL_wi hP hK (WL_D hD) hS hA hEV)⟩ rfl rfl hl.1 rfl (lv_room (Nat.le_of_ble_eq_true rfl)) dX10_readClause_132 ⟨Nat.le_of_ble_eq_true rfl, Nat.le_of_ble_eq_true rfl⟩) (WL_D hD) hS hA (fun E71 H locs hw hP hS => ?_)
                obtain ⟨hI, kq72, hw⟩ := hw
                have hKb := hKp
                have hKp := hKp.tr kq72 (wl_sub rfl rfl)
                have f73 := hw
                refine lv_aload_n hx hb dX10_readClause_135 rfl (lv_at hl 2 rfl) ?_
                refine th_getL (ci := 11) (C := RX10) (T := TX10) (N := 10) (v := .ref (ad 25)) hx hb hts hinX10 hown hK hP hI 2 (mF 2 rfl) rfl rfl 8 (Nat.le_of_ble_eq_true rfl) (hts _ (vA_in _ _ (in_7 _ (zs16 (zs16 (zs4 (zs1 (zs1 (zs0))))))))) (fun _ h9 => h9) (hI.fr 2 (mF 2 rfl) rfl (Nat.le_of_ble_eq_true rfl) 25 rfl) dX10_readClause_136 ?_
                refine lv_aload_n hx hb dX10_readClause_139 rfl (lv_at hl 2 rfl) ?_
                refine th_getL (ci := 11) (C := RX10) (T := TX10) (N := 10) (v := .int y5) hx hb hts hinX10 hown hK hP hI 2 (mF 2 rfl) rfl rfl 9 (Nat.le_of_ble_eq_true rfl) (hts _ (vA_in _ _ (in_7 _ (zs16 (zs16 (zs4 (zs0))))))) (fun _ h9 => h9) ((kq72 2 9 rfl).trans ((kq65 2 9 rfl).trans ((kq52 2 9 rfl).trans ((pw45.2 2 9 (fun q9 => absurd q9.1 (Nat.ne_of_beq_eq_false rfl))).trans ((pw40.2 2 9 (fun q9 => absurd q9.1 (Nat.ne_of_beq_eq_false rfl))).trans ((pw35.2 2 9 (fun q9 => absurd q9.1 (Nat.ne_of_beq_eq_false rfl))).trans ((kq31 2 9 rfl).trans ((pw27.2 2 9 (fun q9 => absurd q9.2 (Nat.ne_of_beq_eq_false rfl))).trans ((kq10 2 9 rfl).trans fy5))))))))) dX10_readClause_140 ?_
                refine lv_aload_n hx hb dX10_readClause_143 rfl (lv_at hl 2 rfl) ?_
                refine th_getL (ci := 11) (C := RX10) (T := TX10) (N := 10) (v := .int y66) hx hb hts hinX10 hown hK hP hI 2 (mF 2 rfl) rfl rfl 5 (Nat.le_of_ble_eq_true rfl) (hts _ (vA_in _ _ (in_7 _ (zs16 (zs4 (zs4 (zs4 (zs1 (zs1 (zs0)))))))))) (fun _ h9 => h9) ((kq72 2 5 rfl).trans fy66) dX10_readClause_144 ?_
                have n74 : vp_in y5 51 := (iv_in (n := 51) i23 (by decide))
                refine th_iastL hx hb hK hP (WL_D hD) hS hI 25 (mF 25 rfl) rfl rfl n74 (okI rfl i67) dX10_readClause_147 (fun H locs E75 pw76 hI hP hS => ?_)
                have hKp := hKp.pw pw76 rfl
                obtain ⟨g77, eg77⟩ : ∃ z : Nat → Int32, z = upd g46 y5.toNatClampNeg y66 := ⟨_, rfl⟩
                have hg77 : xi (E75 25) = g77 := by rw [pw76.eu, ((kq72.ef 25 (fun _ => rfl)).trans ((kq65.ef 25 (fun _ => rfl)).trans ((kq52.ef 25 (fun _ => rfl)).trans hg46))), eg77]
                have k78 : KS E71 E75 := KS.pw pw76.2 (by decide) (fun q => absurd q (by decide))
                refine lv_aload_n hx hb dX10_readClause_148 rfl (lv_at hl 2 rfl) ?_
                refine lv_iconst (v := 0) hx hb dX10_readClause_149 (by decide) ?_
                refine th_vL (va_runV (As := [.int 0]) (rest := []) ⟨hx, hb, hml, hown, hts⟩ ((q_cgroupX l 8).1 dC dI cT cf hC ad E75 H.size (0 : Int32) hI (iv_w ln_0 (by decide)) (by omega)) (cwV 1 hts (gi_V (in_8 _ (zs16 (zs16 (zs4 (zs1 (zs1 (zs1 (zs0)))))))) (in_9 _ zs0) (in_9 _ (zs1 (zs0))) (in_8 _ (zs4 (zs4 (zs4 (zs1 (zs1 (zs0))))))) (in_9 _ (zs1 (zs1 (zs0))))) rfl rfl rfl (by decide +kernel) ⟨(show 7 * 8 + 9 + 1 ≤ 70 from Nat.le_of_ble_eq_true rfl), (show 8 + (4 + 11) + 40 * (7 * 8 + 9) ≤ 40 * (70) from Nat.le_of_ble_eq_true rfl)⟩) ⟨HWL_bl, va_recv hK hP (ci := 11) (q0 := posL 2 (LC cf)) rfl (hI.ob 2 (mF 2 rfl) rfl), (HWL_wi hP hK (WL_D hD) hS hA hEV)⟩ rfl rfl hl.1 rfl (lv_room (Nat.le_of_ble_eq_true rfl)) dX10_readClause_150 ⟨Nat.le_of_ble_eq_true rfl, Nat.le_of_ble_eq_true rfl⟩) (WL_D hD) hS hA (fun E80 H locs hw hP hS => ?_)
                obtain ⟨hI, kq81, hw⟩ := hw
                have hKb := hKp
                have hKp := hKp.tr kq81 (wl_sub rfl rfl)
                obtain ⟨y82, ey82⟩ : ∃ y, xi (E80 2) 5 = y := ⟨_, rfl⟩
                have fy82 : xv (E80 2) 5 = .int y82 := (hI.fi 2 (mF 2 rfl) rfl (Nat.le_of_ble_eq_true rfl) rfl).trans (congrArg Value.int ey82)
                have i83 : 0 ≤ y82.toInt ∧ y82.toInt ≤ 200 := by rw [← ey82]; exact hI.iv 2 (mF 2 rfl) rfl (Nat.le_of_ble_eq_true rfl) rfl
                obtain ⟨f84, f85⟩ := hw
                try rw [(show xi (E75 2) 5 = y66 from vi_e ((pw76.2 2 5 (fun q9 => absurd q9.1 (Nat.ne_of_beq_eq_false rfl))).trans ((kq72 2 5 rfl).trans fy66)))] at f84
                try rw [(show xi (E80 2) 5 = y82 from vi_e fy82)] at f84
                refine lv_aload_n hx hb dX10_readClause_153 rfl (lv_at hl 2 rfl) ?_
                refine lv_dup hx hb dX10_readClause_154 rfl ?_
                refine th_getL (ci := 11) (C := RX10) (T := TX10) (N := 10) (v := .int y5) hx hb hts hinX10 hown hK hP hI 2 (mF 2 rfl) rfl rfl 9 (Nat.le_of_ble_eq_true rfl) (hts _ (vA_in _ _ (in_7 _ (zs16 (zs16 (zs4 (zs0))))))) (fun _ h9 => h9) ((kq81 2 9 rfl).trans ((pw76.2 2 9 (fun q9 => absurd q9.1 (Nat.ne_of_beq_eq_false rfl))).trans ((kq72 2 9 rfl).trans ((kq65 2 9 rfl).trans ((kq52 2 9 rfl).trans ((pw45.2 2 9 (fun q9 => absurd q9.1 (Nat.ne_of_beq_eq_false rfl))).trans ((pw40.2 2 9 (fun q9 => absurd q9.1 (Nat.ne_of_beq_eq_false rfl))).trans ((pw35.2 2 9 (fun q9 => absurd q9.1 (Nat.ne_of_beq_eq_false rfl))).trans ((kq31 2 9 rfl).trans ((pw27.2 2 9 (fun q9 => absurd q9.2 (Nat.ne_of_beq_eq_false rfl))).trans ((kq10 2 9 rfl).trans fy5))))))))))) dX10_readClause_155 ?_
                refine lv_iconst (v := 1) hx hb dX10_readClause_158 (by decide) ?_
                refine lv_iadd hx hb dX10_readClause_159 ?_
                refine lv_topi (fun y86 ey86 => ?_)
                obtain ⟨ty86, iy86⟩ := ti_add (e := 1) (f := 51) i23 ln_1 ey86 (by decide)
                have ty86 : y86.toInt = y5.toInt + 1 := ty86
                have iy86 : 1 ≤ y86.toInt ∧ y86.toInt ≤ 51 := iy86
                refine th_putL (ci := 11) (C := RX10) (T := TX10) (N := 10) (v := .int y86) (ty := .int) hx hb hts hinX10 tyX10 tyX10_ok nmX10 hown hK hP (WL_D hD) hS hI 2 (mF 2 rfl) rfl rfl 9 (Nat.le_of_ble_eq_true rfl) (hts _ (vA_in _ _ (in_7 _ (zs16 (zs16 (zs4 (zs0))))))) (fun _ h9 => h9) rfl (by decide +kernel) rfl rfl (okI rfl (iv_w iy86 (by decide))) dX10_readClause_160 (fun H locs E87 pw88 hI hP hS => ?_)
                have hKp := hKp.pw pw88 rfl
                have k89 : KS E80 E87 := KS.pw pw88.2 (by decide) (fun _ => by decide)
                rw [hQ]
                exact W.vret hx hb hr (fun t ht hW => ⟨⟨E87, rfl, ⟨hI, hKp, ⟨by (try rw [(show xi (E87 2) 5 = y82 from vi_e ((pw88.2 2 5 (fun q9 => absurd q9.2 (Nat.ne_of_beq_eq_false rfl))).trans fy82))]); (try rw [ey1]); all_goals omega, by (try rw [show xi (E87 24) = g41 from ((pw88.ef 24 (Nat.ne_of_beq_eq_false rfl)).trans ((kq81.ef 24 (fun _ => rfl)).trans ((pw76.ef 24 (Nat.ne_of_beq_eq_false rfl)).trans ((kq72.ef 24 (fun _ => rfl)).trans ((kq65.ef 24 (fun _ => rfl)).trans ((kq52.ef 24 (fun _ => rfl)).trans ((pw45.ef 24 (Nat.ne_of_beq_eq_false rfl)).trans hg41)))))))]); (try rw [show xi (E87 25) = g77 from ((pw88.ef 25 (Nat.ne_of_beq_eq_false rfl)).trans ((kq81.ef 25 (fun _ => rfl)).trans hg77))]); (try rw [show xi (E87 2) 9 = y86 from vi_e pw88.1]); (try rw [show xi (E87 2) 5 = y82 from vi_e ((pw88.2 2 5 (fun q9 => absurd q9.2 (Nat.ne_of_beq_eq_false rfl))).trans fy82)]); exact TPok_push hTP (by omega) (by omega) (by omega) (fun k hk => by rw [eg41, pk_un hk]) (fun k hk => by rw [eg77, pk_un hk, eg46, pk_un hk]) (by rw [eg41, pk_us]; omega) (by rw [eg77, pk_us]; omega), clC f15 (ix_lab.mp f19.2) k28 f32 ((k37.tr k42).tr k47) (vC_c f57 (con_or.mp (ix_con.mp f59.2)) f69 (qsC f73 k78 f85 KS.rf)) k89, fun _ => by rw [show xi (E87 2) 9 = y86 from vi_e pw88.1, ey5]; omega⟩⟩, by show va_P (dC, dI) vwCl (WL (LC cf) ad E87) t.heap; rw [ht]; exact hP⟩, hS.F ht⟩) hS.2.2 dX10_readClause_163
              · --118 not
                exact absurd c62 (by decide)
            · --100 not
              exact absurd c61 (by decide)
          · --91 not
            exact absurd c60 (by decide)
        · -- isOneOfX, case 1
          obtain ⟨rfl, f90⟩ := hw
          refine lv_istore_n (lv' := [(2, .int 0), (1, .int r8), (0, .ref (ad 2))]) hx hb dX10_readClause_89 rfl hl (by decide) rfl (fun ls hl => ?_)
          refine lv_iload_n hx hb dX10_readClause_90 rfl (lv_at hl 0 rfl) ?_
          refine lv_if_ne (tgt := 99) hx hb dX10_readClause_91 (by decide) (fun c91 => ?_) (fun c91 => ?_)
          · --91 taken
            exact absurd c91 (by decide)
          · --91 not
            refine lv_aload_n hx hb dX10_readClause_94 rfl (lv_at hl 2 rfl) ?_
            refine lv_iconst (v := 0) hx hb dX10_readClause_95 (by decide) ?_
            have z0 := ln_0
            refine th_vL (va_runV (As := [.int 0]) (rest := []) ⟨hx, hb, hml, hown, hts⟩ ((q_cgroupX l 8).1 dC dI cT cf hC ad E51 H.size (0 : Int32) hI (iv_w ln_0 (by decide)) (by omega)) (cwV 1 hts (gi_V (in_8 _ (zs16 (zs16 (zs4 (zs1 (zs1 (zs1 (zs0)))))))) (in_9 _ zs0) (in_9 _ (zs1 (zs0))) (in_8 _ (zs4 (zs4 (zs4 (zs1 (zs1 (zs0))))))) (in_9 _ (zs1 (zs1 (zs0))))) rfl rfl rfl (by decide +kernel) ⟨(show 7 * 8 + 9 + 1 ≤ 70 from Nat.le_of_ble_eq_true rfl), (show 8 + (4 + 11) + 40 * (7 * 8 + 9) ≤ 40 * (70) from Nat.le_of_ble_eq_true rfl)⟩) ⟨HWL_bl, va_recv hK hP (ci := 11) (q0 := posL 2 (LC cf)) rfl (hI.ob 2 (mF 2 rfl) rfl), (HWL_wi hP hK (WL_D hD) hS hA hEV)⟩ rfl rfl hl.1 rfl (lv_room (Nat.le_of_ble_eq_true rfl)) dX10_readClause_96 ⟨Nat.le_of_ble_eq_true rfl, Nat.le_of_ble_eq_true rfl⟩) (WL_D hD) hS hA (fun E93 H locs hw hP hS => ?_)
            obtain ⟨hI, kq94, hw⟩ := hw
            have hKb := hKp
            have hKp := hKp.tr kq94 (wl_sub rfl rfl)
            obtain ⟨y95, ey95⟩ : ∃ y, xi (E93 2) 5 = y := ⟨_, rfl⟩
            have fy95 : xv (E93 2) 5 = .int y95 := (hI.fi 2 (mF 2 rfl) rfl (Nat.le_of_ble_eq_true rfl) rfl).trans (congrArg Value.int ey95)
            have i96 : 0 ≤ y95.toInt ∧ y95.toInt ≤ 200 := by rw [← ey95]; exact hI.iv 2 (mF 2 rfl) rfl (Nat.le_of_ble_eq_true rfl) rfl
            obtain ⟨f97, f98⟩ := hw
            try rw [(show xi (E51 2) 5 = y1 from vi_e ((kq52 2 5 rfl).trans ((pw45.2 2 5 (fun q9 => absurd q9.1 (Nat.ne_of_beq_eq_false rfl))).trans ((pw40.2 2 5 (fun q9 => absurd q9.1 (Nat.ne_of_beq_eq_false rfl))).trans ((pw35.2 2 5 (fun q9 => absurd q9.1 (Nat.ne_of_beq_eq_false rfl))).trans ((kq31 2 5 rfl).trans ((pw27.2 2 5 (fun q9 => absurd q9.2 (Nat.ne_of_beq_eq_false rfl))).trans ((kq10 2 5 rfl).trans fy1))))))))] at f97
            try rw [(show xi (E93 2) 5 = y95 from vi_e fy95)] at f97
            refine lv_iload_n hx hb dX10_readClause_99 rfl (lv_at hl 0 rfl) ?_
            refine lv_if_ne (tgt := 115) hx hb dX10_readClause_100 (by decide) (fun c99 => ?_) (fun c99 => ?_)
            · --100 taken
              exact absurd c99 (by decide)
            · --100 not
              obtain ⟨qs100, vs101, hRqs100, hSSqs100⟩ := hEV.2.1.2.2.1
              refine va_ldcS hx hb hown hRqs100 dX10_readClause_103 ?_
              refine lv_aload_n hx hb dX10_readClause_105 rfl (lv_at hl 2 rfl) ?_
              refine th_iL (va_runV (As := []) (rest := [.ref qs100]) ⟨hx, hb, hml, hown, hts⟩ (q_nextX l dC dI cT cf hC ad E93 H.size hI) (cwV 0 hts (gi_V (in_8 _ (zs16 (zs4 (zs4 (zs1 (zs1 (zs1 (zs0)))))))) (in_8 _ (zs16 (zs4 (zs4 (zs4 (zs0)))))) (in_8 _ (zs16 (zs4 (zs4 (zs4 (zs1 (zs0))))))) (in_8 _ (zs4 (zs4 (zs4 (zs1 (zs1 (zs0))))))) (in_8 _ (zs16 (zs1 (zs1 (zs1 (zs0))))))) rfl rfl rfl ⟨rfl, hz_yX10_next_0⟩ ⟨Nat.le_of_ble_eq_true rfl, Nat.le_of_ble_eq_true rfl⟩) ⟨HWL_bl, va_recv hK hP (ci := 11) (q0 := posL 2 (LC cf)) rfl (hI.ob 2 (mF 2 rfl) rfl), (HWL_wi hP hK (WL_D hD) hS hA hEV)⟩ rfl rfl hl.1 rfl (lv_room (Nat.le_of_ble_eq_true rfl)) dX10_readClause_106 ⟨Nat.le_of_ble_eq_true rfl, Nat.le_of_ble_eq_true rfl⟩) (WL_D hD) hS hA (fun r102 E103 H locs hw hP hS => ?_)
              obtain ⟨hI, kq104, hw⟩ := hw
              have hKb := hKp
              have hKp := hKp.tr kq104 (wl_sub rfl rfl)
              obtain ⟨y105, ey105⟩ : ∃ y, xi (E103 2) 2 = y := ⟨_, rfl⟩
              have fy105 : xv (E103 2) 2 = .int y105 := (hI.fi 2 (mF 2 rfl) rfl (Nat.le_of_ble_eq_true rfl) rfl).trans (congrArg Value.int ey105)
              have i106 : 0 ≤ y105.toInt ∧ y105.toInt ≤ 200 := by rw [← ey105]; exact hI.iv 2 (mF 2 rfl) rfl (Nat.le_of_ble_eq_true rfl) rfl
              obtain ⟨f107, f108, f109⟩ := hw
              try rw [hKb.ei 2 1 rfl] at f108
              try rw [(show xi (E103 2) 2 = y105 from vi_e fy105)] at f108
              refine th_pi (va_runSN (As := [.ref qs100, .int r102]) (rest := []) ⟨hx, hb, hml, hown, hts⟩ (q_isOneOfX l qs100 vs101 tCMP r102 (by decide) (by decide) f107) ⟨va_cnB 2 hts (gi_0 (in_8 _ (zs16 (zs4 (zs4 (zs4 (zs1 (zs1 (zs1 (zs0)))))))))) rfl rfl rfl (hEV.1.1 _ (List.mem_of_getElem? (i := 12) rfl)) (hts _ (vA_in _ _ (in_4 _ (zs16 (zs4 (zs1 (zs1 (zs1 (zs0))))))))) hz_yX12_isOneOf_2 ⟨Nat.le_of_ble_eq_true rfl, Nat.le_of_ble_eq_true rfl⟩, (hts _ (vA_in _ _ (in_8 _ (zs16 (zs4 (zs4 (zs4 (zs1 (zs1 (zs0)))))))))), trivial⟩ ⟨fun a U g mk q => ⟨q.1, SS_c q.2⟩, fun U hU hW => ⟨rfl, SS_w hU hW hS (fun _ h => h.elim) hSSqs100⟩⟩ rfl rfl hl.1 rfl (lv_room (Nat.le_of_ble_eq_true rfl)) dX10_readClause_109 ⟨Nat.le_of_ble_eq_true rfl, Nat.le_of_ble_eq_true rfl⟩) hS (fun r110 H1 locs1 hw hk1 hS => ?_)
              have hP := ub_keep hP hk1
              generalize H1 = H at hP hS ⊢
              generalize locs1 = locs at hS ⊢
              rcases hw with hw | hw
              · -- isOneOfX, case 0
                obtain ⟨rfl, f111⟩ := hw
                refine lv_if_eq (tgt := 153) hx hb dX10_readClause_112 (by decide) (fun c112 => ?_) (fun c112 => ?_)
                · --112 taken
                  exact absurd c112 (by decide)
                · --112 not
                  refine lv_aload_n hx hb dX10_readClause_115 rfl (lv_at hl 2 rfl) ?_
                  refine lv_iconst (v := 0) hx hb dX10_readClause_116 (by decide) ?_
                  refine lv_iload_n hx hb dX10_readClause_117 rfl (lv_at hl 0 rfl) ?_
                  refine lv_if_ne (tgt := 125) hx hb dX10_readClause_118 (by decide) (fun c113 => ?_) (fun c113 => ?_)
                  · --118 taken
                    exact absurd c113 (by decide)
                  · --118 not
                    refine lv_iconst (v := 1) hx hb dX10_readClause_121 (by decide) ?_
                    refine lv_goto (tgt := 126) hx hb dX10_readClause_122 (by decide) ?_
                    have z1 := ln_1
                    refine th_vL (va_runV (As := [.int 0, .int 1]) (rest := []) ⟨hx, hb, hml, hown, hts⟩ ((q_cgroupX l 8).2.2 dC dI cT cf hC ad E103 H.size (0 : Int32) (1 : Int32) hI (iv_w ln_0 (by decide)) (by omega) (iv_w ln_1 (by decide))) (cwV 2 hts (gi_V (in_9 _ (zs16 (zs4 (zs4 (zs4 (zs0)))))) (in_9 _ (zs16 (zs4 (zs4 (zs4 (zs1 (zs0))))))) (in_9 _ (zs16 (zs4 (zs4 (zs4 (zs1 (zs1 (zs0)))))))) (in_8 _ (zs4 (zs4 (zs4 (zs1 (zs1 (zs0))))))) (in_9 _ (zs16 (zs4 (zs4 (zs4 (zs1 (zs1 (zs1 (zs0)))))))))) rfl rfl rfl (by decide +kernel) ⟨(show 7 * 8 + 13 + 1 ≤ 70 from Nat.le_of_ble_eq_true rfl), (show 8 + (4 + 11) + 40 * (7 * 8 + 13) ≤ 40 * (70) from Nat.le_of_ble_eq_true rfl)⟩) ⟨HWL_bl, va_recv hK hP (ci := 11) (q0 := posL 2 (LC cf)) rfl (hI.ob 2 (mF 2 rfl) rfl), (HWL_wi hP hK (WL_D hD) hS hA hEV)⟩ rfl rfl hl.1 rfl (lv_room (Nat.le_of_ble_eq_true rfl)) dX10_readClause_126 ⟨Nat.le_of_ble_eq_true rfl, Nat.le_of_ble_eq_true rfl⟩) (WL_D hD) hS hA (fun E115 H locs hw hP hS => ?_)
                    obtain ⟨hI, kq116, hw⟩ := hw
                    have hKb := hKp
                    have hKp := hKp.tr kq116 (wl_sub rfl rfl)
                    obtain ⟨y117, ey117⟩ : ∃ y, xi (E115 2) 5 = y := ⟨_, rfl⟩
                    have fy117 : xv (E115 2) 5 = .int y117 := (hI.fi 2 (mF 2 rfl) rfl (Nat.le_of_ble_eq_true rfl) rfl).trans (congrArg Value.int ey117)
                    have i118 : 0 ≤ y117.toInt ∧ y117.toInt ≤ 200 := by rw [← ey117]; exact hI.iv 2 (mF 2 rfl) rfl (Nat.le_of_ble_eq_true rfl) rfl
                    obtain ⟨f119, f120⟩ := hw
                    try rw [(show xi (E103 2) 5 = y95 from vi_e ((kq104 2 5 rfl).trans fy95))] at f119
                    try rw [(show xi (E115 2) 5 = y117 from vi_e fy117)] at f119
                    refine lv_aload_n hx hb dX10_readClause_129 rfl (lv_at hl 2 rfl) ?_
                    refine lv_bipush (v := 63) hx hb dX10_readClause_130 (by decide) ?_
                    refine th_vL (va_runV (As := [.int 63]) (rest := []) ⟨hx, hb, hml, hown, hts⟩ (q_takeX l dC dI cT cf hC ad E115 H.size (63 : Int32) hI (iv_w ln_63 (by decide))) (cwV 1 hts (gi_V (in_8 _ (zs16 (zs16 (zs1 (zs1 (zs1 (zs0))))))) (in_8 _ (zs16 (zs16 (zs4 (zs0))))) (in_8 _ (zs16 (zs16 (zs4 (zs1 (zs0)))))) (in_8 _ (zs4 (zs4 (zs4 (zs1 (zs1 (zs0))))))) (in_8 _ (zs16 (zs16 (zs4 (zs1 (zs1 (zs0)))))))) rfl rfl rfl ⟨rfl, hz_yX10_take_1⟩ ⟨Nat.le_of_ble_eq_true rfl, Nat.le_of_ble_eq_true rfl⟩) ⟨HWL_bl, va_recv hK hP (ci := 11) (q0 := posL 2 (LC cf)) rfl (hI.ob 2 (mF 2 rfl) rfl), (HWL_wi hP hK (WL_D hD) hS hA hEV)⟩ rfl rfl hl.1 rfl (lv_room (Nat.le_of_ble_eq_true rfl)) dX10_readClause_132 ⟨Nat.le_of_ble_eq_true rfl, Nat.le_of_ble_eq_true rfl⟩) (WL_D hD) hS hA (fun E122 H locs hw hP hS => ?_)
                    obtain ⟨hI, kq123, hw⟩ := hw
                    have hKb := hKp
                    have hKp := hKp.tr kq123 (wl_sub rfl rfl)
                    have f124 := hw
                    refine lv_aload_n hx hb dX10_readClause_135 rfl (lv_at hl 2 rfl) ?_
                    refine th_getL (ci := 11) (C := RX10) (T := TX10) (N := 10) (v := .ref (ad 25)) hx hb hts hinX10 hown hK hP hI 2 (mF 2 rfl) rfl rfl 8 (Nat.le_of_ble_eq_true rfl) (hts _ (vA_in _ _ (in_7 _ (zs16 (zs16 (zs4 (zs1 (zs1 (zs0))))))))) (fun _ h9 => h9) (hI.fr 2 (mF 2 rfl) rfl (Nat.le_of_ble_eq_true rfl) 25 rfl) dX10_readClause_136 ?_
                    refine lv_aload_n hx hb dX10_readClause_139 rfl (lv_at hl 2 rfl) ?_
                    refine th_getL (ci := 11) (C := RX10) (T := TX10) (N := 10) (v := .int y5) hx hb hts hinX10 hown hK hP hI 2 (mF 2 rfl) rfl rfl 9 (Nat.le_of_ble_eq_true rfl) (hts _ (vA_in _ _ (in_7 _ (zs16 (zs16 (zs4 (zs0))))))) (fun _ h9 => h9) ((kq123 2 9 rfl).trans ((kq116 2 9 rfl).trans ((kq104 2 9 rfl).trans ((kq94 2 9 rfl).trans ((kq52 2 9 rfl).trans ((pw45.2 2 9 (fun q9 => absurd q9.1 (Nat.ne_of_beq_eq_false rfl))).trans ((pw40.2 2 9 (fun q9 => absurd q9.1 (Nat.ne_of_beq_eq_false rfl))).trans ((pw35.2 2 9 (fun q9 => absurd q9.1 (Nat.ne_of_beq_eq_false rfl))).trans ((kq31 2 9 rfl).trans ((pw27.2 2 9 (fun q9 => absurd q9.2 (Nat.ne_of_beq_eq_false rfl))).trans ((kq10 2 9 rfl).trans fy5))))))))))) dX10_readClause_140 ?_
                    refine lv_aload_n hx hb dX10_readClause_143 rfl (lv_at hl 2 rfl) ?_
                    refine th_getL (ci := 11) (C := RX10) (T := TX10) (N := 10) (v := .int y117) hx hb hts hinX10 hown hK hP hI 2 (mF 2 rfl) rfl rfl 5 (Nat.le_of_ble_eq_true rfl) (hts _ (vA_in _ _ (in_7 _ (zs16 (zs4 (zs4 (zs4 (zs1 (zs1 (zs0)))))))))) (fun _ h9 => h9) ((kq123 2 5 rfl).trans fy117) dX10_readClause_144 ?_
                    have n125 : vp_in y5 51 := (iv_in (n := 51) i23 (by decide))
                    refine th_iastL hx hb hK hP (WL_D hD) hS hI 25 (mF 25 rfl) rfl rfl n125 (okI rfl i118) dX10_readClause_147 (fun H locs E126 pw127 hI hP hS => ?_)
                    have hKp := hKp.pw pw127 rfl
                    obtain ⟨g128, eg128⟩ : ∃ z : Nat → Int32, z = upd g46 y5.toNatClampNeg y117 := ⟨_, rfl⟩
                    have hg128 : xi (E126 25) = g128 := by rw [pw127.eu, ((kq123.ef 25 (fun _ => rfl)).trans ((kq116.ef 25 (fun _ => rfl)).trans ((kq104.ef 25 (fun _ => rfl)).trans ((kq94.ef 25 (fun _ => rfl)).trans ((kq52.ef 25 (fun _ => rfl)).trans hg46))))), eg128]
                    have k129 : KS E122 E126 := KS.pw pw127.2 (by decide) (fun q => absurd q (by decide))
                    refine lv_aload_n hx hb dX10_readClause_148 rfl (lv_at hl 2 rfl) ?_
                    refine lv_iconst (v := 0) hx hb dX10_readClause_149 (by decide) ?_
                    refine th_vL (va_runV (As := [.int 0]) (rest := []) ⟨hx, hb, hml, hown, hts⟩ ((q_cgroupX l 8).1 dC dI cT cf hC ad E126 H.size (0 : Int32) hI (iv_w ln_0 (by decide)) (by omega)) (cwV 1 hts (gi_V (in_8 _ (zs16 (zs16 (zs4 (zs1 (zs1 (zs1 (zs0)))))))) (in_9 _ zs0) (in_9 _ (zs1 (zs0))) (in_8 _ (zs4 (zs4 (zs4 (zs1 (zs1 (zs0))))))) (in_9 _ (zs1 (zs1 (zs0))))) rfl rfl rfl (by decide +kernel) ⟨(show 7 * 8 + 9 + 1 ≤ 70 from Nat.le_of_ble_eq_true rfl), (show 8 + (4 + 11) + 40 * (7 * 8 + 9) ≤ 40 * (70) from Nat.le_of_ble_eq_true rfl)⟩) ⟨HWL_bl, va_recv hK hP (ci := 11) (q0 := posL 2 (LC cf)) rfl (hI.ob 2 (mF 2 rfl) rfl), (HWL_wi hP hK (WL_D hD) hS hA hEV)⟩ rfl rfl hl.1 rfl (lv_room (Nat.le_of_ble_eq_true rfl)) dX10_readClause_150 ⟨Nat.le_of_ble_eq_true rfl, Nat.le_of_ble_eq_true rfl⟩) (WL_D hD) hS hA (fun E131 H locs hw hP hS => ?_)
                    obtain ⟨hI, kq132, hw⟩ := hw
                    have hKb := hKp
                    have hKp := hKp.tr kq132 (wl_sub rfl rfl)
                    obtain ⟨y133, ey133⟩ : ∃ y, xi (E131 2) 5 = y := ⟨_, rfl⟩
                    have fy133 : xv (E131 2) 5 = .int y133 := (hI.fi 2 (mF 2 rfl) rfl (Nat.le_of_ble_eq_true rfl) rfl).trans (congrArg Value.int ey133)
                    have i134 : 0 ≤ y133.toInt ∧ y133.toInt ≤ 200 := by rw [← ey133]; exact hI.iv 2 (mF 2 rfl) rfl (Nat.le_of_ble_eq_true rfl) rfl
                    obtain ⟨f135, f136⟩ := hw
                    try rw [(show xi (E126 2) 5 = y117 from vi_e ((pw127.2 2 5 (fun q9 => absurd q9.1 (Nat.ne_of_beq_eq_false rfl))).trans ((kq123 2 5 rfl).trans fy117)))] at f135
                    try rw [(show xi (E131 2) 5 = y133 from vi_e fy133)] at f135
                    refine lv_aload_n hx hb dX10_readClause_153 rfl (lv_at hl 2 rfl) ?_
                    refine lv_dup hx hb dX10_readClause_154 rfl ?_
                    refine th_getL (ci := 11) (C := RX10) (T := TX10) (N := 10) (v := .int y5) hx hb hts hinX10 hown hK hP hI 2 (mF 2 rfl) rfl rfl 9 (Nat.le_of_ble_eq_true rfl) (hts _ (vA_in _ _ (in_7 _ (zs16 (zs16 (zs4 (zs0))))))) (fun _ h9 => h9) ((kq132 2 9 rfl).trans ((pw127.2 2 9 (fun q9 => absurd q9.1 (Nat.ne_of_beq_eq_false rfl))).trans ((kq123 2 9 rfl).trans ((kq116 2 9 rfl).trans ((kq104 2 9 rfl).trans ((kq94 2 9 rfl).trans ((kq52 2 9 rfl).trans ((pw45.2 2 9 (fun q9 => absurd q9.1 (Nat.ne_of_beq_eq_false rfl))).trans ((pw40.2 2 9 (fun q9 => absurd q9.1 (Nat.ne_of_beq_eq_false rfl))).trans ((pw35.2 2 9 (fun q9 => absurd q9.1 (Nat.ne_of_beq_eq_false rfl))).trans ((kq31 2 9 rfl).trans ((pw27.2 2 9 (fun q9 => absurd q9.2 (Nat.ne_of_beq_eq_false rfl))).trans ((kq10 2 9 rfl).trans fy5))))))))))))) dX10_readClause_155 ?_
                    refine lv_iconst (v := 1) hx hb dX10_readClause_158 (by decide) ?_
                    refine lv_iadd hx hb dX10_readClause_159 ?_
                    refine lv_topi (fun y137 ey137 => ?_)
                    obtain ⟨ty137, iy137⟩ := ti_add (e := 1) (f := 51) i23 ln_1 ey137 (by decide)
                    have ty137 : y137.toInt = y5.toInt + 1 := ty137
                    have iy137 : 1 ≤ y137.toInt ∧ y137.toInt ≤ 51 := iy137
                    refine th_putL (ci := 11) (C := RX10) (T := TX10) (N := 10) (v := .int y137) (ty := .int) hx hb hts hinX10 tyX10 tyX10_ok nmX10 hown hK hP (WL_D hD) hS hI 2 (mF 2 rfl) rfl rfl 9 (Nat.le_of_ble_eq_true rfl) (hts _ (vA_in _ _ (in_7 _ (zs16 (zs16 (zs4 (zs0))))))) (fun _ h9 => h9) rfl (by decide +kernel) rfl rfl (okI rfl (iv_w iy137 (by decide))) dX10_readClause_160 (fun H locs E138 pw139 hI hP hS => ?_)
                    have hKp := hKp.pw pw139 rfl
                    have k140 : KS E131 E138 := KS.pw pw139.2 (by decide) (fun _ => by decide)
                    rw [hQ]
                    exact W.vret hx hb hr (fun t ht hW => ⟨⟨E138, rfl, ⟨hI, hKp, ⟨by (try rw [(show xi (E138 2) 5 = y133 from vi_e ((pw139.2 2 5 (fun q9 => absurd q9.2 (Nat.ne_of_beq_eq_false rfl))).trans fy133))]); (try rw [ey1]); all_goals omega, by (try rw [show xi (E138 24) = g41 from ((pw139.ef 24 (Nat.ne_of_beq_eq_false rfl)).trans ((kq132.ef 24 (fun _ => rfl)).trans ((pw127.ef 24 (Nat.ne_of_beq_eq_false rfl)).trans ((kq123.ef 24 (fun _ => rfl)).trans ((kq116.ef 24 (fun _ => rfl)).trans ((kq104.ef 24 (fun _ => rfl)).trans ((kq94.ef 24 (fun _ => rfl)).trans ((kq52.ef 24 (fun _ => rfl)).trans ((pw45.ef 24 (Nat.ne_of_beq_eq_false rfl)).trans hg41)))))))))]); (try rw [show xi (E138 25) = g128 from ((pw139.ef 25 (Nat.ne_of_beq_eq_false rfl)).trans ((kq132.ef 25 (fun _ => rfl)).trans hg128))]); (try rw [show xi (E138 2) 9 = y137 from vi_e pw139.1]); (try rw [show xi (E138 2) 5 = y133 from vi_e ((pw139.2 2 5 (fun q9 => absurd q9.2 (Nat.ne_of_beq_eq_false rfl))).trans fy133)]); exact TPok_push hTP (by omega) (by omega) (by omega) (fun k hk => by rw [eg41, pk_un hk]) (fun k hk => by rw [eg128, pk_un hk, eg46, pk_un hk]) (by rw [eg41, pk_us]; omega) (by rw [eg128, pk_us]; omega), clC f15 (ix_lab.mp f19.2) k28 f32 ((k37.tr k42).tr k47) (vC_b f57 (no_con f90) f98 f109 (ix_cmp.mp f111.2) f120 (qsC f124 k129 f136 KS.rf)) k140, fun _ => by rw [show xi (E138 2) 9 = y137 from vi_e pw139.1, ey5]; omega⟩⟩, by show va_P (dC, dI) vwCl (WL (LC cf) ad E138) t.heap; rw [ht]; exact hP⟩, hS.F ht⟩) hS.2.2 dX10_readClause_163
              · -- isOneOfX, case 1
                obtain ⟨rfl, f141⟩ := hw
                refine lv_if_eq (tgt := 153) hx hb dX10_readClause_112 (by decide) (fun c142 => ?_) (fun c142 => ?_)
                · --112 taken
                  refine lv_aload_n hx hb dX10_readClause_153 rfl (lv_at hl 2 rfl) ?_
                  refine lv_dup hx hb dX10_readClause_154 rfl ?_
                  refine th_getL (ci := 11) (C := RX10) (T := TX10) (N := 10) (v := .int y5) hx hb hts hinX10 hown hK hP hI 2 (mF 2 rfl) rfl rfl 9 (Nat.le_of_ble_eq_true rfl) (hts _ (vA_in _ _ (in_7 _ (zs16 (zs16 (zs4 (zs0))))))) (fun _ h9 => h9) ((kq104 2 9 rfl).trans ((kq94 2 9 rfl).trans ((kq52 2 9 rfl).trans ((pw45.2 2 9 (fun q9 => absurd q9.1 (Nat.ne_of_beq_eq_false rfl))).trans ((pw40.2 2 9 (fun q9 => absurd q9.1 (Nat.ne_of_beq_eq_false rfl))).trans ((pw35.2 2 9 (fun q9 => absurd q9.1 (Nat.ne_of_beq_eq_false rfl))).trans ((kq31 2 9 rfl).trans ((pw27.2 2 9 (fun q9 => absurd q9.2 (Nat.ne_of_beq_eq_false rfl))).trans ((kq10 2 9 rfl).trans fy5))))))))) dX10_readClause_155 ?_
                  refine lv_iconst (v := 1) hx hb dX10_readClause_158 (by decide) ?_
                  refine lv_iadd hx hb dX10_readClause_159 ?_
                  refine lv_topi (fun y143 ey143 => ?_)
                  obtain ⟨ty143, iy143⟩ := ti_add (e := 1) (f := 51) i23 ln_1 ey143 (by decide)
                  have ty143 : y143.toInt = y5.toInt + 1 := ty143
                  have iy143 : 1 ≤ y143.toInt ∧ y143.toInt ≤ 51 := iy143
                  refine th_putL (ci := 11) (C := RX10) (T := TX10) (N := 10) (v := .int y143) (ty := .int) hx hb hts hinX10 tyX10 tyX10_ok nmX10 hown hK hP (WL_D hD) hS hI 2 (mF 2 rfl) rfl rfl 9 (Nat.le_of_ble_eq_true rfl) (hts _ (vA_in _ _ (in_7 _ (zs16 (zs16 (zs4 (zs0))))))) (fun _ h9 => h9) rfl (by decide +kernel) rfl rfl (okI rfl (iv_w iy143 (by decide))) dX10_readClause_160 (fun H locs E144 pw145 hI hP hS => ?_)
                  have hKp := hKp.pw pw145 rfl
                  have k146 : KS E103 E144 := KS.pw pw145.2 (by decide) (fun _ => by decide)
                  rw [hQ]
                  exact W.vret hx hb hr (fun t ht hW => ⟨⟨E144, rfl, ⟨hI, hKp, ⟨by (try rw [(show xi (E144 2) 5 = y95 from vi_e ((pw145.2 2 5 (fun q9 => absurd q9.2 (Nat.ne_of_beq_eq_false rfl))).trans ((kq104 2 5 rfl).trans fy95)))]); (try rw [ey1]); all_goals omega, by (try rw [show xi (E144 24) = g41 from ((pw145.ef 24 (Nat.ne_of_beq_eq_false rfl)).trans ((kq104.ef 24 (fun _ => rfl)).trans ((kq94.ef 24 (fun _ => rfl)).trans ((kq52.ef 24 (fun _ => rfl)).trans ((pw45.ef 24 (Nat.ne_of_beq_eq_false rfl)).trans hg41)))))]); (try rw [show xi (E144 25) = g46 from ((pw145.ef 25 (Nat.ne_of_beq_eq_false rfl)).trans ((kq104.ef 25 (fun _ => rfl)).trans ((kq94.ef 25 (fun _ => rfl)).trans ((kq52.ef 25 (fun _ => rfl)).trans hg46))))]); (try rw [show xi (E144 2) 9 = y143 from vi_e pw145.1]); (try rw [show xi (E144 2) 5 = y95 from vi_e ((pw145.2 2 5 (fun q9 => absurd q9.2 (Nat.ne_of_beq_eq_false rfl))).trans ((kq104 2 5 rfl).trans fy95))]); exact TPok_push hTP (by omega) (by omega) (by omega) (fun k hk => by rw [eg41, pk_un hk]) (fun k hk => by rw [eg46, pk_un hk]) (by rw [eg41, pk_us]; omega) (by rw [eg46, pk_us]; omega), clC f15 (ix_lab.mp f19.2) k28 f32 ((k37.tr k42).tr k47) (vC_s f57 (no_con f90) f98 f109 (no_cmp f141)) k146, fun _ => by rw [show xi (E144 2) 9 = y143 from vi_e pw145.1, ey5]; omega⟩⟩, by show va_P (dC, dI) vwCl (WL (LC cf) ad E144) t.heap; rw [ht]; exact hP⟩, hS.F ht⟩) hS.2.2 dX10_readClause_163
                · --112 not
                  exact absurd c142 (by decide)
      · --20 not
        have t147 : (51 : Int) ≤ y5.toInt := ti_nlt c21
        have i148 : 51 ≤ y5.toInt ∧ y5.toInt ≤ 51 := iv_le_r t147 (il_ 51) i6 (by decide)
        refine lv_aload_n hx hb dX10_readClause_23 rfl (lv_at hl 1 rfl) ?_
        refine th_vL (va_runV (As := []) (rest := []) ⟨hx, hb, hml, hown, hts⟩ (q_failX l dC dI cT cf hC ad E9 H.size hI) (cwV 0 hts (gi_V (in_8 _ (zs4 (zs4 (zs1 (zs1 (zs1 (zs0))))))) (in_8 _ (zs4 (zs4 (zs4 (zs0))))) (in_8 _ (zs4 (zs4 (zs4 (zs1 (zs0)))))) (in_8 _ (zs4 (zs4 (zs4 (zs1 (zs1 (zs0))))))) (in_8 _ (zs4 (zs1 (zs1 (zs1 (zs0))))))) rfl rfl rfl ⟨rfl, hz_yX10_fail_0⟩ ⟨Nat.le_of_ble_eq_true rfl, Nat.le_of_ble_eq_true rfl⟩) ⟨HWL_bl, va_recv hK hP (ci := 11) (q0 := posL 2 (LC cf)) rfl (hI.ob 2 (mF 2 rfl) rfl), (HWL_wi hP hK (WL_D hD) hS hA hEV)⟩ rfl rfl hl.1 rfl (lv_room (Nat.le_of_ble_eq_true rfl)) dX10_readClause_24 ⟨Nat.le_of_ble_eq_true rfl, Nat.le_of_ble_eq_true rfl⟩) (WL_D hD) hS hA (fun E150 H locs hw hP hS => ?_)
        obtain ⟨hI, kq151, hw⟩ := hw
        have hKb := hKp
        have hKp := hKp.tr kq151 (wl_sub rfl rfl)
        have f152 := hw
        rw [hQ]
        exact W.vret hx hb hr (fun t ht hW => ⟨⟨E150, rfl, ⟨hI, hKp, ⟨by (try rw [(show xi (E150 2) 5 = y1 from vi_e ((kq151 2 5 rfl).trans ((kq10 2 5 rfl).trans fy1)))]); (try rw [ey1]); all_goals omega, by (try rw [show xi (E150 24) = g3 from ((kq151.ef 24 (fun _ => rfl)).trans ((kq10.ef 24 (fun _ => rfl)).trans hg3))]); (try rw [show xi (E150 25) = g4 from ((kq151.ef 25 (fun _ => rfl)).trans ((kq10.ef 25 (fun _ => rfl)).trans hg4))]); (try rw [show xi (E150 2) 9 = y5 from vi_e ((kq151 2 9 rfl).trans ((kq10 2 9 rfl).trans fy5))]); (try rw [show xi (E150 2) 5 = y1 from vi_e ((kq151 2 5 rfl).trans ((kq10 2 5 rfl).trans fy1))]); exact TPok_m hTP (by omega), (cl51 f15 (by omega) hh1 (by rw [ey5]; omega) (by have ka := tA_e fy11 (by omega); omega)).elim, fun q9 => by exfalso; exact rdF_no f15 f152 q9⟩⟩, by show va_P (dC, dI) vwCl (WL (LC cf) ad E150) t.heap; rw [ht]; exact hP⟩, hS.F ht⟩) hS.2.2 dX10_readClause_27
  · -- isOneOfX, case 1
    obtain ⟨rfl, f153⟩ := hw
    refine lv_if_eq (tgt := 23) hx hb dX10_readClause_11 (by decide) (fun c154 => ?_) (fun c154 => ?_)
    · --11 taken
      refine lv_aload_n hx hb dX10_readClause_23 rfl (lv_at hl 1 rfl) ?_
      refine th_vL (va_runV (As := []) (rest := []) ⟨hx, hb, hml, hown, hts⟩ (q_failX l dC dI cT cf hC ad E9 H.size hI) (cwV 0 hts (gi_V (in_8 _ (zs4 (zs4 (zs1 (zs1 (zs1 (zs0))))))) (in_8 _ (zs4 (zs4 (zs4 (zs0))))) (in_8 _ (zs4 (zs4 (zs4 (zs1 (zs0)))))) (in_8 _ (zs4 (zs4 (zs4 (zs1 (zs1 (zs0))))))) (in_8 _ (zs4 (zs1 (zs1 (zs1 (zs0))))))) rfl rfl rfl ⟨rfl, hz_yX10_fail_0⟩ ⟨Nat.le_of_ble_eq_true rfl, Nat.le_of_ble_eq_true rfl⟩) ⟨HWL_bl, va_recv hK hP (ci := 11) (q0 := posL 2 (LC cf)) rfl (hI.ob 2 (mF 2 rfl) rfl), (HWL_wi hP hK (WL_D hD) hS hA hEV)⟩ rfl rfl hl.1 rfl (lv_room (Nat.le_of_ble_eq_true rfl)) dX10_readClause_24 ⟨Nat.le_of_ble_eq_true rfl, Nat.le_of_ble_eq_true rfl⟩) (WL_D hD) hS hA (fun E156 H locs hw hP hS => ?_)
      obtain ⟨hI, kq157, hw⟩ := hw
      have hKb := hKp
      have hKp := hKp.tr kq157 (wl_sub rfl rfl)
      have f158 := hw
      rw [hQ]
      exact W.vret hx hb hr (fun t ht hW => ⟨⟨E156, rfl, ⟨hI, hKp, ⟨by (try rw [(show xi (E156 2) 5 = y1 from vi_e ((kq157 2 5 rfl).trans ((kq10 2 5 rfl).trans fy1)))]); (try rw [ey1]); all_goals omega, by (try rw [show xi (E156 24) = g3 from ((kq157.ef 24 (fun _ => rfl)).trans ((kq10.ef 24 (fun _ => rfl)).trans hg3))]); (try rw [show xi (E156 25) = g4 from ((kq157.ef 25 (fun _ => rfl)).trans ((kq10.ef 25 (fun _ => rfl)).trans hg4))]); (try rw [show xi (E156 2) 9 = y5 from vi_e ((kq157 2 9 rfl).trans ((kq10 2 9 rfl).trans fy5))]); (try rw [show xi (E156 2) 5 = y1 from vi_e ((kq157 2 5 rfl).trans ((kq10 2 5 rfl).trans fy1))]); exact TPok_m hTP (by omega), clC_no f15 (no_lab f153) f158, fun q9 => by exfalso; exact rdF_no f15 f158 q9⟩⟩, by show va_P (dC, dI) vwCl (WL (LC cf) ad E156) t.heap; rw [ht]; exact hP⟩, hS.F ht⟩) hS.2.2 dX10_readClause_27
    · --11 not
      exact absurd c154 (by decide)
def v_readX : List Cond := .code yX10_read cX10_read 2 (some .int) :: vA
abbrev rm_readX : Room := { frames := 71, cells := 0, slots := 0, locals := 2840 }
def w_readX : Nat → Nat → Bool := wl [22, 23, 24, 25] [(2, 2), (2, 3), (2, 5), (2, 9)]
set_option maxHeartbeats 4000000 in
set_option maxRecDepth 100000 in
theorem q_readX (l : Launch) (dC : Nat → ClassId) (dI : Nat → Nat → Nat) (cT : Nat → ClassId) (cf : Nat → Nat) (hC : CF cf) (ad : Nat → Nat) (E : Nat → va_E) (sz : Nat)  (hI0 : IXL cT (shC cf) (spC cf) (LC cf) ad E)  : Met l yX10_read v_readX rm_readX (va_Pc [.ref (ad 2)] (HWL dC dI (TYC cT) cf ad E sz)) (va_Qi (S := Nat → va_E) (fun r u => IXL cT (shC cf) (spC cf) (LC cf) ad u ∧ Kp w_readX E u ∧ ((-1 ≤ r.toInt ∧ r.toInt ≤ 200) ∧ ((TPok (xi (u 24)) (xi (u 25)) (xi (u 2) 9) (xi (u 2) 5) ∧ (xi (u 24) (xi (u 2) 9).toNatClampNeg).toInt ≤ (xi (u 2) 5).toInt)) ∧ (Flt E u) ∧ (r.toInt = tF u))) (HBL dC dI (LC cf) ad) (va_A (WL (LC cf) ad E) sz)) 0 0 (va_A (WL (LC cf) ad E) sz) := by
  obtain ⟨⟨hc0, hc1, hc2, hc3, hc4, hc5⟩, hcr⟩ := id hC
  refine Met.ofW (cc := cX10_read) (maxL := 2) (ret := (some .int)) (by decide) rfl ?_
  intro p e s m args below meth c s₁ B hml hv
  obtain ⟨hargs, hsz, hP, hK, hD0, hEV⟩ := hv
  subst hsz
  have hx := B.exec
  have hb := B.bytes
  have hr := B.returns
  have hts := atoms_spec (ws := v_readX) B.pre
  have hown : s.vm.findClass RX10 = some m.cls := findClass_of_methodNamed B.named
  have hlocks := B.notSynchronized
  have hinX10 : ∀ w ∈ u_ws RX10 TX10 10, w ∈ v_readX := fun w h => vA_in _ w (in_X10 w h)
  generalize hAe : va_A (WL (LC cf) ad E) s.heap.size = A at hEV ⊢
  have hA : ∀ q : Nat, s.heap.size ≤ q → A q := fun q h => by rw [← hAe]; exact Or.inr h
  have hD : va_D A (WL (LC cf) ad E) := by rw [← hAe]; exact hD0.self
  have hS : va_S A s.heap s.heap [] := va_S.rf
  have hI := hI0
  have hKp : Kp w_readX E E := Kp.rf
  have hl := lv_entry ([.ref (ad 2)]) (n := 2) (Nat.le_of_ble_eq_true rfl)
  obtain ⟨Q, hQ⟩ : ∃ Q, Q = MQ below (va_Qi (S := Nat → va_E) (fun r u => IXL cT (shC cf) (spC cf) (LC cf) ad u ∧ Kp w_readX E u ∧ ((-1 ≤ r.toInt ∧ r.toInt ≤ 200) ∧ ((TPok (xi (u 24)) (xi (u 25)) (xi (u 2) 9) (xi (u 2) 5) ∧ (xi (u 24) (xi (u 2) 9).toNatClampNeg).toInt ≤ (xi (u 2) 5).toInt)) ∧ (Flt E u) ∧ (r.toInt = tF u))) (HBL dC dI (LC cf) ad) (A)) args s 0 0 (A) := ⟨_, rfl⟩
  rw [← hQ, show entryFrame m args 2 = _ from (congrArg (fun z => entryFrame m z 2) hargs).trans (lg_entry_eq _ _ _)]
  generalize (lg_sl ([.ref (ad 2)]) ++ List.replicate (2 - (lg_sl ([.ref (ad 2)])).length) Slot.unset).toArray = ls at hl ⊢
  have hl : lv_has ls 2 [(0, .ref (ad 2))] := hl
  have i1 : 0 ≤ (xi (E 2) 1).toInt ∧ (xi (E 2) 1).toInt ≤ 200 := hI0.iv 2 (mF 2 rfl) rfl (Nat.le_of_ble_eq_true rfl) rfl
  refine lv_aload_n hx hb dX10_read_0 rfl (lv_at hl 0 rfl) ?_
  refine lv_iconst (v := 0) hx hb dX10_read_1 (by decide) ?_
  refine th_putL (ci := 11) (C := RX10) (T := TX10) (N := 10) (v := .int 0) (ty := .int) hx hb hts hinX10 tyX10 tyX10_ok nmX10 hown hK hP (WL_D hD) hS hI 2 (mF 2 rfl) rfl rfl 2 (Nat.le_of_ble_eq_true rfl) (hts _ (vA_in _ _ (in_8 _ (zs4 (zs4 (zs1 (zs0))))))) (fun _ h9 => h9) rfl (by decide +kernel) rfl rfl (okI rfl (iv_w ln_0 (by decide))) dX10_read_2 (fun H locs E2 pw3 hI hP hS => ?_)
  have hKp := hKp.pw pw3 rfl
  refine lv_aload_n hx hb dX10_read_5 rfl (lv_at hl 0 rfl) ?_
  refine lv_iconst (v := -1) hx hb dX10_read_6 (by decide) ?_
  refine th_putL (ci := 11) (C := RX10) (T := TX10) (N := 10) (v := .int (-1)) (ty := .int) hx hb hts hinX10 tyX10 tyX10_ok nmX10 hown hK hP (WL_D hD) hS hI 2 (mF 2 rfl) rfl rfl 3 (Nat.le_of_ble_eq_true rfl) (hts _ (vA_in _ _ (in_8 _ (zs4 (zs4 (zs0)))))) (fun _ h9 => h9) rfl (by decide +kernel) rfl rfl (okI rfl (iv_w ln_m1 (by decide))) dX10_read_7 (fun H locs E4 pw5 hI hP hS => ?_)
  have hKp := hKp.pw pw5 rfl
  refine lv_aload_n hx hb dX10_read_10 rfl (lv_at hl 0 rfl) ?_
  refine lv_iconst (v := 0) hx hb dX10_read_11 (by decide) ?_
  refine th_putL (ci := 11) (C := RX10) (T := TX10) (N := 10) (v := .int 0) (ty := .int) hx hb hts hinX10 tyX10 tyX10_ok nmX10 hown hK hP (WL_D hD) hS hI 2 (mF 2 rfl) rfl rfl 5 (Nat.le_of_ble_eq_true rfl) (hts _ (vA_in _ _ (in_7 _ (zs16 (zs4 (zs4 (zs4 (zs1 (zs1 (zs0)))))))))) (fun _ h9 => h9) rfl (by decide +kernel) rfl rfl (okI rfl (iv_w ln_0 (by decide))) dX10_read_12 (fun H locs E6 pw7 hI hP hS => ?_)
  have hKp := hKp.pw pw7 rfl
  refine lv_aload_n hx hb dX10_read_15 rfl (lv_at hl 0 rfl) ?_
  refine lv_iconst (v := 0) hx hb dX10_read_16 (by decide) ?_
  refine th_putL (ci := 11) (C := RX10) (T := TX10) (N := 10) (v := .int 0) (ty := .int) hx hb hts hinX10 tyX10 tyX10_ok nmX10 hown hK hP (WL_D hD) hS hI 2 (mF 2 rfl) rfl rfl 9 (Nat.le_of_ble_eq_true rfl) (hts _ (vA_in _ _ (in_7 _ (zs16 (zs16 (zs4 (zs0))))))) (fun _ h9 => h9) rfl (by decide +kernel) rfl rfl (okI rfl (iv_w ln_0 (by decide))) dX10_read_17 (fun H locs E8 pw9 hI hP hS => ?_)
  have hKp := hKp.pw pw9 rfl
  have kts : TS E E8 := TS.kp hKp (fun _ => rfl) rfl
  have kf0 : tF E8 = -1 := by show (xi (E8 2) 3).toInt = -1; rw [show xi (E8 2) 3 = (-1 : Int32) from vi_e ((pw9.2 2 3 (fun q9 => absurd q9.2 (Nat.ne_of_beq_eq_false rfl))).trans ((pw7.2 2 3 (fun q9 => absurd q9.2 (Nat.ne_of_beq_eq_false rfl))).trans pw5.1))]; rfl
  have ka0 : tA E8 = 0 := by show (xi (E8 2) 2).toNatClampNeg = 0; rw [show xi (E8 2) 2 = (0 : Int32) from vi_e ((pw9.2 2 2 (fun q9 => absurd q9.2 (Nat.ne_of_beq_eq_false rfl))).trans ((pw7.2 2 2 (fun q9 => absurd q9.2 (Nat.ne_of_beq_eq_false rfl))).trans ((pw5.2 2 2 (fun q9 => absurd q9.2 (Nat.ne_of_beq_eq_false rfl))).trans pw3.1)))]; rfl
  have kc0 : ClO (0 : Int32) E8 := fun _ => by have z0 : (0 : Int32).toInt = 0 := rfl; omega
  refine lv_aload_n hx hb dX10_read_20 rfl (lv_at hl 0 rfl) ?_
  obtain ⟨g10, hg10⟩ : ∃ g, xi (E8 24) = g := ⟨_, rfl⟩
  obtain ⟨g11, hg11⟩ : ∃ g, xi (E8 25) = g := ⟨_, rfl⟩
  have z0 := ln_0
  refine th_vL (va_runV (As := []) (rest := []) ⟨hx, hb, hml, hown, hts⟩ (q_readClauseX l dC dI cT cf hC ad E8 H.size hI (by (try rw [(show xi (E8 2) 5 = (0 : Int32) from vi_e ((pw9.2 2 5 (fun q9 => absurd q9.2 (Nat.ne_of_beq_eq_false rfl))).trans pw7.1))]); (try rw [(show xi (E8 2) 9 = (0 : Int32) from vi_e pw9.1)]); (try rw [show xi (E8 24) = g10 from hg10]); (try rw [show xi (E8 25) = g11 from hg11]); (try rw [show xi (E8 2) 9 = (0 : Int32) from vi_e pw9.1]); (try rw [show xi (E8 2) 5 = (0 : Int32) from vi_e ((pw9.2 2 5 (fun q9 => absurd q9.2 (Nat.ne_of_beq_eq_false rfl))).trans pw7.1)]); exact TPok_0) (by (try rw [(show xi (E8 2) 9 = (0 : Int32) from vi_e pw9.1)]); (try rw [show xi (E8 24) = g10 from hg10]); (try rw [show xi (E8 25) = g11 from hg11]); (try rw [show xi (E8 2) 9 = (0 : Int32) from vi_e pw9.1]); (try rw [show xi (E8 2) 5 = (0 : Int32) from vi_e ((pw9.2 2 5 (fun q9 => absurd q9.2 (Nat.ne_of_beq_eq_false rfl))).trans pw7.1)]); exact kc0)) (cwV 0 hts (gi_V (in_8 _ (zs16 (zs4 (zs1 (zs1 (zs1 (zs0))))))) (in_8 _ (zs16 (zs4 (zs4 (zs0))))) (in_8 _ (zs16 (zs4 (zs4 (zs1 (zs0)))))) (in_8 _ (zs4 (zs4 (zs4 (zs1 (zs1 (zs0))))))) (in_8 _ (zs16 (zs4 (zs4 (zs1 (zs1 (zs0)))))))) rfl rfl rfl ⟨rfl, hz_yX10_readClause_0⟩ ⟨Nat.le_of_ble_eq_true rfl, Nat.le_of_ble_eq_true rfl⟩) ⟨HWL_bl, va_recv hK hP (ci := 11) (q0 := posL 2 (LC cf)) rfl (hI.ob 2 (mF 2 rfl) rfl), (HWL_wi hP hK (WL_D hD) hS hA hEV)⟩ rfl rfl hl.1 rfl (lv_room (Nat.le_of_ble_eq_true rfl)) dX10_read_21 ⟨Nat.le_of_ble_eq_true rfl, Nat.le_of_ble_eq_true rfl⟩) (WL_D hD) hS hA (fun E13 H locs hw hP hS => ?_)
  obtain ⟨hI, kq14, hw⟩ := hw
  have hKb := hKp
  have hKp := hKp.tr kq14 (wl_sub rfl rfl)
  obtain ⟨y15, ey15⟩ : ∃ y, xi (E13 2) 5 = y := ⟨_, rfl⟩
  have fy15 : xv (E13 2) 5 = .int y15 := (hI.fi 2 (mF 2 rfl) rfl (Nat.le_of_ble_eq_true rfl) rfl).trans (congrArg Value.int ey15)
  have i16 : 0 ≤ y15.toInt ∧ y15.toInt ≤ 200 := by rw [← ey15]; exact hI.iv 2 (mF 2 rfl) rfl (Nat.le_of_ble_eq_true rfl) rfl
  obtain ⟨y17, ey17⟩ : ∃ y, xi (E13 2) 9 = y := ⟨_, rfl⟩
  have fy17 : xv (E13 2) 9 = .int y17 := (hI.fi 2 (mF 2 rfl) rfl (Nat.le_of_ble_eq_true rfl) rfl).trans (congrArg Value.int ey17)
  have i18 : 0 ≤ y17.toInt ∧ y17.toInt ≤ 51 := by rw [← ey17]; exact hI.iv 2 (mF 2 rfl) rfl (Nat.le_of_ble_eq_true rfl) rfl
  obtain ⟨f19, f20, f21, f22⟩ := hw
  try rw [(show xi (E8 2) 5 = (0 : Int32) from vi_e ((pw9.2 2 5 (fun q9 => absurd q9.2 (Nat.ne_of_beq_eq_false rfl))).trans pw7.1))] at f19
  try rw [(show xi (E13 2) 5 = y15 from vi_e fy15)] at f19
  try rw [(show xi (E8 2) 5 = (0 : Int32) from vi_e ((pw9.2 2 5 (fun q9 => absurd q9.2 (Nat.ne_of_beq_eq_false rfl))).trans pw7.1))] at f20
  try rw [(show xi (E8 2) 9 = (0 : Int32) from vi_e pw9.1)] at f20
  try rw [(show xi (E13 2) 5 = y15 from vi_e fy15)] at f20
  try rw [(show xi (E13 2) 9 = y17 from vi_e fy17)] at f20
  try rw [(show xi (E8 2) 9 = (0 : Int32) from vi_e pw9.1)] at f22
  try rw [(show xi (E13 2) 9 = y17 from vi_e fy17)] at f22
  obtain ⟨g23, hg23⟩ : ∃ g, xi (E13 24) = g := ⟨_, rfl⟩
  obtain ⟨g24, hg24⟩ : ∃ g, xi (E13 25) = g := ⟨_, rfl⟩
  try rw [show xi (E13 24) = g23 from hg23] at f20
  try rw [show xi (E13 25) = g24 from hg24] at f20
  try rw [show xi (E13 2) 9 = y17 from vi_e fy17] at f20
  try rw [show xi (E13 2) 5 = y15 from vi_e fy15] at f20
  have hf20 : TPok g23 g24 y17 y15 := f20
  have k25 : ClI y17 E13 := ClI.of kc0 f22 f21
  refine lv_iconst (v := 0) hx hb dX10_read_24 (by decide) ?_
  refine lv_istore_n (lv' := [(1, .int 0), (0, .ref (ad 2))]) hx hb dX10_read_25 rfl hl (by decide) rfl (fun ls hl => ?_)
  have hL26 : ∀ d : Nat, ∀ (w26_2_9 : Int32) (w26_2_5 : Int32) (g26_24 : Nat → Int32) (g26_25 : Nat → Int32) (v26_1 : Int32) (E26_ : Nat → va_E) (H : Heap) (locs : List Loc) (ls : Array Slot), 0 ≤ w26_2_9.toInt ∧ w26_2_9.toInt ≤ 51 → 0 ≤ w26_2_5.toInt ∧ w26_2_5.toInt ≤ 200 → 0 ≤ v26_1.toInt ∧ v26_1.toInt ≤ 200 → TPok g26_24 g26_25 w26_2_9 w26_2_5 → Lp (fun t m a => textL false t m a) (fun t m => opL t m isSem cbC (clauseS false t m)) v26_1.toInt E8 E26_ → ClI w26_2_9 E26_ → 200 - v26_1.toInt < (d : Int) → IXL cT (shC cf) (spC cf) (LC cf) ad E26_ → Kp w_readX E E26_ → xv (E26_ 2) 9 = .int w26_2_9 → xv (E26_ 2) 5 = .int w26_2_5 → xi (E26_ 24) = g26_24 → xi (E26_ 25) = g26_25 → va_P (dC, dI) vwCl (WL (LC cf) ad E26_) H → va_S A s.heap H locs → lv_has ls 2 [(1, .int v26_1), (0, .ref (ad 2))] → W p l e (headSpec v_readX rm_readX).room s m args below meth c H locs 0 0 Q (F0 m 26 ls []) := by
    intro d
    induction d with
    | zero =>
      intro w26_2_9 w26_2_5 g26_24 g26_25 v26_1 E26_ H locs ls hw26_2_9 hw26_2_5 hv26_1 hx26_0 hx26_1 hx26_2 hx26_3 hI hKp hs26_2_9 hs26_2_5 hr26_24 hr26_25 hP hS hl
      exact absurd hx26_3 (by first | exact ms_zu hv26_1.2 | omega)
    | succ d ih26 =>
      intro w26_2_9 w26_2_5 g26_24 g26_25 v26_1 E26_ H locs ls hw26_2_9 hw26_2_5 hv26_1 hx26_0 hx26_1 hx26_2 hx26_3 hI hKp hs26_2_9 hs26_2_5 hr26_24 hr26_25 hP hS hl
      refine lv_iload_n hx hb dX10_read_26 rfl (lv_at hl 0 rfl) ?_
      refine lv_sipush (v := 200) hx hb dX10_read_27 (by decide) ?_
      refine lv_icmp_ge (tgt := 62) hx hb dX10_read_30 (by decide) (fun c26 => ?_) (fun c26 => ?_)
      · --30 taken
        have t27 : (200 : Int) ≤ v26_1.toInt := ti_le c26
        have i28 : 200 ≤ v26_1.toInt ∧ v26_1.toInt ≤ 200 := iv_le_r t27 (il_ 200) hv26_1 (by decide)
        have k29 : RdC (fun t m a => textL false t m a) E8 E26_ := Lp.fin (op := isSem) hx26_1 (by rw [kts.2]; have kl := tN_e (E := E) (by omega); omega) rfl (fun t m a c h => opL_0 h)
        refine lv_aload_n hx hb dX10_read_62 rfl (lv_at hl 1 rfl) ?_
        refine th_iL (va_runV (As := []) (rest := []) ⟨hx, hb, hml, hown, hts⟩ (q_nextX l dC dI cT cf hC ad E26_ H.size hI) (cwV 0 hts (gi_V (in_8 _ (zs16 (zs4 (zs4 (zs1 (zs1 (zs1 (zs0)))))))) (in_8 _ (zs16 (zs4 (zs4 (zs4 (zs0)))))) (in_8 _ (zs16 (zs4 (zs4 (zs4 (zs1 (zs0))))))) (in_8 _ (zs4 (zs4 (zs4 (zs1 (zs1 (zs0))))))) (in_8 _ (zs16 (zs1 (zs1 (zs1 (zs0))))))) rfl rfl rfl ⟨rfl, hz_yX10_next_0⟩ ⟨Nat.le_of_ble_eq_true rfl, Nat.le_of_ble_eq_true rfl⟩) ⟨HWL_bl, va_recv hK hP (ci := 11) (q0 := posL 2 (LC cf)) rfl (hI.ob 2 (mF 2 rfl) rfl), (HWL_wi hP hK (WL_D hD) hS hA hEV)⟩ rfl rfl hl.1 rfl (lv_room (Nat.le_of_ble_eq_true rfl)) dX10_read_63 ⟨Nat.le_of_ble_eq_true rfl, Nat.le_of_ble_eq_true rfl⟩) (WL_D hD) hS hA (fun r30 E31 H locs hw hP hS => ?_)
        obtain ⟨hI, kq32, hw⟩ := hw
        have hKb := hKp
        have hKp := hKp.tr kq32 (wl_sub rfl rfl)
        obtain ⟨y33, ey33⟩ : ∃ y, xi (E31 2) 2 = y := ⟨_, rfl⟩
        have fy33 : xv (E31 2) 2 = .int y33 := (hI.fi 2 (mF 2 rfl) rfl (Nat.le_of_ble_eq_true rfl) rfl).trans (congrArg Value.int ey33)
        have i34 : 0 ≤ y33.toInt ∧ y33.toInt ≤ 200 := by rw [← ey33]; exact hI.iv 2 (mF 2 rfl) rfl (Nat.le_of_ble_eq_true rfl) rfl
        obtain ⟨f35, f36, f37⟩ := hw
        try rw [hKb.ei 2 1 rfl] at f36
        try rw [(show xi (E31 2) 2 = y33 from vi_e fy33)] at f36
        refine lv_iconst (v := -1) hx hb dX10_read_66 (by decide) ?_
        refine lv_icmp_eq (tgt := 74) hx hb dX10_read_67 (by decide) (fun c38 => ?_) (fun c38 => ?_)
        · --67 taken
          have t39 : r30.toInt = -1 := ti_eq c38
          have i40 : -1 ≤ r30.toInt ∧ r30.toInt ≤ -1 := iv_eqi t39 f35 (il_ (-1)) (by decide)
          refine lv_aload_n hx hb dX10_read_74 rfl (lv_at hl 1 rfl) ?_
          refine th_getL (ci := 11) (C := RX10) (T := TX10) (N := 10) (v := .ref (ad 24)) hx hb hts hinX10 hown hK hP hI 2 (mF 2 rfl) rfl rfl 7 (Nat.le_of_ble_eq_true rfl) (hts _ (vA_in _ _ (in_7 _ (zs16 (zs16 (zs4 (zs1 (zs0)))))))) (fun _ h9 => h9) (hI.fr 2 (mF 2 rfl) rfl (Nat.le_of_ble_eq_true rfl) 24 rfl) dX10_read_75 ?_
          refine lv_aload_n hx hb dX10_read_78 rfl (lv_at hl 1 rfl) ?_
          refine th_getL (ci := 11) (C := RX10) (T := TX10) (N := 10) (v := .int w26_2_9) hx hb hts hinX10 hown hK hP hI 2 (mF 2 rfl) rfl rfl 9 (Nat.le_of_ble_eq_true rfl) (hts _ (vA_in _ _ (in_7 _ (zs16 (zs16 (zs4 (zs0))))))) (fun _ h9 => h9) ((kq32 2 9 rfl).trans hs26_2_9) dX10_read_79 ?_
          refine lv_aload_n hx hb dX10_read_82 rfl (lv_at hl 1 rfl) ?_
          refine th_getL (ci := 11) (C := RX10) (T := TX10) (N := 10) (v := .int w26_2_5) hx hb hts hinX10 hown hK hP hI 2 (mF 2 rfl) rfl rfl 5 (Nat.le_of_ble_eq_true rfl) (hts _ (vA_in _ _ (in_7 _ (zs16 (zs4 (zs4 (zs4 (zs1 (zs1 (zs0)))))))))) (fun _ h9 => h9) ((kq32 2 5 rfl).trans hs26_2_5) dX10_read_83 ?_
          have n41 : vp_in w26_2_9 52 := (iv_in (n := 52) hw26_2_9 (by decide))
          refine th_iastL hx hb hK hP (WL_D hD) hS hI 24 (mF 24 rfl) rfl rfl n41 (okI rfl hw26_2_5) dX10_read_86 (fun H locs E42 pw43 hI hP hS => ?_)
          have hKp := hKp.pw pw43 rfl
          obtain ⟨g44, eg44⟩ : ∃ z : Nat → Int32, z = upd g26_24 w26_2_9.toNatClampNeg w26_2_5 := ⟨_, rfl⟩
          have hg44 : xi (E42 24) = g44 := by rw [pw43.eu, ((kq32.ef 24 (fun _ => rfl)).trans hr26_24), eg44]
          have k45 : KS E31 E42 := KS.pw pw43.2 (by decide) (fun q => absurd q (by decide))
          refine lv_aload_n hx hb dX10_read_87 rfl (lv_at hl 1 rfl) ?_
          obtain ⟨y46, ey46⟩ : ∃ y, xi (E42 2) 3 = y := ⟨_, rfl⟩
          have fy46 : xv (E42 2) 3 = .int y46 := (hI.fi 2 (mF 2 rfl) rfl (Nat.le_of_ble_eq_true rfl) rfl).trans (congrArg Value.int ey46)
          have i47 : -1 ≤ y46.toInt ∧ y46.toInt ≤ 200 := by rw [← ey46]; exact hI.iv 2 (mF 2 rfl) rfl (Nat.le_of_ble_eq_true rfl) rfl
          refine th_getL (ci := 11) (C := RX10) (T := TX10) (N := 10) (v := .int y46) hx hb hts hinX10 hown hK hP hI 2 (mF 2 rfl) rfl rfl 3 (Nat.le_of_ble_eq_true rfl) (hts _ (vA_in _ _ (in_8 _ (zs4 (zs4 (zs0)))))) (fun _ h9 => h9) fy46 dX10_read_88 ?_
          rw [hQ]
          exact W.iret (v := y46) hx hb hr (fun t ht hW => ⟨⟨y46, E42, rfl, ⟨hI, hKp, ⟨i47, by (try rw [show xi (E42 24) = g44 from hg44]); (try rw [show xi (E42 25) = g26_25 from ((pw43.ef 25 (Nat.ne_of_beq_eq_false rfl)).trans ((kq32.ef 25 (fun _ => rfl)).trans hr26_25))]); (try rw [show xi (E42 2) 9 = w26_2_9 from vi_e ((pw43.2 2 9 (fun q9 => absurd q9.1 (Nat.ne_of_beq_eq_false rfl))).trans ((kq32 2 9 rfl).trans hs26_2_9))]); (try rw [show xi (E42 2) 5 = w26_2_5 from vi_e ((pw43.2 2 5 (fun q9 => absurd q9.1 (Nat.ne_of_beq_eq_false rfl))).trans ((kq32 2 5 rfl).trans hs26_2_5))]); exact ⟨fun k hk => by rw [eg44, pk_un (by rw [tn_]; omega)]; exact hx26_0 k hk, by rw [eg44, pk_us]; omega⟩, (flt_ok kts kf0 ka0 k29 f37 (by omega)).ks k45, (by show _ = (xi (E42 2) 3).toInt; rw [show xi (E42 2) 3 = y46 from vi_e fy46])⟩⟩, by show va_P (dC, dI) vwCl (WL (LC cf) ad E42) t.heap; rw [ht]; exact hP⟩, hS.F ht⟩) hS.2.2 dX10_read_91
        · --67 not
          have t48 : ¬ r30.toInt = -1 := ti_ne c38
          refine lv_aload_n hx hb dX10_read_70 rfl (lv_at hl 1 rfl) ?_
          refine th_vL (va_runV (As := []) (rest := []) ⟨hx, hb, hml, hown, hts⟩ (q_failX l dC dI cT cf hC ad E31 H.size hI) (cwV 0 hts (gi_V (in_8 _ (zs4 (zs4 (zs1 (zs1 (zs1 (zs0))))))) (in_8 _ (zs4 (zs4 (zs4 (zs0))))) (in_8 _ (zs4 (zs4 (zs4 (zs1 (zs0)))))) (in_8 _ (zs4 (zs4 (zs4 (zs1 (zs1 (zs0))))))) (in_8 _ (zs4 (zs1 (zs1 (zs1 (zs0))))))) rfl rfl rfl ⟨rfl, hz_yX10_fail_0⟩ ⟨Nat.le_of_ble_eq_true rfl, Nat.le_of_ble_eq_true rfl⟩) ⟨HWL_bl, va_recv hK hP (ci := 11) (q0 := posL 2 (LC cf)) rfl (hI.ob 2 (mF 2 rfl) rfl), (HWL_wi hP hK (WL_D hD) hS hA hEV)⟩ rfl rfl hl.1 rfl (lv_room (Nat.le_of_ble_eq_true rfl)) dX10_read_71 ⟨Nat.le_of_ble_eq_true rfl, Nat.le_of_ble_eq_true rfl⟩) (WL_D hD) hS hA (fun E50 H locs hw hP hS => ?_)
          obtain ⟨hI, kq51, hw⟩ := hw
          have hKb := hKp
          have hKp := hKp.tr kq51 (wl_sub rfl rfl)
          have f52 := hw
          refine lv_aload_n hx hb dX10_read_74 rfl (lv_at hl 1 rfl) ?_
          refine th_getL (ci := 11) (C := RX10) (T := TX10) (N := 10) (v := .ref (ad 24)) hx hb hts hinX10 hown hK hP hI 2 (mF 2 rfl) rfl rfl 7 (Nat.le_of_ble_eq_true rfl) (hts _ (vA_in _ _ (in_7 _ (zs16 (zs16 (zs4 (zs1 (zs0)))))))) (fun _ h9 => h9) (hI.fr 2 (mF 2 rfl) rfl (Nat.le_of_ble_eq_true rfl) 24 rfl) dX10_read_75 ?_
          refine lv_aload_n hx hb dX10_read_78 rfl (lv_at hl 1 rfl) ?_
          refine th_getL (ci := 11) (C := RX10) (T := TX10) (N := 10) (v := .int w26_2_9) hx hb hts hinX10 hown hK hP hI 2 (mF 2 rfl) rfl rfl 9 (Nat.le_of_ble_eq_true rfl) (hts _ (vA_in _ _ (in_7 _ (zs16 (zs16 (zs4 (zs0))))))) (fun _ h9 => h9) ((kq51 2 9 rfl).trans ((kq32 2 9 rfl).trans hs26_2_9)) dX10_read_79 ?_
          refine lv_aload_n hx hb dX10_read_82 rfl (lv_at hl 1 rfl) ?_
          refine th_getL (ci := 11) (C := RX10) (T := TX10) (N := 10) (v := .int w26_2_5) hx hb hts hinX10 hown hK hP hI 2 (mF 2 rfl) rfl rfl 5 (Nat.le_of_ble_eq_true rfl) (hts _ (vA_in _ _ (in_7 _ (zs16 (zs4 (zs4 (zs4 (zs1 (zs1 (zs0)))))))))) (fun _ h9 => h9) ((kq51 2 5 rfl).trans ((kq32 2 5 rfl).trans hs26_2_5)) dX10_read_83 ?_
          have n53 : vp_in w26_2_9 52 := (iv_in (n := 52) hw26_2_9 (by decide))
          refine th_iastL hx hb hK hP (WL_D hD) hS hI 24 (mF 24 rfl) rfl rfl n53 (okI rfl hw26_2_5) dX10_read_86 (fun H locs E54 pw55 hI hP hS => ?_)
          have hKp := hKp.pw pw55 rfl
          obtain ⟨g56, eg56⟩ : ∃ z : Nat → Int32, z = upd g26_24 w26_2_9.toNatClampNeg w26_2_5 := ⟨_, rfl⟩
          have hg56 : xi (E54 24) = g56 := by rw [pw55.eu, ((kq51.ef 24 (fun _ => rfl)).trans ((kq32.ef 24 (fun _ => rfl)).trans hr26_24)), eg56]
          have k57 : KS E50 E54 := KS.pw pw55.2 (by decide) (fun q => absurd q (by decide))
          refine lv_aload_n hx hb dX10_read_87 rfl (lv_at hl 1 rfl) ?_
          obtain ⟨y58, ey58⟩ : ∃ y, xi (E54 2) 3 = y := ⟨_, rfl⟩
          have fy58 : xv (E54 2) 3 = .int y58 := (hI.fi 2 (mF 2 rfl) rfl (Nat.le_of_ble_eq_true rfl) rfl).trans (congrArg Value.int ey58)
          have i59 : -1 ≤ y58.toInt ∧ y58.toInt ≤ 200 := by rw [← ey58]; exact hI.iv 2 (mF 2 rfl) rfl (Nat.le_of_ble_eq_true rfl) rfl
          refine th_getL (ci := 11) (C := RX10) (T := TX10) (N := 10) (v := .int y58) hx hb hts hinX10 hown hK hP hI 2 (mF 2 rfl) rfl rfl 3 (Nat.le_of_ble_eq_true rfl) (hts _ (vA_in _ _ (in_8 _ (zs4 (zs4 (zs0)))))) (fun _ h9 => h9) fy58 dX10_read_88 ?_
          rw [hQ]
          exact W.iret (v := y58) hx hb hr (fun t ht hW => ⟨⟨y58, E54, rfl, ⟨hI, hKp, ⟨i59, by (try rw [show xi (E54 24) = g56 from hg56]); (try rw [show xi (E54 25) = g26_25 from ((pw55.ef 25 (Nat.ne_of_beq_eq_false rfl)).trans ((kq51.ef 25 (fun _ => rfl)).trans ((kq32.ef 25 (fun _ => rfl)).trans hr26_25)))]); (try rw [show xi (E54 2) 9 = w26_2_9 from vi_e ((pw55.2 2 9 (fun q9 => absurd q9.1 (Nat.ne_of_beq_eq_false rfl))).trans ((kq51 2 9 rfl).trans ((kq32 2 9 rfl).trans hs26_2_9)))]); (try rw [show xi (E54 2) 5 = w26_2_5 from vi_e ((pw55.2 2 5 (fun q9 => absurd q9.1 (Nat.ne_of_beq_eq_false rfl))).trans ((kq51 2 5 rfl).trans ((kq32 2 5 rfl).trans hs26_2_5)))]); exact ⟨fun k hk => by rw [eg56, pk_un (by rw [tn_]; omega)]; exact hx26_0 k hk, by rw [eg56, pk_us]; omega⟩, (flt_no kts kf0 ka0 k29 f37 (by omega) f52).ks k57, (by show _ = (xi (E54 2) 3).toInt; rw [show xi (E54 2) 3 = y58 from vi_e fy58])⟩⟩, by show va_P (dC, dI) vwCl (WL (LC cf) ad E54) t.heap; rw [ht]; exact hP⟩, hS.F ht⟩) hS.2.2 dX10_read_91
      · --30 not
        have t60 : v26_1.toInt < 200 := ti_nle c26
        have i61 : 0 ≤ v26_1.toInt ∧ v26_1.toInt ≤ 199 := iv_lt_l t60 hv26_1 (il_ 200) (by decide)
        refine lv_aload_n hx hb dX10_read_33 rfl (lv_at hl 1 rfl) ?_
        refine th_iL (va_runV (As := []) (rest := []) ⟨hx, hb, hml, hown, hts⟩ (q_nextX l dC dI cT cf hC ad E26_ H.size hI) (cwV 0 hts (gi_V (in_8 _ (zs16 (zs4 (zs4 (zs1 (zs1 (zs1 (zs0)))))))) (in_8 _ (zs16 (zs4 (zs4 (zs4 (zs0)))))) (in_8 _ (zs16 (zs4 (zs4 (zs4 (zs1 (zs0))))))) (in_8 _ (zs4 (zs4 (zs4 (zs1 (zs1 (zs0))))))) (in_8 _ (zs16 (zs1 (zs1 (zs1 (zs0))))))) rfl rfl rfl ⟨rfl, hz_yX10_next_0⟩ ⟨Nat.le_of_ble_eq_true rfl, Nat.le_of_ble_eq_true rfl⟩) ⟨HWL_bl, va_recv hK hP (ci := 11) (q0 := posL 2 (LC cf)) rfl (hI.ob 2 (mF 2 rfl) rfl), (HWL_wi hP hK (WL_D hD) hS hA hEV)⟩ rfl rfl hl.1 rfl (lv_room (Nat.le_of_ble_eq_true rfl)) dX10_read_34 ⟨Nat.le_of_ble_eq_true rfl, Nat.le_of_ble_eq_true rfl⟩) (WL_D hD) hS hA (fun r62 E63 H locs hw hP hS => ?_)
        obtain ⟨hI, kq64, hw⟩ := hw
        have hKb := hKp
        have hKp := hKp.tr kq64 (wl_sub rfl rfl)
        obtain ⟨y65, ey65⟩ : ∃ y, xi (E63 2) 2 = y := ⟨_, rfl⟩
        have fy65 : xv (E63 2) 2 = .int y65 := (hI.fi 2 (mF 2 rfl) rfl (Nat.le_of_ble_eq_true rfl) rfl).trans (congrArg Value.int ey65)
        have i66 : 0 ≤ y65.toInt ∧ y65.toInt ≤ 200 := by rw [← ey65]; exact hI.iv 2 (mF 2 rfl) rfl (Nat.le_of_ble_eq_true rfl) rfl
        obtain ⟨f67, f68, f69⟩ := hw
        try rw [hKb.ei 2 1 rfl] at f68
        try rw [(show xi (E63 2) 2 = y65 from vi_e fy65)] at f68
        refine lv_bipush (v := 59) hx hb dX10_read_37 (by decide) ?_
        refine lv_icmp_ne (tgt := 62) hx hb dX10_read_39 (by decide) (fun c70 => ?_) (fun c70 => ?_)
        · --39 taken
          have t71 : ¬ r62.toInt = 59 := ti_ne c70
          have k72 : RdC (fun t m a => textL false t m a) E8 E63 := Lp.exit (op := isSem) hx26_1 f69 (fun q9 => by have q8 := is_sem.mp q9; omega) (fun t m a c h => opL_0 h)
          refine lv_aload_n hx hb dX10_read_62 rfl (lv_at hl 1 rfl) ?_
          refine th_iL (va_runV (As := []) (rest := []) ⟨hx, hb, hml, hown, hts⟩ (q_nextX l dC dI cT cf hC ad E63 H.size hI) (cwV 0 hts (gi_V (in_8 _ (zs16 (zs4 (zs4 (zs1 (zs1 (zs1 (zs0)))))))) (in_8 _ (zs16 (zs4 (zs4 (zs4 (zs0)))))) (in_8 _ (zs16 (zs4 (zs4 (zs4 (zs1 (zs0))))))) (in_8 _ (zs4 (zs4 (zs4 (zs1 (zs1 (zs0))))))) (in_8 _ (zs16 (zs1 (zs1 (zs1 (zs0))))))) rfl rfl rfl ⟨rfl, hz_yX10_next_0⟩ ⟨Nat.le_of_ble_eq_true rfl, Nat.le_of_ble_eq_true rfl⟩) ⟨HWL_bl, va_recv hK hP (ci := 11) (q0 := posL 2 (LC cf)) rfl (hI.ob 2 (mF 2 rfl) rfl), (HWL_wi hP hK (WL_D hD) hS hA hEV)⟩ rfl rfl hl.1 rfl (lv_room (Nat.le_of_ble_eq_true rfl)) dX10_read_63 ⟨Nat.le_of_ble_eq_true rfl, Nat.le_of_ble_eq_true rfl⟩) (WL_D hD) hS hA (fun r73 E74 H locs hw hP hS => ?_)
          obtain ⟨hI, kq75, hw⟩ := hw
          have hKb := hKp
          have hKp := hKp.tr kq75 (wl_sub rfl rfl)
          obtain ⟨y76, ey76⟩ : ∃ y, xi (E74 2) 2 = y := ⟨_, rfl⟩
          have fy76 : xv (E74 2) 2 = .int y76 := (hI.fi 2 (mF 2 rfl) rfl (Nat.le_of_ble_eq_true rfl) rfl).trans (congrArg Value.int ey76)
          have i77 : 0 ≤ y76.toInt ∧ y76.toInt ≤ 200 := by rw [← ey76]; exact hI.iv 2 (mF 2 rfl) rfl (Nat.le_of_ble_eq_true rfl) rfl
          obtain ⟨f78, f79, f80⟩ := hw
          try rw [hKb.ei 2 1 rfl] at f79
          try rw [(show xi (E74 2) 2 = y76 from vi_e fy76)] at f79
          refine lv_iconst (v := -1) hx hb dX10_read_66 (by decide) ?_
          refine lv_icmp_eq (tgt := 74) hx hb dX10_read_67 (by decide) (fun c81 => ?_) (fun c81 => ?_)
          · --67 taken
            have t82 : r73.toInt = -1 := ti_eq c81
            have i83 : -1 ≤ r73.toInt ∧ r73.toInt ≤ -1 := iv_eqi t82 f78 (il_ (-1)) (by decide)
            refine lv_aload_n hx hb dX10_read_74 rfl (lv_at hl 1 rfl) ?_
            refine th_getL (ci := 11) (C := RX10) (T := TX10) (N := 10) (v := .ref (ad 24)) hx hb hts hinX10 hown hK hP hI 2 (mF 2 rfl) rfl rfl 7 (Nat.le_of_ble_eq_true rfl) (hts _ (vA_in _ _ (in_7 _ (zs16 (zs16 (zs4 (zs1 (zs0)))))))) (fun _ h9 => h9) (hI.fr 2 (mF 2 rfl) rfl (Nat.le_of_ble_eq_true rfl) 24 rfl) dX10_read_75 ?_
            refine lv_aload_n hx hb dX10_read_78 rfl (lv_at hl 1 rfl) ?_
            refine th_getL (ci := 11) (C := RX10) (T := TX10) (N := 10) (v := .int w26_2_9) hx hb hts hinX10 hown hK hP hI 2 (mF 2 rfl) rfl rfl 9 (Nat.le_of_ble_eq_true rfl) (hts _ (vA_in _ _ (in_7 _ (zs16 (zs16 (zs4 (zs0))))))) (fun _ h9 => h9) ((kq75 2 9 rfl).trans ((kq64 2 9 rfl).trans hs26_2_9)) dX10_read_79 ?_
            refine lv_aload_n hx hb dX10_read_82 rfl (lv_at hl 1 rfl) ?_
            refine th_getL (ci := 11) (C := RX10) (T := TX10) (N := 10) (v := .int w26_2_5) hx hb hts hinX10 hown hK hP hI 2 (mF 2 rfl) rfl rfl 5 (Nat.le_of_ble_eq_true rfl) (hts _ (vA_in _ _ (in_7 _ (zs16 (zs4 (zs4 (zs4 (zs1 (zs1 (zs0)))))))))) (fun _ h9 => h9) ((kq75 2 5 rfl).trans ((kq64 2 5 rfl).trans hs26_2_5)) dX10_read_83 ?_
            have n84 : vp_in w26_2_9 52 := (iv_in (n := 52) hw26_2_9 (by decide))
            refine th_iastL hx hb hK hP (WL_D hD) hS hI 24 (mF 24 rfl) rfl rfl n84 (okI rfl hw26_2_5) dX10_read_86 (fun H locs E85 pw86 hI hP hS => ?_)
            have hKp := hKp.pw pw86 rfl
            obtain ⟨g87, eg87⟩ : ∃ z : Nat → Int32, z = upd g26_24 w26_2_9.toNatClampNeg w26_2_5 := ⟨_, rfl⟩
            have hg87 : xi (E85 24) = g87 := by rw [pw86.eu, ((kq75.ef 24 (fun _ => rfl)).trans ((kq64.ef 24 (fun _ => rfl)).trans hr26_24)), eg87]
            have k88 : KS E74 E85 := KS.pw pw86.2 (by decide) (fun q => absurd q (by decide))
            refine lv_aload_n hx hb dX10_read_87 rfl (lv_at hl 1 rfl) ?_
            obtain ⟨y89, ey89⟩ : ∃ y, xi (E85 2) 3 = y := ⟨_, rfl⟩
            have fy89 : xv (E85 2) 3 = .int y89 := (hI.fi 2 (mF 2 rfl) rfl (Nat.le_of_ble_eq_true rfl) rfl).trans (congrArg Value.int ey89)
            have i90 : -1 ≤ y89.toInt ∧ y89.toInt ≤ 200 := by rw [← ey89]; exact hI.iv 2 (mF 2 rfl) rfl (Nat.le_of_ble_eq_true rfl) rfl
            refine th_getL (ci := 11) (C := RX10) (T := TX10) (N := 10) (v := .int y89) hx hb hts hinX10 hown hK hP hI 2 (mF 2 rfl) rfl rfl 3 (Nat.le_of_ble_eq_true rfl) (hts _ (vA_in _ _ (in_8 _ (zs4 (zs4 (zs0)))))) (fun _ h9 => h9) fy89 dX10_read_88 ?_
            rw [hQ]
            exact W.iret (v := y89) hx hb hr (fun t ht hW => ⟨⟨y89, E85, rfl, ⟨hI, hKp, ⟨i90, by (try rw [show xi (E85 24) = g87 from hg87]); (try rw [show xi (E85 25) = g26_25 from ((pw86.ef 25 (Nat.ne_of_beq_eq_false rfl)).trans ((kq75.ef 25 (fun _ => rfl)).trans ((kq64.ef 25 (fun _ => rfl)).trans hr26_25)))]); (try rw [show xi (E85 2) 9 = w26_2_9 from vi_e ((pw86.2 2 9 (fun q9 => absurd q9.1 (Nat.ne_of_beq_eq_false rfl))).trans ((kq75 2 9 rfl).trans ((kq64 2 9 rfl).trans hs26_2_9)))]); (try rw [show xi (E85 2) 5 = w26_2_5 from vi_e ((pw86.2 2 5 (fun q9 => absurd q9.1 (Nat.ne_of_beq_eq_false rfl))).trans ((kq75 2 5 rfl).trans ((kq64 2 5 rfl).trans hs26_2_5)))]); exact ⟨fun k hk => by rw [eg87, pk_un (by rw [tn_]; omega)]; exact hx26_0 k hk, by rw [eg87, pk_us]; omega⟩, (flt_ok kts kf0 ka0 k72 f80 (by omega)).ks k88, (by show _ = (xi (E85 2) 3).toInt; rw [show xi (E85 2) 3 = y89 from vi_e fy89])⟩⟩, by show va_P (dC, dI) vwCl (WL (LC cf) ad E85) t.heap; rw [ht]; exact hP⟩, hS.F ht⟩) hS.2.2 dX10_read_91
          · --67 not
            have t91 : ¬ r73.toInt = -1 := ti_ne c81
            refine lv_aload_n hx hb dX10_read_70 rfl (lv_at hl 1 rfl) ?_
            refine th_vL (va_runV (As := []) (rest := []) ⟨hx, hb, hml, hown, hts⟩ (q_failX l dC dI cT cf hC ad E74 H.size hI) (cwV 0 hts (gi_V (in_8 _ (zs4 (zs4 (zs1 (zs1 (zs1 (zs0))))))) (in_8 _ (zs4 (zs4 (zs4 (zs0))))) (in_8 _ (zs4 (zs4 (zs4 (zs1 (zs0)))))) (in_8 _ (zs4 (zs4 (zs4 (zs1 (zs1 (zs0))))))) (in_8 _ (zs4 (zs1 (zs1 (zs1 (zs0))))))) rfl rfl rfl ⟨rfl, hz_yX10_fail_0⟩ ⟨Nat.le_of_ble_eq_true rfl, Nat.le_of_ble_eq_true rfl⟩) ⟨HWL_bl, va_recv hK hP (ci := 11) (q0 := posL 2 (LC cf)) rfl (hI.ob 2 (mF 2 rfl) rfl), (HWL_wi hP hK (WL_D hD) hS hA hEV)⟩ rfl rfl hl.1 rfl (lv_room (Nat.le_of_ble_eq_true rfl)) dX10_read_71 ⟨Nat.le_of_ble_eq_true rfl, Nat.le_of_ble_eq_true rfl⟩) (WL_D hD) hS hA (fun E93 H locs hw hP hS => ?_)
            obtain ⟨hI, kq94, hw⟩ := hw
            have hKb := hKp
            have hKp := hKp.tr kq94 (wl_sub rfl rfl)
            have f95 := hw
            refine lv_aload_n hx hb dX10_read_74 rfl (lv_at hl 1 rfl) ?_
            refine th_getL (ci := 11) (C := RX10) (T := TX10) (N := 10) (v := .ref (ad 24)) hx hb hts hinX10 hown hK hP hI 2 (mF 2 rfl) rfl rfl 7 (Nat.le_of_ble_eq_true rfl) (hts _ (vA_in _ _ (in_7 _ (zs16 (zs16 (zs4 (zs1 (zs0)))))))) (fun _ h9 => h9) (hI.fr 2 (mF 2 rfl) rfl (Nat.le_of_ble_eq_true rfl) 24 rfl) dX10_read_75 ?_
            refine lv_aload_n hx hb dX10_read_78 rfl (lv_at hl 1 rfl) ?_
            refine th_getL (ci := 11) (C := RX10) (T := TX10) (N := 10) (v := .int w26_2_9) hx hb hts hinX10 hown hK hP hI 2 (mF 2 rfl) rfl rfl 9 (Nat.le_of_ble_eq_true rfl) (hts _ (vA_in _ _ (in_7 _ (zs16 (zs16 (zs4 (zs0))))))) (fun _ h9 => h9) ((kq94 2 9 rfl).trans ((kq75 2 9 rfl).trans ((kq64 2 9 rfl).trans hs26_2_9))) dX10_read_79 ?_
            refine lv_aload_n hx hb dX10_read_82 rfl (lv_at hl 1 rfl) ?_
            refine th_getL (ci := 11) (C := RX10) (T := TX10) (N := 10) (v := .int w26_2_5) hx hb hts hinX10 hown hK hP hI 2 (mF 2 rfl) rfl rfl 5 (Nat.le_of_ble_eq_true rfl) (hts _ (vA_in _ _ (in_7 _ (zs16 (zs4 (zs4 (zs4 (zs1 (zs1 (zs0)))))))))) (fun _ h9 => h9) ((kq94 2 5 rfl).trans ((kq75 2 5 rfl).trans ((kq64 2 5 rfl).trans hs26_2_5))) dX10_read_83 ?_
            have n96 : vp_in w26_2_9 52 := (iv_in (n := 52) hw26_2_9 (by decide))
            refine th_iastL hx hb hK hP (WL_D hD) hS hI 24 (mF 24 rfl) rfl rfl n96 (okI rfl hw26_2_5) dX10_read_86 (fun H locs E97 pw98 hI hP hS => ?_)
            have hKp := hKp.pw pw98 rfl
            obtain ⟨g99, eg99⟩ : ∃ z : Nat → Int32, z = upd g26_24 w26_2_9.toNatClampNeg w26_2_5 := ⟨_, rfl⟩
            have hg99 : xi (E97 24) = g99 := by rw [pw98.eu, ((kq94.ef 24 (fun _ => rfl)).trans ((kq75.ef 24 (fun _ => rfl)).trans ((kq64.ef 24 (fun _ => rfl)).trans hr26_24))), eg99]
            have k100 : KS E93 E97 := KS.pw pw98.2 (by decide) (fun q => absurd q (by decide))
            refine lv_aload_n hx hb dX10_read_87 rfl (lv_at hl 1 rfl) ?_
            obtain ⟨y101, ey101⟩ : ∃ y, xi (E97 2) 3 = y := ⟨_, rfl⟩
            have fy101 : xv (E97 2) 3 = .int y101 := (hI.fi 2 (mF 2 rfl) rfl (Nat.le_of_ble_eq_true rfl) rfl).trans (congrArg Value.int ey101)
            have i102 : -1 ≤ y101.toInt ∧ y101.toInt ≤ 200 := by rw [← ey101]; exact hI.iv 2 (mF 2 rfl) rfl (Nat.le_of_ble_eq_true rfl) rfl
            refine th_getL (ci := 11) (C := RX10) (T := TX10) (N := 10) (v := .int y101) hx hb hts hinX10 hown hK hP hI 2 (mF 2 rfl) rfl rfl 3 (Nat.le_of_ble_eq_true rfl) (hts _ (vA_in _ _ (in_8 _ (zs4 (zs4 (zs0)))))) (fun _ h9 => h9) fy101 dX10_read_88 ?_
            rw [hQ]
            exact W.iret (v := y101) hx hb hr (fun t ht hW => ⟨⟨y101, E97, rfl, ⟨hI, hKp, ⟨i102, by (try rw [show xi (E97 24) = g99 from hg99]); (try rw [show xi (E97 25) = g26_25 from ((pw98.ef 25 (Nat.ne_of_beq_eq_false rfl)).trans ((kq94.ef 25 (fun _ => rfl)).trans ((kq75.ef 25 (fun _ => rfl)).trans ((kq64.ef 25 (fun _ => rfl)).trans hr26_25))))]); (try rw [show xi (E97 2) 9 = w26_2_9 from vi_e ((pw98.2 2 9 (fun q9 => absurd q9.1 (Nat.ne_of_beq_eq_false rfl))).trans ((kq94 2 9 rfl).trans ((kq75 2 9 rfl).trans ((kq64 2 9 rfl).trans hs26_2_9))))]); (try rw [show xi (E97 2) 5 = w26_2_5 from vi_e ((pw98.2 2 5 (fun q9 => absurd q9.1 (Nat.ne_of_beq_eq_false rfl))).trans ((kq94 2 5 rfl).trans ((kq75 2 5 rfl).trans ((kq64 2 5 rfl).trans hs26_2_5))))]); exact ⟨fun k hk => by rw [eg99, pk_un (by rw [tn_]; omega)]; exact hx26_0 k hk, by rw [eg99, pk_us]; omega⟩, (flt_no kts kf0 ka0 k72 f80 (by omega) f95).ks k100, (by show _ = (xi (E97 2) 3).toInt; rw [show xi (E97 2) 3 = y101 from vi_e fy101])⟩⟩, by show va_P (dC, dI) vwCl (WL (LC cf) ad E97) t.heap; rw [ht]; exact hP⟩, hS.F ht⟩) hS.2.2 dX10_read_91
        · --39 not
          have t103 : r62.toInt = 59 := ti_eq c70
          have i104 : 59 ≤ r62.toInt ∧ r62.toInt ≤ 59 := iv_eqi t103 f67 (il_ 59) (by decide)
          refine lv_aload_n hx hb dX10_read_42 rfl (lv_at hl 1 rfl) ?_
          refine lv_dup hx hb dX10_read_43 rfl ?_
          refine th_getL (ci := 11) (C := RX10) (T := TX10) (N := 10) (v := .int y65) hx hb hts hinX10 hown hK hP hI 2 (mF 2 rfl) rfl rfl 2 (Nat.le_of_ble_eq_true rfl) (hts _ (vA_in _ _ (in_8 _ (zs4 (zs4 (zs1 (zs0))))))) (fun _ h9 => h9) fy65 dX10_read_44 ?_
          refine lv_iconst (v := 1) hx hb dX10_read_47 (by decide) ?_
          refine lv_iadd hx hb dX10_read_48 ?_
          refine lv_topi (fun y105 ey105 => ?_)
          obtain ⟨ty105, iy105⟩ := ti_add (e := 1) (f := 201) i66 ln_1 ey105 (by decide)
          have ty105 : y105.toInt = y65.toInt + 1 := ty105
          have iy105 : 1 ≤ y105.toInt ∧ y105.toInt ≤ 201 := iy105
          have i106 : 1 ≤ y105.toInt ∧ y105.toInt ≤ 200 := by omega
          refine th_putL (ci := 11) (C := RX10) (T := TX10) (N := 10) (v := .int y105) (ty := .int) hx hb hts hinX10 tyX10 tyX10_ok nmX10 hown hK hP (WL_D hD) hS hI 2 (mF 2 rfl) rfl rfl 2 (Nat.le_of_ble_eq_true rfl) (hts _ (vA_in _ _ (in_8 _ (zs4 (zs4 (zs1 (zs0))))))) (fun _ h9 => h9) rfl (by decide +kernel) rfl rfl (okI rfl (iv_w i106 (by decide))) dX10_read_49 (fun H locs E107 pw108 hI hP hS => ?_)
          have hKp := hKp.pw pw108 rfl
          have k109 : AtP E63 E107 := AtP.pw pw108.2 (vi_e fy65) (vi_e pw108.1) ty105 (by omega)
          have k110 : ClO w26_2_9 E107 := ClO.of hx26_2 f69 k109
          refine lv_aload_n hx hb dX10_read_52 rfl (lv_at hl 1 rfl) ?_
          refine th_vL (va_runV (As := []) (rest := []) ⟨hx, hb, hml, hown, hts⟩ (q_readClauseX l dC dI cT cf hC ad E107 H.size hI (by (try rw [(show xi (E107 2) 5 = w26_2_5 from vi_e ((pw108.2 2 5 (fun q9 => absurd q9.2 (Nat.ne_of_beq_eq_false rfl))).trans ((kq64 2 5 rfl).trans hs26_2_5)))]); (try rw [(show xi (E107 2) 9 = w26_2_9 from vi_e ((pw108.2 2 9 (fun q9 => absurd q9.2 (Nat.ne_of_beq_eq_false rfl))).trans ((kq64 2 9 rfl).trans hs26_2_9)))]); (try rw [show xi (E107 24) = g26_24 from ((pw108.ef 24 (Nat.ne_of_beq_eq_false rfl)).trans ((kq64.ef 24 (fun _ => rfl)).trans hr26_24))]); (try rw [show xi (E107 25) = g26_25 from ((pw108.ef 25 (Nat.ne_of_beq_eq_false rfl)).trans ((kq64.ef 25 (fun _ => rfl)).trans hr26_25))]); (try rw [show xi (E107 2) 9 = w26_2_9 from vi_e ((pw108.2 2 9 (fun q9 => absurd q9.2 (Nat.ne_of_beq_eq_false rfl))).trans ((kq64 2 9 rfl).trans hs26_2_9))]); (try rw [show xi (E107 2) 5 = w26_2_5 from vi_e ((pw108.2 2 5 (fun q9 => absurd q9.2 (Nat.ne_of_beq_eq_false rfl))).trans ((kq64 2 5 rfl).trans hs26_2_5))]); exact hx26_0) (by (try rw [(show xi (E107 2) 9 = w26_2_9 from vi_e ((pw108.2 2 9 (fun q9 => absurd q9.2 (Nat.ne_of_beq_eq_false rfl))).trans ((kq64 2 9 rfl).trans hs26_2_9)))]); (try rw [show xi (E107 24) = g26_24 from ((pw108.ef 24 (Nat.ne_of_beq_eq_false rfl)).trans ((kq64.ef 24 (fun _ => rfl)).trans hr26_24))]); (try rw [show xi (E107 25) = g26_25 from ((pw108.ef 25 (Nat.ne_of_beq_eq_false rfl)).trans ((kq64.ef 25 (fun _ => rfl)).trans hr26_25))]); (try rw [show xi (E107 2) 9 = w26_2_9 from vi_e ((pw108.2 2 9 (fun q9 => absurd q9.2 (Nat.ne_of_beq_eq_false rfl))).trans ((kq64 2 9 rfl).trans hs26_2_9))]); (try rw [show xi (E107 2) 5 = w26_2_5 from vi_e ((pw108.2 2 5 (fun q9 => absurd q9.2 (Nat.ne_of_beq_eq_false rfl))).trans ((kq64 2 5 rfl).trans hs26_2_5))]); exact k110)) (cwV 0 hts (gi_V (in_8 _ (zs16 (zs4 (zs1 (zs1 (zs1 (zs0))))))) (in_8 _ (zs16 (zs4 (zs4 (zs0))))) (in_8 _ (zs16 (zs4 (zs4 (zs1 (zs0)))))) (in_8 _ (zs4 (zs4 (zs4 (zs1 (zs1 (zs0))))))) (in_8 _ (zs16 (zs4 (zs4 (zs1 (zs1 (zs0)))))))) rfl rfl rfl ⟨rfl, hz_yX10_readClause_0⟩ ⟨Nat.le_of_ble_eq_true rfl, Nat.le_of_ble_eq_true rfl⟩) ⟨HWL_bl, va_recv hK hP (ci := 11) (q0 := posL 2 (LC cf)) rfl (hI.ob 2 (mF 2 rfl) rfl), (HWL_wi hP hK (WL_D hD) hS hA hEV)⟩ rfl rfl hl.1 rfl (lv_room (Nat.le_of_ble_eq_true rfl)) dX10_read_53 ⟨Nat.le_of_ble_eq_true rfl, Nat.le_of_ble_eq_true rfl⟩) (WL_D hD) hS hA (fun E112 H locs hw hP hS => ?_)
          obtain ⟨hI, kq113, hw⟩ := hw
          have hKb := hKp
          have hKp := hKp.tr kq113 (wl_sub rfl rfl)
          obtain ⟨y114, ey114⟩ : ∃ y, xi (E112 2) 5 = y := ⟨_, rfl⟩
          have fy114 : xv (E112 2) 5 = .int y114 := (hI.fi 2 (mF 2 rfl) rfl (Nat.le_of_ble_eq_true rfl) rfl).trans (congrArg Value.int ey114)
          have i115 : 0 ≤ y114.toInt ∧ y114.toInt ≤ 200 := by rw [← ey114]; exact hI.iv 2 (mF 2 rfl) rfl (Nat.le_of_ble_eq_true rfl) rfl
          obtain ⟨y116, ey116⟩ : ∃ y, xi (E112 2) 9 = y := ⟨_, rfl⟩
          have fy116 : xv (E112 2) 9 = .int y116 := (hI.fi 2 (mF 2 rfl) rfl (Nat.le_of_ble_eq_true rfl) rfl).trans (congrArg Value.int ey116)
          have i117 : 0 ≤ y116.toInt ∧ y116.toInt ≤ 51 := by rw [← ey116]; exact hI.iv 2 (mF 2 rfl) rfl (Nat.le_of_ble_eq_true rfl) rfl
          obtain ⟨f118, f119, f120, f121⟩ := hw
          try rw [(show xi (E107 2) 5 = w26_2_5 from vi_e ((pw108.2 2 5 (fun q9 => absurd q9.2 (Nat.ne_of_beq_eq_false rfl))).trans ((kq64 2 5 rfl).trans hs26_2_5)))] at f118
          try rw [(show xi (E112 2) 5 = y114 from vi_e fy114)] at f118
          try rw [(show xi (E107 2) 5 = w26_2_5 from vi_e ((pw108.2 2 5 (fun q9 => absurd q9.2 (Nat.ne_of_beq_eq_false rfl))).trans ((kq64 2 5 rfl).trans hs26_2_5)))] at f119
          try rw [(show xi (E107 2) 9 = w26_2_9 from vi_e ((pw108.2 2 9 (fun q9 => absurd q9.2 (Nat.ne_of_beq_eq_false rfl))).trans ((kq64 2 9 rfl).trans hs26_2_9)))] at f119
          try rw [(show xi (E112 2) 5 = y114 from vi_e fy114)] at f119
          try rw [(show xi (E112 2) 9 = y116 from vi_e fy116)] at f119
          try rw [(show xi (E107 2) 9 = w26_2_9 from vi_e ((pw108.2 2 9 (fun q9 => absurd q9.2 (Nat.ne_of_beq_eq_false rfl))).trans ((kq64 2 9 rfl).trans hs26_2_9)))] at f121
          try rw [(show xi (E112 2) 9 = y116 from vi_e fy116)] at f121
          obtain ⟨g122, hg122⟩ : ∃ g, xi (E112 24) = g := ⟨_, rfl⟩
          obtain ⟨g123, hg123⟩ : ∃ g, xi (E112 25) = g := ⟨_, rfl⟩
          try rw [show xi (E112 24) = g122 from hg122] at f119
          try rw [show xi (E112 25) = g123 from hg123] at f119
          try rw [show xi (E112 2) 9 = y116 from vi_e fy116] at f119
          try rw [show xi (E112 2) 5 = y114 from vi_e fy114] at f119
          have hf119 : TPok g122 g123 y116 y114 := f119
          have k124 : ClI y116 E112 := ClI.of k110 f121 f120
          obtain ⟨y125, ey125⟩ : ∃ y : Int32, y = v26_1 + (1 : Int32) := ⟨_, rfl⟩
          obtain ⟨ty125, iy125⟩ := ti_add (e := 1) (f := 200) i61 ln_1 ey125 (by decide)
          have ty125 : y125.toInt = v26_1.toInt + 1 := ty125
          have iy125 : 1 ≤ y125.toInt ∧ y125.toInt ≤ 200 := iy125
          refine lv_iinc (v := y125) (lv' := [(1, .int y125), (0, .ref (ad 2))]) hx hb dX10_read_56 hl (k := 0) rfl (by rw [ey125]; rfl) (by decide) rfl (fun ls hl => ?_)
          refine lv_goto (tgt := 26) hx hb dX10_read_59 (by decide) ?_
          exact ih26 y116 y114 g122 g123 y125 E112 _ _ _ i117 i115 (iv_w iy125 (by decide)) (hf119) (Lp.step (op := isSem) (cb := cbC) hx26_1 f69 (is_sem.mpr (by omega)) (by omega) k109 f120 KS.rf ty125 (fun t m => clauseS_mono false t m) (fun t m a c h => opL_1 (clauseS_mono false t m) rfl h)) (k124) (by first | exact ms_su hx26_3 ty125 (by decide) | omega) hI hKp fy116 fy114 hg122 hg123 hP hS (lv_sub hl [0, 1] rfl)
  exact hL26 (201) y17 y15 g23 g24 (0 : Int32) E13 _ _ _ i18 i16 (iv_w ln_0 (by decide)) (hf20) (Lp.start f21 lpX (by decide)) (k25) (by have h9 := ln_0; first | exact ms_bu h9.1 (by decide) | omega) hI hKp fy17 fy15 hg23 hg24 hP hS (lv_sub hl [0, 1] rfl)
