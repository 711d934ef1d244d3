set_option maxRecDepth 100000 in
theorem zh_dX10_read_0_0 : zc cX10_read 0 [42, 3, 181, 0, 31, 42, 2, 181, 0, 34, 42, 3, 181, 0, 37, 42] = true := by decide +kernel
set_option maxRecDepth 100000 in
theorem zh_dX10_read_16_16 : zc cX10_read 16 [3, 181, 0, 40, 42, 182, 0, 43, 3, 60, 27, 17, 0, 200, 162, 0] = true := by decide +kernel
set_option maxRecDepth 100000 in
theorem zh_dX10_read_30_32 : zc cX10_read 32 [32, 42, 182, 0, 46, 16, 59, 160, 0, 23, 42, 89, 180, 0, 31, 4] = true := by decide +kernel
set_option maxRecDepth 100000 in
theorem zh_dX10_read_48_48 : zc cX10_read 48 [96, 181, 0, 31, 42, 182, 0, 43, 132, 1, 1, 167, 255, 223, 42, 182] = true := by decide +kernel
set_option maxRecDepth 100000 in
theorem zh_dX10_read_63_64 : zc cX10_read 64 [0, 46, 2, 159, 0, 7, 42, 182, 0, 50, 42, 180, 0, 21, 42, 180] = true := by decide +kernel
set_option maxRecDepth 100000 in
theorem zh_dX10_read_79_80 : zc cX10_read 80 [0, 40, 42, 180, 0, 37, 79, 42, 180, 0, 34, 172] = true := by decide +kernel
set_option maxRecDepth 100000 in
theorem zh_dX10_readClause_0_0 : zc cX10_readClause 0 [42, 182, 0, 46, 60, 18, 64, 27, 184, 0, 66, 153, 0, 12, 42, 180] = true := by decide +kernel
set_option maxRecDepth 100000 in
theorem zh_dX10_readClause_15_16 : zc cX10_readClause 16 [0, 40, 16, 51, 161, 0, 8, 42, 182, 0, 50, 177, 42, 89, 180, 0] = true := by decide +kernel
set_option maxRecDepth 100000 in
theorem zh_dX10_readClause_30_32 : zc cX10_readClause 32 [31, 4, 96, 181, 0, 31, 42, 16, 58, 182, 0, 70, 42, 180, 0, 18] = true := by decide +kernel
set_option maxRecDepth 100000 in
theorem zh_dX10_readClause_48_48 : zc cX10_readClause 48 [42, 180, 0, 40, 27, 79, 42, 180, 0, 21, 42, 180, 0, 40, 42, 180] = true := by decide +kernel
set_option maxRecDepth 100000 in
theorem zh_dX10_readClause_63_64 : zc cX10_readClause 64 [0, 37, 79, 42, 180, 0, 24, 42, 180, 0, 40, 42, 180, 0, 37, 79] = true := by decide +kernel
set_option maxRecDepth 100000 in
theorem zh_dX10_readClause_80_80 : zc cX10_readClause 80 [18, 74, 42, 182, 0, 46, 184, 0, 66, 61, 28, 154, 0, 8, 42, 3] = true := by decide +kernel
set_option maxRecDepth 100000 in
theorem zh_dX10_readClause_96_96 : zc cX10_readClause 96 [182, 0, 76, 28, 154, 0, 15, 18, 79, 42, 182, 0, 46, 184, 0, 66] = true := by decide +kernel
set_option maxRecDepth 100000 in
theorem zh_dX10_readClause_112_112 : zc cX10_readClause 112 [153, 0, 41, 42, 3, 28, 154, 0, 7, 4, 167, 0, 4, 3, 182, 0] = true := by decide +kernel
set_option maxRecDepth 100000 in
theorem zh_dX10_readClause_126_128 : zc cX10_readClause 128 [81, 42, 16, 63, 182, 0, 70, 42, 180, 0, 24, 42, 180, 0, 40, 42] = true := by decide +kernel
set_option maxRecDepth 100000 in
theorem zh_dX10_readClause_144_144 : zc cX10_readClause 144 [180, 0, 37, 79, 42, 3, 182, 0, 76, 42, 89, 180, 0, 40, 4, 96] = true := by decide +kernel
set_option maxRecDepth 100000 in
theorem zh_dX10_readClause_160_160 : zc cX10_readClause 160 [181, 0, 40, 177] = true := by decide +kernel
theorem dX10_read_0 : decode cX10_read 0 = .ok (.aload_n 0, 1) := zo_42 (zi_at zh_dX10_read_0_0 0 rfl)
theorem dX10_read_1 : decode cX10_read 1 = .ok (.iconst 0, 1) := zo_3 (zi_at zh_dX10_read_0_0 1 rfl)
theorem dX10_read_2 : decode cX10_read 2 = .ok (.putfield 31, 3) := zo_181 (zi_at zh_dX10_read_0_0 2 rfl) (zi_at zh_dX10_read_0_0 3 rfl) (zi_at zh_dX10_read_0_0 4 rfl) rfl
theorem dX10_read_5 : decode cX10_read 5 = .ok (.aload_n 0, 1) := zo_42 (zi_at zh_dX10_read_0_0 5 rfl)
theorem dX10_read_6 : decode cX10_read 6 = .ok (.iconst (-1), 1) := zo_2 (zi_at zh_dX10_read_0_0 6 rfl)
theorem dX10_read_7 : decode cX10_read 7 = .ok (.putfield 34, 3) := zo_181 (zi_at zh_dX10_read_0_0 7 rfl) (zi_at zh_dX10_read_0_0 8 rfl) (zi_at zh_dX10_read_0_0 9 rfl) rfl
theorem dX10_read_10 : decode cX10_read 10 = .ok (.aload_n 0, 1) := zo_42 (zi_at zh_dX10_read_0_0 10 rfl)
theorem dX10_read_11 : decode cX10_read 11 = .ok (.iconst 0, 1) := zo_3 (zi_at zh_dX10_read_0_0 11 rfl)
theorem dX10_read_12 : decode cX10_read 12 = .ok (.putfield 37, 3) := zo_181 (zi_at zh_dX10_read_0_0 12 rfl) (zi_at zh_dX10_read_0_0 13 rfl) (zi_at zh_dX10_read_0_0 14 rfl) rfl
theorem dX10_read_15 : decode cX10_read 15 = .ok (.aload_n 0, 1) := zo_42 (zi_at zh_dX10_read_0_0 15 rfl)
theorem dX10_read_16 : decode cX10_read 16 = .ok (.iconst 0, 1) := zo_3 (zi_at zh_dX10_read_16_16 0 rfl)
theorem dX10_read_17 : decode cX10_read 17 = .ok (.putfield 40, 3) := zo_181 (zi_at zh_dX10_read_16_16 1 rfl) (zi_at zh_dX10_read_16_16 2 rfl) (zi_at zh_dX10_read_16_16 3 rfl) rfl
theorem dX10_read_20 : decode cX10_read 20 = .ok (.aload_n 0, 1) := zo_42 (zi_at zh_dX10_read_16_16 4 rfl)
theorem dX10_read_21 : decode cX10_read 21 = .ok (.invokevirtual 43, 3) := zo_182 (zi_at zh_dX10_read_16_16 5 rfl) (zi_at zh_dX10_read_16_16 6 rfl) (zi_at zh_dX10_read_16_16 7 rfl) rfl
theorem dX10_read_24 : decode cX10_read 24 = .ok (.iconst 0, 1) := zo_3 (zi_at zh_dX10_read_16_16 8 rfl)
theorem dX10_read_25 : decode cX10_read 25 = .ok (.istore_n 1, 1) := zo_60 (zi_at zh_dX10_read_16_16 9 rfl)
theorem dX10_read_26 : decode cX10_read 26 = .ok (.iload_n 1, 1) := zo_27 (zi_at zh_dX10_read_16_16 10 rfl)
theorem dX10_read_27 : decode cX10_read 27 = .ok (.sipush 200, 3) := zo_17 (zi_at zh_dX10_read_16_16 11 rfl) (zi_at zh_dX10_read_16_16 12 rfl) (zi_at zh_dX10_read_16_16 13 rfl) rfl
theorem dX10_read_30 : decode cX10_read 30 = .ok (.if_icmp .ge 32, 3) := zo_162 (zi_at zh_dX10_read_16_16 14 rfl) (zi_at zh_dX10_read_16_16 15 rfl) (zi_at zh_dX10_read_30_32 0 rfl) rfl
theorem dX10_read_33 : decode cX10_read 33 = .ok (.aload_n 0, 1) := zo_42 (zi_at zh_dX10_read_30_32 1 rfl)
theorem dX10_read_34 : decode cX10_read 34 = .ok (.invokevirtual 46, 3) := zo_182 (zi_at zh_dX10_read_30_32 2 rfl) (zi_at zh_dX10_read_30_32 3 rfl) (zi_at zh_dX10_read_30_32 4 rfl) rfl
theorem dX10_read_37 : decode cX10_read 37 = .ok (.bipush 59, 2) := zo_16 (zi_at zh_dX10_read_30_32 5 rfl) (zi_at zh_dX10_read_30_32 6 rfl) rfl
theorem dX10_read_39 : decode cX10_read 39 = .ok (.if_icmp .ne 23, 3) := zo_160 (zi_at zh_dX10_read_30_32 7 rfl) (zi_at zh_dX10_read_30_32 8 rfl) (zi_at zh_dX10_read_30_32 9 rfl) rfl
theorem dX10_read_42 : decode cX10_read 42 = .ok (.aload_n 0, 1) := zo_42 (zi_at zh_dX10_read_30_32 10 rfl)
theorem dX10_read_43 : decode cX10_read 43 = .ok (.dup, 1) := zo_89 (zi_at zh_dX10_read_30_32 11 rfl)
theorem dX10_read_44 : decode cX10_read 44 = .ok (.getfield 31, 3) := zo_180 (zi_at zh_dX10_read_30_32 12 rfl) (zi_at zh_dX10_read_30_32 13 rfl) (zi_at zh_dX10_read_30_32 14 rfl) rfl
theorem dX10_read_47 : decode cX10_read 47 = .ok (.iconst 1, 1) := zo_4 (zi_at zh_dX10_read_30_32 15 rfl)
theorem dX10_read_48 : decode cX10_read 48 = .ok (.iadd, 1) := zo_96 (zi_at zh_dX10_read_48_48 0 rfl)
theorem dX10_read_49 : decode cX10_read 49 = .ok (.putfield 31, 3) := zo_181 (zi_at zh_dX10_read_48_48 1 rfl) (zi_at zh_dX10_read_48_48 2 rfl) (zi_at zh_dX10_read_48_48 3 rfl) rfl
theorem dX10_read_52 : decode cX10_read 52 = .ok (.aload_n 0, 1) := zo_42 (zi_at zh_dX10_read_48_48 4 rfl)
theorem dX10_read_53 : decode cX10_read 53 = .ok (.invokevirtual 43, 3) := zo_182 (zi_at zh_dX10_read_48_48 5 rfl) (zi_at zh_dX10_read_48_48 6 rfl) (zi_at zh_dX10_read_48_48 7 rfl) rfl
theorem dX10_read_56 : decode cX10_read 56 = .ok (.iinc 1 1, 3) := zo_132 (zi_at zh_dX10_read_48_48 8 rfl) (zi_at zh_dX10_read_48_48 9 rfl) (zi_at zh_dX10_read_48_48 10 rfl) rfl
theorem dX10_read_59 : decode cX10_read 59 = .ok (.goto (-33), 3) := zo_167 (zi_at zh_dX10_read_48_48 11 rfl) (zi_at zh_dX10_read_48_48 12 rfl) (zi_at zh_dX10_read_48_48 13 rfl) rfl
theorem dX10_read_62 : decode cX10_read 62 = .ok (.aload_n 0, 1) := zo_42 (zi_at zh_dX10_read_48_48 14 rfl)
theorem dX10_read_63 : decode cX10_read 63 = .ok (.invokevirtual 46, 3) := zo_182 (zi_at zh_dX10_read_48_48 15 rfl) (zi_at zh_dX10_read_63_64 0 rfl) (zi_at zh_dX10_read_63_64 1 rfl) rfl
theorem dX10_read_66 : decode cX10_read 66 = .ok (.iconst (-1), 1) := zo_2 (zi_at zh_dX10_read_63_64 2 rfl)
theorem dX10_read_67 : decode cX10_read 67 = .ok (.if_icmp .eq 7, 3) := zo_159 (zi_at zh_dX10_read_63_64 3 rfl) (zi_at zh_dX10_read_63_64 4 rfl) (zi_at zh_dX10_read_63_64 5 rfl) rfl
theorem dX10_read_70 : decode cX10_read 70 = .ok (.aload_n 0, 1) := zo_42 (zi_at zh_dX10_read_63_64 6 rfl)
theorem dX10_read_71 : decode cX10_read 71 = .ok (.invokevirtual 50, 3) := zo_182 (zi_at zh_dX10_read_63_64 7 rfl) (zi_at zh_dX10_read_63_64 8 rfl) (zi_at zh_dX10_read_63_64 9 rfl) rfl
theorem dX10_read_74 : decode cX10_read 74 = .ok (.aload_n 0, 1) := zo_42 (zi_at zh_dX10_read_63_64 10 rfl)
theorem dX10_read_75 : decode cX10_read 75 = .ok (.getfield 21, 3) := zo_180 (zi_at zh_dX10_read_63_64 11 rfl) (zi_at zh_dX10_read_63_64 12 rfl) (zi_at zh_dX10_read_63_64 13 rfl) rfl
theorem dX10_read_78 : decode cX10_read 78 = .ok (.aload_n 0, 1) := zo_42 (zi_at zh_dX10_read_63_64 14 rfl)
theorem dX10_read_79 : decode cX10_read 79 = .ok (.getfield 40, 3) := zo_180 (zi_at zh_dX10_read_63_64 15 rfl) (zi_at zh_dX10_read_79_80 0 rfl) (zi_at zh_dX10_read_79_80 1 rfl) rfl
theorem dX10_read_82 : decode cX10_read 82 = .ok (.aload_n 0, 1) := zo_42 (zi_at zh_dX10_read_79_80 2 rfl)
theorem dX10_read_83 : decode cX10_read 83 = .ok (.getfield 37, 3) := zo_180 (zi_at zh_dX10_read_79_80 3 rfl) (zi_at zh_dX10_read_79_80 4 rfl) (zi_at zh_dX10_read_79_80 5 rfl) rfl
theorem dX10_read_86 : decode cX10_read 86 = .ok (.iastore, 1) := zo_79 (zi_at zh_dX10_read_79_80 6 rfl)
theorem dX10_read_87 : decode cX10_read 87 = .ok (.aload_n 0, 1) := zo_42 (zi_at zh_dX10_read_79_80 7 rfl)
theorem dX10_read_88 : decode cX10_read 88 = .ok (.getfield 34, 3) := zo_180 (zi_at zh_dX10_read_79_80 8 rfl) (zi_at zh_dX10_read_79_80 9 rfl) (zi_at zh_dX10_read_79_80 10 rfl) rfl
theorem dX10_read_91 : decode cX10_read 91 = .ok (.ireturn, 1) := zo_172 (zi_at zh_dX10_read_79_80 11 rfl)
theorem dX10_readClause_0 : decode cX10_readClause 0 = .ok (.aload_n 0, 1) := zo_42 (zi_at zh_dX10_readClause_0_0 0 rfl)
theorem dX10_readClause_1 : decode cX10_readClause 1 = .ok (.invokevirtual 46, 3) := zo_182 (zi_at zh_dX10_readClause_0_0 1 rfl) (zi_at zh_dX10_readClause_0_0 2 rfl) (zi_at zh_dX10_readClause_0_0 3 rfl) rfl
theorem dX10_readClause_4 : decode cX10_readClause 4 = .ok (.istore_n 1, 1) := zo_60 (zi_at zh_dX10_readClause_0_0 4 rfl)
theorem dX10_readClause_5 : decode cX10_readClause 5 = .ok (.ldc 64, 2) := zo_18 (zi_at zh_dX10_readClause_0_0 5 rfl) (zi_at zh_dX10_readClause_0_0 6 rfl)
theorem dX10_readClause_7 : decode cX10_readClause 7 = .ok (.iload_n 1, 1) := zo_27 (zi_at zh_dX10_readClause_0_0 7 rfl)
theorem dX10_readClause_8 : decode cX10_readClause 8 = .ok (.invokestatic 66, 3) := zo_184 (zi_at zh_dX10_readClause_0_0 8 rfl) (zi_at zh_dX10_readClause_0_0 9 rfl) (zi_at zh_dX10_readClause_0_0 10 rfl) rfl
theorem dX10_readClause_11 : decode cX10_readClause 11 = .ok (.ifCond .eq 12, 3) := zo_153 (zi_at zh_dX10_readClause_0_0 11 rfl) (zi_at zh_dX10_readClause_0_0 12 rfl) (zi_at zh_dX10_readClause_0_0 13 rfl) rfl
theorem dX10_readClause_14 : decode cX10_readClause 14 = .ok (.aload_n 0, 1) := zo_42 (zi_at zh_dX10_readClause_0_0 14 rfl)
theorem dX10_readClause_15 : decode cX10_readClause 15 = .ok (.getfield 40, 3) := zo_180 (zi_at zh_dX10_readClause_0_0 15 rfl) (zi_at zh_dX10_readClause_15_16 0 rfl) (zi_at zh_dX10_readClause_15_16 1 rfl) rfl
theorem dX10_readClause_18 : decode cX10_readClause 18 = .ok (.bipush 51, 2) := zo_16 (zi_at zh_dX10_readClause_15_16 2 rfl) (zi_at zh_dX10_readClause_15_16 3 rfl) rfl
theorem dX10_readClause_20 : decode cX10_readClause 20 = .ok (.if_icmp .lt 8, 3) := zo_161 (zi_at zh_dX10_readClause_15_16 4 rfl) (zi_at zh_dX10_readClause_15_16 5 rfl) (zi_at zh_dX10_readClause_15_16 6 rfl) rfl
theorem dX10_readClause_23 : decode cX10_readClause 23 = .ok (.aload_n 0, 1) := zo_42 (zi_at zh_dX10_readClause_15_16 7 rfl)
theorem dX10_readClause_24 : decode cX10_readClause 24 = .ok (.invokevirtual 50, 3) := zo_182 (zi_at zh_dX10_readClause_15_16 8 rfl) (zi_at zh_dX10_readClause_15_16 9 rfl) (zi_at zh_dX10_readClause_15_16 10 rfl) rfl
theorem dX10_readClause_27 : decode cX10_readClause 27 = .ok (.return_, 1) := zo_177 (zi_at zh_dX10_readClause_15_16 11 rfl)
theorem dX10_readClause_28 : decode cX10_readClause 28 = .ok (.aload_n 0, 1) := zo_42 (zi_at zh_dX10_readClause_15_16 12 rfl)
theorem dX10_readClause_29 : decode cX10_readClause 29 = .ok (.dup, 1) := zo_89 (zi_at zh_dX10_readClause_15_16 13 rfl)
theorem dX10_readClause_30 : decode cX10_readClause 30 = .ok (.getfield 31, 3) := zo_180 (zi_at zh_dX10_readClause_15_16 14 rfl) (zi_at zh_dX10_readClause_15_16 15 rfl) (zi_at zh_dX10_readClause_30_32 0 rfl) rfl
theorem dX10_readClause_33 : decode cX10_readClause 33 = .ok (.iconst 1, 1) := zo_4 (zi_at zh_dX10_readClause_30_32 1 rfl)
theorem dX10_readClause_34 : decode cX10_readClause 34 = .ok (.iadd, 1) := zo_96 (zi_at zh_dX10_readClause_30_32 2 rfl)
theorem dX10_readClause_35 : decode cX10_readClause 35 = .ok (.putfield 31, 3) := zo_181 (zi_at zh_dX10_readClause_30_32 3 rfl) (zi_at zh_dX10_readClause_30_32 4 rfl) (zi_at zh_dX10_readClause_30_32 5 rfl) rfl
theorem dX10_readClause_38 : decode cX10_readClause 38 = .ok (.aload_n 0, 1) := zo_42 (zi_at zh_dX10_readClause_30_32 6 rfl)
theorem dX10_readClause_39 : decode cX10_readClause 39 = .ok (.bipush 58, 2) := zo_16 (zi_at zh_dX10_readClause_30_32 7 rfl) (zi_at zh_dX10_readClause_30_32 8 rfl) rfl
theorem dX10_readClause_41 : decode cX10_readClause 41 = .ok (.invokevirtual 70, 3) := zo_182 (zi_at zh_dX10_readClause_30_32 9 rfl) (zi_at zh_dX10_readClause_30_32 10 rfl) (zi_at zh_dX10_readClause_30_32 11 rfl) rfl
theorem dX10_readClause_44 : decode cX10_readClause 44 = .ok (.aload_n 0, 1) := zo_42 (zi_at zh_dX10_readClause_30_32 12 rfl)
theorem dX10_readClause_45 : decode cX10_readClause 45 = .ok (.getfield 18, 3) := zo_180 (zi_at zh_dX10_readClause_30_32 13 rfl) (zi_at zh_dX10_readClause_30_32 14 rfl) (zi_at zh_dX10_readClause_30_32 15 rfl) rfl
theorem dX10_readClause_48 : decode cX10_readClause 48 = .ok (.aload_n 0, 1) := zo_42 (zi_at zh_dX10_readClause_48_48 0 rfl)
theorem dX10_readClause_49 : decode cX10_readClause 49 = .ok (.getfield 40, 3) := zo_180 (zi_at zh_dX10_readClause_48_48 1 rfl) (zi_at zh_dX10_readClause_48_48 2 rfl) (zi_at zh_dX10_readClause_48_48 3 rfl) rfl
theorem dX10_readClause_52 : decode cX10_readClause 52 = .ok (.iload_n 1, 1) := zo_27 (zi_at zh_dX10_readClause_48_48 4 rfl)
theorem dX10_readClause_53 : decode cX10_readClause 53 = .ok (.iastore, 1) := zo_79 (zi_at zh_dX10_readClause_48_48 5 rfl)
theorem dX10_readClause_54 : decode cX10_readClause 54 = .ok (.aload_n 0, 1) := zo_42 (zi_at zh_dX10_readClause_48_48 6 rfl)
theorem dX10_readClause_55 : decode cX10_readClause 55 = .ok (.getfield 21, 3) := zo_180 (zi_at zh_dX10_readClause_48_48 7 rfl) (zi_at zh_dX10_readClause_48_48 8 rfl) (zi_at zh_dX10_readClause_48_48 9 rfl) rfl
theorem dX10_readClause_58 : decode cX10_readClause 58 = .ok (.aload_n 0, 1) := zo_42 (zi_at zh_dX10_readClause_48_48 10 rfl)
theorem dX10_readClause_59 : decode cX10_readClause 59 = .ok (.getfield 40, 3) := zo_180 (zi_at zh_dX10_readClause_48_48 11 rfl) (zi_at zh_dX10_readClause_48_48 12 rfl) (zi_at zh_dX10_readClause_48_48 13 rfl) rfl
theorem dX10_readClause_62 : decode cX10_readClause 62 = .ok (.aload_n 0, 1) := zo_42 (zi_at zh_dX10_readClause_48_48 14 rfl)
theorem dX10_readClause_63 : decode cX10_readClause 63 = .ok (.getfield 37, 3) := zo_180 (zi_at zh_dX10_readClause_48_48 15 rfl) (zi_at zh_dX10_readClause_63_64 0 rfl) (zi_at zh_dX10_readClause_63_64 1 rfl) rfl
theorem dX10_readClause_66 : decode cX10_readClause 66 = .ok (.iastore, 1) := zo_79 (zi_at zh_dX10_readClause_63_64 2 rfl)
theorem dX10_readClause_67 : decode cX10_readClause 67 = .ok (.aload_n 0, 1) := zo_42 (zi_at zh_dX10_readClause_63_64 3 rfl)
theorem dX10_readClause_68 : decode cX10_readClause 68 = .ok (.getfield 24, 3) := zo_180 (zi_at zh_dX10_readClause_63_64 4 rfl) (zi_at zh_dX10_readClause_63_64 5 rfl) (zi_at zh_dX10_readClause_63_64 6 rfl) rfl
theorem dX10_readClause_71 : decode cX10_readClause 71 = .ok (.aload_n 0, 1) := zo_42 (zi_at zh_dX10_readClause_63_64 7 rfl)
theorem dX10_readClause_72 : decode cX10_readClause 72 = .ok (.getfield 40, 3) := zo_180 (zi_at zh_dX10_readClause_63_64 8 rfl) (zi_at zh_dX10_readClause_63_64 9 rfl) (zi_at zh_dX10_readClause_63_64 10 rfl) rfl
theorem dX10_readClause_75 : decode cX10_readClause 75 = .ok (.aload_n 0, 1) := zo_42 (zi_at zh_dX10_readClause_63_64 11 rfl)
theorem dX10_readClause_76 : decode cX10_readClause 76 = .ok (.getfield 37, 3) := zo_180 (zi_at zh_dX10_readClause_63_64 12 rfl) (zi_at zh_dX10_readClause_63_64 13 rfl) (zi_at zh_dX10_readClause_63_64 14 rfl) rfl
theorem dX10_readClause_79 : decode cX10_readClause 79 = .ok (.iastore, 1) := zo_79 (zi_at zh_dX10_readClause_63_64 15 rfl)
theorem dX10_readClause_80 : decode cX10_readClause 80 = .ok (.ldc 74, 2) := zo_18 (zi_at zh_dX10_readClause_80_80 0 rfl) (zi_at zh_dX10_readClause_80_80 1 rfl)
theorem dX10_readClause_82 : decode cX10_readClause 82 = .ok (.aload_n 0, 1) := zo_42 (zi_at zh_dX10_readClause_80_80 2 rfl)
theorem dX10_readClause_83 : decode cX10_readClause 83 = .ok (.invokevirtual 46, 3) := zo_182 (zi_at zh_dX10_readClause_80_80 3 rfl) (zi_at zh_dX10_readClause_80_80 4 rfl) (zi_at zh_dX10_readClause_80_80 5 rfl) rfl
theorem dX10_readClause_86 : decode cX10_readClause 86 = .ok (.invokestatic 66, 3) := zo_184 (zi_at zh_dX10_readClause_80_80 6 rfl) (zi_at zh_dX10_readClause_80_80 7 rfl) (zi_at zh_dX10_readClause_80_80 8 rfl) rfl
theorem dX10_readClause_89 : decode cX10_readClause 89 = .ok (.istore_n 2, 1) := zo_61 (zi_at zh_dX10_readClause_80_80 9 rfl)
theorem dX10_readClause_90 : decode cX10_readClause 90 = .ok (.iload_n 2, 1) := zo_28 (zi_at zh_dX10_readClause_80_80 10 rfl)
theorem dX10_readClause_91 : decode cX10_readClause 91 = .ok (.ifCond .ne 8, 3) := zo_154 (zi_at zh_dX10_readClause_80_80 11 rfl) (zi_at zh_dX10_readClause_80_80 12 rfl) (zi_at zh_dX10_readClause_80_80 13 rfl) rfl
theorem dX10_readClause_94 : decode cX10_readClause 94 = .ok (.aload_n 0, 1) := zo_42 (zi_at zh_dX10_readClause_80_80 14 rfl)
theorem dX10_readClause_95 : decode cX10_readClause 95 = .ok (.iconst 0, 1) := zo_3 (zi_at zh_dX10_readClause_80_80 15 rfl)
theorem dX10_readClause_96 : decode cX10_readClause 96 = .ok (.invokevirtual 76, 3) := zo_182 (zi_at zh_dX10_readClause_96_96 0 rfl) (zi_at zh_dX10_readClause_96_96 1 rfl) (zi_at zh_dX10_readClause_96_96 2 rfl) rfl
theorem dX10_readClause_99 : decode cX10_readClause 99 = .ok (.iload_n 2, 1) := zo_28 (zi_at zh_dX10_readClause_96_96 3 rfl)
theorem dX10_readClause_100 : decode cX10_readClause 100 = .ok (.ifCond .ne 15, 3) := zo_154 (zi_at zh_dX10_readClause_96_96 4 rfl) (zi_at zh_dX10_readClause_96_96 5 rfl) (zi_at zh_dX10_readClause_96_96 6 rfl) rfl
theorem dX10_readClause_103 : decode cX10_readClause 103 = .ok (.ldc 79, 2) := zo_18 (zi_at zh_dX10_readClause_96_96 7 rfl) (zi_at zh_dX10_readClause_96_96 8 rfl)
theorem dX10_readClause_105 : decode cX10_readClause 105 = .ok (.aload_n 0, 1) := zo_42 (zi_at zh_dX10_readClause_96_96 9 rfl)
theorem dX10_readClause_106 : decode cX10_readClause 106 = .ok (.invokevirtual 46, 3) := zo_182 (zi_at zh_dX10_readClause_96_96 10 rfl) (zi_at zh_dX10_readClause_96_96 11 rfl) (zi_at zh_dX10_readClause_96_96 12 rfl) rfl
theorem dX10_readClause_109 : decode cX10_readClause 109 = .ok (.invokestatic 66, 3) := zo_184 (zi_at zh_dX10_readClause_96_96 13 rfl) (zi_at zh_dX10_readClause_96_96 14 rfl) (zi_at zh_dX10_readClause_96_96 15 rfl) rfl
theorem dX10_readClause_112 : decode cX10_readClause 112 = .ok (.ifCond .eq 41, 3) := zo_153 (zi_at zh_dX10_readClause_112_112 0 rfl) (zi_at zh_dX10_readClause_112_112 1 rfl) (zi_at zh_dX10_readClause_112_112 2 rfl) rfl
theorem dX10_readClause_115 : decode cX10_readClause 115 = .ok (.aload_n 0, 1) := zo_42 (zi_at zh_dX10_readClause_112_112 3 rfl)
theorem dX10_readClause_116 : decode cX10_readClause 116 = .ok (.iconst 0, 1) := zo_3 (zi_at zh_dX10_readClause_112_112 4 rfl)
theorem dX10_readClause_117 : decode cX10_readClause 117 = .ok (.iload_n 2, 1) := zo_28 (zi_at zh_dX10_readClause_112_112 5 rfl)
theorem dX10_readClause_118 : decode cX10_readClause 118 = .ok (.ifCond .ne 7, 3) := zo_154 (zi_at zh_dX10_readClause_112_112 6 rfl) (zi_at zh_dX10_readClause_112_112 7 rfl) (zi_at zh_dX10_readClause_112_112 8 rfl) rfl
theorem dX10_readClause_121 : decode cX10_readClause 121 = .ok (.iconst 1, 1) := zo_4 (zi_at zh_dX10_readClause_112_112 9 rfl)
theorem dX10_readClause_122 : decode cX10_readClause 122 = .ok (.goto 4, 3) := zo_167 (zi_at zh_dX10_readClause_112_112 10 rfl) (zi_at zh_dX10_readClause_112_112 11 rfl) (zi_at zh_dX10_readClause_112_112 12 rfl) rfl
theorem dX10_readClause_125 : decode cX10_readClause 125 = .ok (.iconst 0, 1) := zo_3 (zi_at zh_dX10_readClause_112_112 13 rfl)
theorem dX10_readClause_126 : decode cX10_readClause 126 = .ok (.invokevirtual 81, 3) := zo_182 (zi_at zh_dX10_readClause_112_112 14 rfl) (zi_at zh_dX10_readClause_112_112 15 rfl) (zi_at zh_dX10_readClause_126_128 0 rfl) rfl
theorem dX10_readClause_129 : decode cX10_readClause 129 = .ok (.aload_n 0, 1) := zo_42 (zi_at zh_dX10_readClause_126_128 1 rfl)
theorem dX10_readClause_130 : decode cX10_readClause 130 = .ok (.bipush 63, 2) := zo_16 (zi_at zh_dX10_readClause_126_128 2 rfl) (zi_at zh_dX10_readClause_126_128 3 rfl) rfl
theorem dX10_readClause_132 : decode cX10_readClause 132 = .ok (.invokevirtual 70, 3) := zo_182 (zi_at zh_dX10_readClause_126_128 4 rfl) (zi_at zh_dX10_readClause_126_128 5 rfl) (zi_at zh_dX10_readClause_126_128 6 rfl) rfl
theorem dX10_readClause_135 : decode cX10_readClause 135 = .ok (.aload_n 0, 1) := zo_42 (zi_at zh_dX10_readClause_126_128 7 rfl)
theorem dX10_readClause_136 : decode cX10_readClause 136 = .ok (.getfield 24, 3) := zo_180 (zi_at zh_dX10_readClause_126_128 8 rfl) (zi_at zh_dX10_readClause_126_128 9 rfl) (zi_at zh_dX10_readClause_126_128 10 rfl) rfl
theorem dX10_readClause_139 : decode cX10_readClause 139 = .ok (.aload_n 0, 1) := zo_42 (zi_at zh_dX10_readClause_126_128 11 rfl)
theorem dX10_readClause_140 : decode cX10_readClause 140 = .ok (.getfield 40, 3) := zo_180 (zi_at zh_dX10_readClause_126_128 12 rfl) (zi_at zh_dX10_readClause_126_128 13 rfl) (zi_at zh_dX10_readClause_126_128 14 rfl) rfl
theorem dX10_readClause_143 : decode cX10_readClause 143 = .ok (.aload_n 0, 1) := zo_42 (zi_at zh_dX10_readClause_126_128 15 rfl)
theorem dX10_readClause_144 : decode cX10_readClause 144 = .ok (.getfield 37, 3) := zo_180 (zi_at zh_dX10_readClause_144_144 0 rfl) (zi_at zh_dX10_readClause_144_144 1 rfl) (zi_at zh_dX10_readClause_144_144 2 rfl) rfl
theorem dX10_readClause_147 : decode cX10_readClause 147 = .ok (.iastore, 1) := zo_79 (zi_at zh_dX10_readClause_144_144 3 rfl)
theorem dX10_readClause_148 : decode cX10_readClause 148 = .ok (.aload_n 0, 1) := zo_42 (zi_at zh_dX10_readClause_144_144 4 rfl)
theorem dX10_readClause_149 : decode cX10_readClause 149 = .ok (.iconst 0, 1) := zo_3 (zi_at zh_dX10_readClause_144_144 5 rfl)
theorem dX10_readClause_150 : decode cX10_readClause 150 = .ok (.invokevirtual 76, 3) := zo_182 (zi_at zh_dX10_readClause_144_144 6 rfl) (zi_at zh_dX10_readClause_144_144 7 rfl) (zi_at zh_dX10_readClause_144_144 8 rfl) rfl
theorem dX10_readClause_153 : decode cX10_readClause 153 = .ok (.aload_n 0, 1) := zo_42 (zi_at zh_dX10_readClause_144_144 9 rfl)
theorem dX10_readClause_154 : decode cX10_readClause 154 = .ok (.dup, 1) := zo_89 (zi_at zh_dX10_readClause_144_144 10 rfl)
theorem dX10_readClause_155 : decode cX10_readClause 155 = .ok (.getfield 40, 3) := zo_180 (zi_at zh_dX10_readClause_144_144 11 rfl) (zi_at zh_dX10_readClause_144_144 12 rfl) (zi_at zh_dX10_readClause_144_144 13 rfl) rfl
theorem dX10_readClause_158 : decode cX10_readClause 158 = .ok (.iconst 1, 1) := zo_4 (zi_at zh_dX10_readClause_144_144 14 rfl)
theorem dX10_readClause_159 : decode cX10_readClause 159 = .ok (.iadd, 1) := zo_96 (zi_at zh_dX10_readClause_144_144 15 rfl)
theorem dX10_readClause_160 : decode cX10_readClause 160 = .ok (.putfield 40, 3) := zo_181 (zi_at zh_dX10_readClause_160_160 0 rfl) (zi_at zh_dX10_readClause_160_160 1 rfl) (zi_at zh_dX10_readClause_160_160 2 rfl) rfl
theorem dX10_readClause_163 : decode cX10_readClause 163 = .ok (.return_, 1) := zo_177 (zi_at zh_dX10_readClause_160_160 3 rfl)
def v_readClause : List Cond := .code yX10_readClause cX10_readClause 3 none :: vA
abbrev rm_readClause : Room := { frames := 70, cells := 0, slots := 0, locals := 2800 }
def w_readClause : Nat → Nat → Bool := wl [22, 23, 24, 25] [(2, 2), (2, 3), (2, 5), (2, 9)]
set_option maxHeartbeats 4000000 in
set_option maxRecDepth 100000 in
theorem q_readClause (l : Launch) (dC : Nat → ClassId) (dI : Nat → Nat → Nat) (cT : Nat → ClassId) (cf : Nat → Nat) (hC : CF cf) (ad : Nat → Nat) (E : Nat → va_E) (sz : Nat)  (hI0 : IXL cT (shC cf) (spC cf) (LC cf) ad E) (hh0 : TPok (xi (E 24)) (xi (E 25)) (xi (E 2) 9) (xi (E 2) 5)) : Met l yX10_readClause v_readClause rm_readClause (va_Pc [.ref (ad 2)] (HWL dC dI (TYC cT) cf ad E sz)) (va_Qv (S := Nat → va_E) (fun u => IXL cT (shC cf) (spC cf) (LC cf) ad u ∧ Kp w_readClause E u ∧ (((xi (E 2) 5).toInt ≤ (xi (u 2) 5).toInt) ∧ (TPok (xi (u 24)) (xi (u 25)) (xi (u 2) 9) (xi (u 2) 5)))) (HBL dC dI (LC cf) ad) (va_A (WL (LC cf) ad E) sz)) 0 0 (va_A (WL (LC cf) ad E) sz) := by
  obtain ⟨⟨hc0, hc1, hc2, hc3, hc4, hc5⟩, hcr⟩ := id hC
  refine Met.ofW (cc := cX10_readClause) (maxL := 3) (ret := none) (by decide) rfl ?_
  intro p e s m args below meth c s₁ B hml hv
  obtain ⟨hargs, hsz, hP, hK, hD0, hEV⟩ := hv
  subst hsz
  have hx := B.exec
  have hb := B.bytes
  have hr := B.returns
  have hts := atoms_spec (ws := v_readClause) B.pre
  have hown : s.vm.findClass RX10 = some m.cls := findClass_of_methodNamed B.named
  have hlocks := B.notSynchronized
  have hinX10 : ∀ w ∈ u_ws RX10 TX10 10, w ∈ v_readClause := fun w h => vA_in _ w (in_X10 w h)
  generalize hAe : va_A (WL (LC cf) ad E) s.heap.size = A at hEV ⊢
  have hA : ∀ q : Nat, s.heap.size ≤ q → A q := fun q h => by rw [← hAe]; exact Or.inr h
  have hD : va_D A (WL (LC cf) ad E) := by rw [← hAe]; exact hD0.self
  have hS : va_S A s.heap s.heap [] := va_S.rf
  have hI := hI0
  have hKp : Kp w_readClause E E := Kp.rf
  have hl := lv_entry ([.ref (ad 2)]) (n := 3) (Nat.le_of_ble_eq_true rfl)
  obtain ⟨Q, hQ⟩ : ∃ Q, Q = MQ below (va_Qv (S := Nat → va_E) (fun u => IXL cT (shC cf) (spC cf) (LC cf) ad u ∧ Kp w_readClause E u ∧ (((xi (E 2) 5).toInt ≤ (xi (u 2) 5).toInt) ∧ (TPok (xi (u 24)) (xi (u 25)) (xi (u 2) 9) (xi (u 2) 5)))) (HBL dC dI (LC cf) ad) (A)) args s 0 0 (A) := ⟨_, rfl⟩
  rw [← hQ, show entryFrame m args 3 = _ from (congrArg (fun z => entryFrame m z 3) hargs).trans (lg_entry_eq _ _ _)]
  generalize (lg_sl ([.ref (ad 2)]) ++ List.replicate (3 - (lg_sl ([.ref (ad 2)])).length) Slot.unset).toArray = ls at hl ⊢
  have hl : lv_has ls 3 [(0, .ref (ad 2))] := hl
  obtain ⟨y1, ey1⟩ : ∃ y, xi (E 2) 5 = y := ⟨_, rfl⟩
  have fy1 : xv (E 2) 5 = .int y1 := (hI.fi 2 (mF 2 rfl) rfl (Nat.le_of_ble_eq_true rfl) rfl).trans (congrArg Value.int ey1)
  have i2 : 0 ≤ y1.toInt ∧ y1.toInt ≤ 200 := by rw [← ey1]; exact hI.iv 2 (mF 2 rfl) rfl (Nat.le_of_ble_eq_true rfl) rfl
  obtain ⟨g3, hg3⟩ : ∃ g, xi (E 24) = g := ⟨_, rfl⟩
  obtain ⟨g4, hg4⟩ : ∃ g, xi (E 25) = g := ⟨_, rfl⟩
  obtain ⟨y5, ey5⟩ : ∃ y, xi (E 2) 9 = y := ⟨_, rfl⟩
  have fy5 : xv (E 2) 9 = .int y5 := (hI.fi 2 (mF 2 rfl) rfl (Nat.le_of_ble_eq_true rfl) rfl).trans (congrArg Value.int ey5)
  have i6 : 0 ≤ y5.toInt ∧ y5.toInt ≤ 51 := by rw [← ey5]; exact hI.iv 2 (mF 2 rfl) rfl (Nat.le_of_ble_eq_true rfl) rfl
  have hTP := hh0
  try rw [show xi (E 24) = g3 from hg3] at hTP
  try rw [show xi (E 25) = g4 from hg4] at hTP
  try rw [show xi (E 2) 9 = y5 from vi_e fy5] at hTP
  try rw [show xi (E 2) 5 = y1 from vi_e fy1] at hTP
  refine lv_aload_n hx hb dX10_readClause_0 rfl (lv_at hl 0 rfl) ?_
  refine th_iL (va_runV (As := []) (rest := []) ⟨hx, hb, hml, hown, hts⟩ (q_next l dC dI cT cf hC ad E s.heap.size hI) (cwV 0 hts (gi_V (in_8 _ (List.mem_of_getElem? (i := 27) rfl)) (in_8 _ (List.mem_of_getElem? (i := 28) rfl)) (in_8 _ (List.mem_of_getElem? (i := 29) rfl)) (in_8 _ (List.mem_of_getElem? (i := 14) rfl)) (in_8 _ (List.mem_of_getElem? (i := 19) rfl))) rfl rfl rfl (by decide +kernel) ⟨Nat.le_of_ble_eq_true rfl, Nat.le_of_ble_eq_true rfl⟩) ⟨HWL_bl, va_recv hK hP (ci := 11) (q0 := posL 2 (LC cf)) rfl (hI.ob 2 (mF 2 rfl) rfl), (HWL_wi hP hK (WL_D hD) hS hA hEV)⟩ rfl rfl hl.1 rfl (lv_room (Nat.le_of_ble_eq_true rfl)) dX10_readClause_1 ⟨Nat.le_of_ble_eq_true rfl, Nat.le_of_ble_eq_true rfl⟩) (WL_D hD) hS hA (fun r7 E8 H locs hw hP hS => ?_)
  obtain ⟨hI, kq9, hw⟩ := hw
  have hKb := hKp
  have hKp := hKp.tr kq9 (wl_sub rfl rfl)
  obtain ⟨y10, ey10⟩ : ∃ y, xi (E8 2) 2 = y := ⟨_, rfl⟩
  have fy10 : xv (E8 2) 2 = .int y10 := (hI.fi 2 (mF 2 rfl) rfl (Nat.le_of_ble_eq_true rfl) rfl).trans (congrArg Value.int ey10)
  have i11 : 0 ≤ y10.toInt ∧ y10.toInt ≤ 200 := by rw [← ey10]; exact hI.iv 2 (mF 2 rfl) rfl (Nat.le_of_ble_eq_true rfl) rfl
  obtain ⟨f12, f13⟩ := hw
  have i14 : 0 ≤ (xi (E 2) 1).toInt ∧ (xi (E 2) 1).toInt ≤ 200 := hI0.iv 2 (mF 2 rfl) rfl (Nat.le_of_ble_eq_true rfl) rfl
  try rw [(show xi (E8 2) 2 = y10 from vi_e fy10)] at f13
  refine lv_istore_n (lv' := [(1, .int r7), (0, .ref (ad 2))]) hx hb dX10_readClause_4 rfl hl (by decide) rfl (fun ls hl => ?_)
  obtain ⟨qs15, vs16, hRqs15, hSSqs15⟩ := hEV.2.1.1
  refine va_ldcS hx hb hown hRqs15 dX10_readClause_5 ?_
  refine lv_iload_n hx hb dX10_readClause_7 rfl (lv_at hl 0 rfl) ?_
  refine th_pi (va_runSN (As := [.ref qs15, .int r7]) (rest := []) ⟨hx, hb, hml, hown, hts⟩ (q_isOneOf l qs15 vs16 tLAB r7 (by decide) (by decide)) ⟨va_cnB 2 hts (gi_0 (in_8 _ (List.mem_of_getElem? (i := 31) rfl))) rfl rfl rfl (hEV.1.1 _ (List.mem_of_getElem? (i := 12) rfl)) (hts _ (vA_in _ _ (in_4 _ (List.mem_of_getElem? (i := 23) rfl)))) (by decide +kernel) ⟨Nat.le_of_ble_eq_true rfl, Nat.le_of_ble_eq_true rfl⟩, (hts _ (vA_in _ _ (in_8 _ (List.mem_of_getElem? (i := 30) rfl)))), trivial⟩ ⟨fun a U g mk q => ⟨q.1, SS_c q.2⟩, fun U hU hW => ⟨rfl, SS_w hU hW hS (fun _ h => h.elim) hSSqs15⟩⟩ rfl rfl hl.1 rfl (lv_room (Nat.le_of_ble_eq_true rfl)) dX10_readClause_8 ⟨Nat.le_of_ble_eq_true rfl, Nat.le_of_ble_eq_true rfl⟩) hS (fun r17 H1 locs1 hw hk1 hS => ?_)
  have hP := ub_keep hP hk1
  generalize H1 = H at hP hS ⊢
  generalize locs1 = locs at hS ⊢
  rcases hw with hw | hw
  · -- isOneOf, case 0
    obtain ⟨rfl, f18⟩ := hw
    refine lv_if_eq (tgt := 23) hx hb dX10_readClause_11 (by decide) (fun c19 => ?_) (fun c19 => ?_)
    · --11 taken
      exact absurd c19 (by decide)
    · --11 not
      refine lv_aload_n hx hb dX10_readClause_14 rfl (lv_at hl 1 rfl) ?_
      refine th_getL (ci := 11) (C := RX10) (T := TX10) (N := 10) (v := .int y5) hx hb hts hinX10 hown hK hP hI 2 (mF 2 rfl) rfl rfl 9 (Nat.le_of_ble_eq_true rfl) (hts _ (vA_in _ _ (in_7 _ (List.mem_of_getElem? (i := 36) rfl)))) (fun _ h9 => h9) ((kq9 2 9 rfl).trans fy5) dX10_readClause_15 ?_
      refine lv_bipush (v := 51) hx hb dX10_readClause_18 (by decide) ?_
      refine lv_icmp_lt (tgt := 28) hx hb dX10_readClause_20 (by decide) (fun c20 => ?_) (fun c20 => ?_)
      · --20 taken
        have t21 : y5.toInt < 51 := ti_lt c20
        have i22 : 0 ≤ y5.toInt ∧ y5.toInt ≤ 50 := iv_lt_l t21 i6 (il_ 51) (by decide)
        refine lv_aload_n hx hb dX10_readClause_28 rfl (lv_at hl 1 rfl) ?_
        refine lv_dup hx hb dX10_readClause_29 rfl ?_
        refine th_getL (ci := 11) (C := RX10) (T := TX10) (N := 10) (v := .int y10) hx hb hts hinX10 hown hK hP hI 2 (mF 2 rfl) rfl rfl 2 (Nat.le_of_ble_eq_true rfl) (hts _ (vA_in _ _ (in_8 _ (List.mem_of_getElem? (i := 9) rfl)))) (fun _ h9 => h9) fy10 dX10_readClause_30 ?_
        refine lv_iconst (v := 1) hx hb dX10_readClause_33 (by decide) ?_
        refine lv_iadd hx hb dX10_readClause_34 ?_
        refine lv_topi (fun y23 ey23 => ?_)
        obtain ⟨ty23, iy23⟩ := ti_add (e := 1) (f := 201) i11 ln_1 ey23 (by decide)
        have ty23 : y23.toInt = y10.toInt + 1 := ty23
        have iy23 : 1 ≤ y23.toInt ∧ y23.toInt ≤ 201 := iy23
        have i24 : 1 ≤ y23.toInt ∧ y23.toInt ≤ 200 := by omega
        refine th_putL (ci := 11) (C := RX10) (T := TX10) (N := 10) (v := .int y23) (ty := .int) hx hb hts hinX10 tyX10 tyX10_ok nmX10 hown hK hP (WL_D hD) hS hI 2 (mF 2 rfl) rfl rfl 2 (Nat.le_of_ble_eq_true rfl) (hts _ (vA_in _ _ (in_8 _ (List.mem_of_getElem? (i := 9) rfl)))) (fun _ h9 => h9) rfl (by decide +kernel) rfl rfl (okI rfl (iv_w i24 (by decide))) dX10_readClause_35 (fun H locs E25 pw26 hI hP hS => ?_)
        have hKp := hKp.pw pw26 rfl
        refine lv_aload_n hx hb dX10_readClause_38 rfl (lv_at hl 1 rfl) ?_
        refine lv_bipush (v := 58) hx hb dX10_readClause_39 (by decide) ?_
        refine th_vL (va_runV (As := [.int 58]) (rest := []) ⟨hx, hb, hml, hown, hts⟩ (q_take l dC dI cT cf hC ad E25 H.size (58 : Int32) hI (iv_w ln_58 (by decide))) (cwV 1 hts (gi_V (in_8 _ (List.mem_of_getElem? (i := 35) rfl)) (in_8 _ (List.mem_of_getElem? (i := 36) rfl)) (in_8 _ (List.mem_of_getElem? (i := 37) rfl)) (in_8 _ (List.mem_of_getElem? (i := 14) rfl)) (in_8 _ (List.mem_of_getElem? (i := 38) rfl))) rfl rfl rfl (by decide +kernel) ⟨Nat.le_of_ble_eq_true rfl, Nat.le_of_ble_eq_true rfl⟩) ⟨HWL_bl, va_recv hK hP (ci := 11) (q0 := posL 2 (LC cf)) rfl (hI.ob 2 (mF 2 rfl) rfl), (HWL_wi hP hK (WL_D hD) hS hA hEV)⟩ rfl rfl hl.1 rfl (lv_room (Nat.le_of_ble_eq_true rfl)) dX10_readClause_41 ⟨Nat.le_of_ble_eq_true rfl, Nat.le_of_ble_eq_true rfl⟩) (WL_D hD) hS hA (fun E28 H locs hw hP hS => ?_)
        obtain ⟨hI, kq29, hw⟩ := hw
        have hKb := hKp
        have hKp := hKp.tr kq29 (wl_sub rfl rfl)
        refine lv_aload_n hx hb dX10_readClause_44 rfl (lv_at hl 1 rfl) ?_
        refine th_getL (ci := 11) (C := RX10) (T := TX10) (N := 10) (v := .ref (ad 23)) hx hb hts hinX10 hown hK hP hI 2 (mF 2 rfl) rfl rfl 6 (Nat.le_of_ble_eq_true rfl) (hts _ (vA_in _ _ (in_7 _ (List.mem_of_getElem? (i := 35) rfl)))) (fun _ h9 => h9) (hI.fr 2 (mF 2 rfl) rfl (Nat.le_of_ble_eq_true rfl) 23 rfl) dX10_readClause_45 ?_
        refine lv_aload_n hx hb dX10_readClause_48 rfl (lv_at hl 1 rfl) ?_
        refine th_getL (ci := 11) (C := RX10) (T := TX10) (N := 10) (v := .int y5) hx hb hts hinX10 hown hK hP hI 2 (mF 2 rfl) rfl rfl 9 (Nat.le_of_ble_eq_true rfl) (hts _ (vA_in _ _ (in_7 _ (List.mem_of_getElem? (i := 36) rfl)))) (fun _ h9 => h9) ((kq29 2 9 rfl).trans ((pw26.2 2 9 (fun q9 => absurd q9.2 (Nat.ne_of_beq_eq_false rfl))).trans ((kq9 2 9 rfl).trans fy5))) dX10_readClause_49 ?_
        refine lv_iload_n hx hb dX10_readClause_52 rfl (lv_at hl 0 rfl) ?_
        have n30 : vp_in y5 51 := (iv_in (n := 51) i22 (by decide))
        have i33 : 0 ≤ r7.toInt ∧ r7.toInt ≤ 255 := by omega
        refine th_iastL hx hb hK hP (WL_D hD) hS hI 23 (mF 23 rfl) rfl rfl n30 (okI rfl i33) dX10_readClause_53 (fun H locs E31 pw32 hI hP hS => ?_)
        have hKp := hKp.pw pw32 rfl
        refine lv_aload_n hx hb dX10_readClause_54 rfl (lv_at hl 1 rfl) ?_
        refine th_getL (ci := 11) (C := RX10) (T := TX10) (N := 10) (v := .ref (ad 24)) hx hb hts hinX10 hown hK hP hI 2 (mF 2 rfl) rfl rfl 7 (Nat.le_of_ble_eq_true rfl) (hts _ (vA_in _ _ (in_7 _ (List.mem_of_getElem? (i := 37) rfl)))) (fun _ h9 => h9) (hI.fr 2 (mF 2 rfl) rfl (Nat.le_of_ble_eq_true rfl) 24 rfl) dX10_readClause_55 ?_
        refine lv_aload_n hx hb dX10_readClause_58 rfl (lv_at hl 1 rfl) ?_
        refine th_getL (ci := 11) (C := RX10) (T := TX10) (N := 10) (v := .int y5) hx hb hts hinX10 hown hK hP hI 2 (mF 2 rfl) rfl rfl 9 (Nat.le_of_ble_eq_true rfl) (hts _ (vA_in _ _ (in_7 _ (List.mem_of_getElem? (i := 36) rfl)))) (fun _ h9 => h9) ((pw32.2 2 9 (fun q9 => absurd q9.1 (Nat.ne_of_beq_eq_false rfl))).trans ((kq29 2 9 rfl).trans ((pw26.2 2 9 (fun q9 => absurd q9.2 (Nat.ne_of_beq_eq_false rfl))).trans ((kq9 2 9 rfl).trans fy5)))) dX10_readClause_59 ?_
        refine lv_aload_n hx hb dX10_readClause_62 rfl (lv_at hl 1 rfl) ?_
        refine th_getL (ci := 11) (C := RX10) (T := TX10) (N := 10) (v := .int y1) hx hb hts hinX10 hown hK hP hI 2 (mF 2 rfl) rfl rfl 5 (Nat.le_of_ble_eq_true rfl) (hts _ (vA_in _ _ (in_7 _ (List.mem_of_getElem? (i := 30) rfl)))) (fun _ h9 => h9) ((pw32.2 2 5 (fun q9 => absurd q9.1 (Nat.ne_of_beq_eq_false rfl))).trans ((kq29 2 5 rfl).trans ((pw26.2 2 5 (fun q9 => absurd q9.2 (Nat.ne_of_beq_eq_false rfl))).trans ((kq9 2 5 rfl).trans fy1)))) dX10_readClause_63 ?_
        have n34 : vp_in y5 52 := (iv_in (n := 52) i22 (by decide))
        refine th_iastL hx hb hK hP (WL_D hD) hS hI 24 (mF 24 rfl) rfl rfl n34 (okI rfl i2) dX10_readClause_66 (fun H locs E35 pw36 hI hP hS => ?_)
        have hKp := hKp.pw pw36 rfl
        obtain ⟨g37, eg37⟩ : ∃ z : Nat → Int32, z = upd g3 y5.toNatClampNeg y1 := ⟨_, rfl⟩
        have hg37 : xi (E35 24) = g37 := by rw [pw36.eu, ((pw32.ef 24 (Nat.ne_of_beq_eq_false rfl)).trans ((kq29.ef 24 (fun _ => rfl)).trans ((pw26.ef 24 (Nat.ne_of_beq_eq_false rfl)).trans ((kq9.ef 24 (fun _ => rfl)).trans hg3)))), eg37]
        refine lv_aload_n hx hb dX10_readClause_67 rfl (lv_at hl 1 rfl) ?_
        refine th_getL (ci := 11) (C := RX10) (T := TX10) (N := 10) (v := .ref (ad 25)) hx hb hts hinX10 hown hK hP hI 2 (mF 2 rfl) rfl rfl 8 (Nat.le_of_ble_eq_true rfl) (hts _ (vA_in _ _ (in_7 _ (List.mem_of_getElem? (i := 38) rfl)))) (fun _ h9 => h9) (hI.fr 2 (mF 2 rfl) rfl (Nat.le_of_ble_eq_true rfl) 25 rfl) dX10_readClause_68 ?_
        refine lv_aload_n hx hb dX10_readClause_71 rfl (lv_at hl 1 rfl) ?_
        refine th_getL (ci := 11) (C := RX10) (T := TX10) (N := 10) (v := .int y5) hx hb hts hinX10 hown hK hP hI 2 (mF 2 rfl) rfl rfl 9 (Nat.le_of_ble_eq_true rfl) (hts _ (vA_in _ _ (in_7 _ (List.mem_of_getElem? (i := 36) rfl)))) (fun _ h9 => h9) ((pw36.2 2 9 (fun q9 => absurd q9.1 (Nat.ne_of_beq_eq_false rfl))).trans ((pw32.2 2 9 (fun q9 => absurd q9.1 (Nat.ne_of_beq_eq_false rfl))).trans ((kq29 2 9 rfl).trans ((pw26.2 2 9 (fun q9 => absurd q9.2 (Nat.ne_of_beq_eq_false rfl))).trans ((kq9 2 9 rfl).trans fy5))))) dX10_readClause_72 ?_
        refine lv_aload_n hx hb dX10_readClause_75 rfl (lv_at hl 1 rfl) ?_
        refine th_getL (ci := 11) (C := RX10) (T := TX10) (N := 10) (v := .int y1) hx hb hts hinX10 hown hK hP hI 2 (mF 2 rfl) rfl rfl 5 (Nat.le_of_ble_eq_true rfl) (hts _ (vA_in _ _ (in_7 _ (List.mem_of_getElem? (i := 30) rfl)))) (fun _ h9 => h9) ((pw36.2 2 5 (fun q9 => absurd q9.1 (Nat.ne_of_beq_eq_false rfl))).trans ((pw32.2 2 5 (fun q9 => absurd q9.1 (Nat.ne_of_beq_eq_false rfl))).trans ((kq29 2 5 rfl).trans ((pw26.2 2 5 (fun q9 => absurd q9.2 (Nat.ne_of_beq_eq_false rfl))).trans ((kq9 2 5 rfl).trans fy1))))) dX10_readClause_76 ?_
        have n38 : vp_in y5 51 := (iv_in (n := 51) i22 (by decide))
        refine th_iastL hx hb hK hP (WL_D hD) hS hI 25 (mF 25 rfl) rfl rfl n38 (okI rfl i2) dX10_readClause_79 (fun H locs E39 pw40 hI hP hS => ?_)
        have hKp := hKp.pw pw40 rfl
        obtain ⟨g41, eg41⟩ : ∃ z : Nat → Int32, z = upd g4 y5.toNatClampNeg y1 := ⟨_, rfl⟩
        have hg41 : xi (E39 25) = g41 := by rw [pw40.eu, ((pw36.ef 25 (Nat.ne_of_beq_eq_false rfl)).trans ((pw32.ef 25 (Nat.ne_of_beq_eq_false rfl)).trans ((kq29.ef 25 (fun _ => rfl)).trans ((pw26.ef 25 (Nat.ne_of_beq_eq_false rfl)).trans ((kq9.ef 25 (fun _ => rfl)).trans hg4))))), eg41]
        obtain ⟨qs42, vs43, hRqs42, hSSqs42⟩ := hEV.2.1.2.1
        refine va_ldcS hx hb hown hRqs42 dX10_readClause_80 ?_
        refine lv_aload_n hx hb dX10_readClause_82 rfl (lv_at hl 1 rfl) ?_
        refine th_iL (va_runV (As := []) (rest := [.ref qs42]) ⟨hx, hb, hml, hown, hts⟩ (q_next l dC dI cT cf hC ad E39 H.size hI) (cwV 0 hts (gi_V (in_8 _ (List.mem_of_getElem? (i := 27) rfl)) (in_8 _ (List.mem_of_getElem? (i := 28) rfl)) (in_8 _ (List.mem_of_getElem? (i := 29) rfl)) (in_8 _ (List.mem_of_getElem? (i := 14) rfl)) (in_8 _ (List.mem_of_getElem? (i := 19) rfl))) rfl rfl rfl (by decide +kernel) ⟨Nat.le_of_ble_eq_true rfl, Nat.le_of_ble_eq_true rfl⟩) ⟨HWL_bl, va_recv hK hP (ci := 11) (q0 := posL 2 (LC cf)) rfl (hI.ob 2 (mF 2 rfl) rfl), (HWL_wi hP hK (WL_D hD) hS hA hEV)⟩ rfl rfl hl.1 rfl (lv_room (Nat.le_of_ble_eq_true rfl)) dX10_readClause_83 ⟨Nat.le_of_ble_eq_true rfl, Nat.le_of_ble_eq_true rfl⟩) (WL_D hD) hS hA (fun r44 E45 H locs hw hP hS => ?_)
        obtain ⟨hI, kq46, hw⟩ := hw
        have hKb := hKp
        have hKp := hKp.tr kq46 (wl_sub rfl rfl)
        obtain ⟨y47, ey47⟩ : ∃ y, xi (E45 2) 2 = y := ⟨_, rfl⟩
        have fy47 : xv (E45 2) 2 = .int y47 := (hI.fi 2 (mF 2 rfl) rfl (Nat.le_of_ble_eq_true rfl) rfl).trans (congrArg Value.int ey47)
        have i48 : 0 ≤ y47.toInt ∧ y47.toInt ≤ 200 := by rw [← ey47]; exact hI.iv 2 (mF 2 rfl) rfl (Nat.le_of_ble_eq_true rfl) rfl
        obtain ⟨f49, f50⟩ := hw
        try rw [hKb.ei 2 1 rfl] at f50
        try rw [(show xi (E45 2) 2 = y47 from vi_e fy47)] at f50
        refine th_pi (va_runSN (As := [.ref qs42, .int r44]) (rest := []) ⟨hx, hb, hml, hown, hts⟩ (q_isOneOf l qs42 vs43 tCON r44 (by decide) (by decide)) ⟨va_cnB 2 hts (gi_0 (in_8 _ (List.mem_of_getElem? (i := 31) rfl))) rfl rfl rfl (hEV.1.1 _ (List.mem_of_getElem? (i := 12) rfl)) (hts _ (vA_in _ _ (in_4 _ (List.mem_of_getElem? (i := 23) rfl)))) (by decide +kernel) ⟨Nat.le_of_ble_eq_true rfl, Nat.le_of_ble_eq_true rfl⟩, (hts _ (vA_in _ _ (in_8 _ (List.mem_of_getElem? (i := 30) rfl)))), trivial⟩ ⟨fun a U g mk q => ⟨q.1, SS_c q.2⟩, fun U hU hW => ⟨rfl, SS_w hU hW hS (fun _ h => h.elim) hSSqs42⟩⟩ rfl rfl hl.1 rfl (lv_room (Nat.le_of_ble_eq_true rfl)) dX10_readClause_86 ⟨Nat.le_of_ble_eq_true rfl, Nat.le_of_ble_eq_true rfl⟩) hS (fun r51 H1 locs1 hw hk1 hS => ?_)
        have hP := ub_keep hP hk1
        generalize H1 = H at hP hS ⊢
        generalize locs1 = locs at hS ⊢
        rcases hw with hw | hw
        · -- isOneOf, case 0
          obtain ⟨rfl, f52⟩ := hw
          refine lv_istore_n (lv' := [(2, .int 1), (1, .int r7), (0, .ref (ad 2))]) hx hb dX10_readClause_89 rfl hl (by decide) rfl (fun ls hl => ?_)
          refine lv_iload_n hx hb dX10_readClause_90 rfl (lv_at hl 0 rfl) ?_
          refine lv_if_ne (tgt := 99) hx hb dX10_readClause_91 (by decide) (fun c53 => ?_) (fun c53 => ?_)
          · --91 taken
            refine lv_iload_n hx hb dX10_readClause_99 rfl (lv_at hl 0 rfl) ?_
            refine lv_if_ne (tgt := 115) hx hb dX10_readClause_100 (by decide) (fun c54 => ?_) (fun c54 => ?_)
            · --100 taken
              refine lv_aload_n hx hb dX10_readClause_115 rfl (lv_at hl 2 rfl) ?_
              refine lv_iconst (v := 0) hx hb dX10_readClause_116 (by decide) ?_
              refine lv_iload_n hx hb dX10_readClause_117 rfl (lv_at hl 0 rfl) ?_
              refine lv_if_ne (tgt := 125) hx hb dX10_readClause_118 (by decide) (fun c55 => ?_) (fun c55 => ?_)
              · --118 taken
                refine lv_iconst (v := 0) hx hb dX10_readClause_125 (by decide) ?_
                have z0 := ln_0
                refine th_vL (va_runV (As := [.int 0, .int 0]) (rest := []) ⟨hx, hb, hml, hown, hts⟩ ((q_cgroup l 8).2.2 dC dI cT cf hC ad E45 H.size (0 : Int32) (0 : Int32) hI (iv_w ln_0 (by decide)) (by (try rw [(show xi (E45 2) 5 = y1 from vi_e ((kq46 2 5 rfl).trans ((pw40.2 2 5 (fun q9 => absurd q9.1 (Nat.ne_of_beq_eq_false rfl))).trans ((pw36.2 2 5 (fun q9 => absurd q9.1 (Nat.ne_of_beq_eq_false rfl))).trans ((pw32.2 2 5 (fun q9 => absurd q9.1 (Nat.ne_of_beq_eq_false rfl))).trans ((kq29 2 5 rfl).trans ((pw26.2 2 5 (fun q9 => absurd q9.2 (Nat.ne_of_beq_eq_false rfl))).trans ((kq9 2 5 rfl).trans fy1))))))))]); omega) (iv_w ln_0 (by decide))) (cwV 2 hts (gi_V (in_9 _ (List.mem_of_getElem? (i := 28) rfl)) (in_9 _ (List.mem_of_getElem? (i := 29) rfl)) (in_9 _ (List.mem_of_getElem? (i := 30) rfl)) (in_8 _ (List.mem_of_getElem? (i := 14) rfl)) (in_9 _ (List.mem_of_getElem? (i := 31) rfl))) rfl rfl rfl (by decide +kernel) ⟨(show 7 * 8 + 13 + 1 ≤ 70 by omega), (show 8 + (4 + 11) + 40 * (7 * 8 + 13) ≤ 40 * (70) by omega)⟩) ⟨HWL_bl, va_recv hK hP (ci := 11) (q0 := posL 2 (LC cf)) rfl (hI.ob 2 (mF 2 rfl) rfl), (HWL_wi hP hK (WL_D hD) hS hA hEV)⟩ rfl rfl hl.1 rfl (lv_room (Nat.le_of_ble_eq_true rfl)) dX10_readClause_126 ⟨Nat.le_of_ble_eq_true rfl, Nat.le_of_ble_eq_true rfl⟩) (WL_D hD) hS hA (fun E57 H locs hw hP hS => ?_)
                obtain ⟨hI, kq58, hw⟩ := hw
                have hKb := hKp
                have hKp := hKp.tr kq58 (wl_sub rfl rfl)
                obtain ⟨y59, ey59⟩ : ∃ y, xi (E57 2) 5 = y := ⟨_, rfl⟩
                have fy59 : xv (E57 2) 5 = .int y59 := (hI.fi 2 (mF 2 rfl) rfl (Nat.le_of_ble_eq_true rfl) rfl).trans (congrArg Value.int ey59)
                have i60 : 0 ≤ y59.toInt ∧ y59.toInt ≤ 200 := by rw [← ey59]; exact hI.iv 2 (mF 2 rfl) rfl (Nat.le_of_ble_eq_true rfl) rfl
                have f61 := hw
                try rw [(show xi (E45 2) 5 = y1 from vi_e ((kq46 2 5 rfl).trans ((pw40.2 2 5 (fun q9 => absurd q9.1 (Nat.ne_of_beq_eq_false rfl))).trans ((pw36.2 2 5 (fun q9 => absurd q9.1 (Nat.ne_of_beq_eq_false rfl))).trans ((pw32.2 2 5 (fun q9 => absurd q9.1 (Nat.ne_of_beq_eq_false rfl))).trans ((kq29 2 5 rfl).trans ((pw26.2 2 5 (fun q9 => absurd q9.2 (Nat.ne_of_beq_eq_false rfl))).trans ((kq9 2 5 rfl).trans fy1))))))))] at f61
                try rw [(show xi (E57 2) 5 = y59 from vi_e fy59)] at f61
                refine lv_aload_n hx hb dX10_readClause_129 rfl (lv_at hl 2 rfl) ?_
                refine lv_bipush (v := 63) hx hb dX10_readClause_130 (by decide) ?_
                refine th_vL (va_runV (As := [.int 63]) (rest := []) ⟨hx, hb, hml, hown, hts⟩ (q_take l dC dI cT cf hC ad E57 H.size (63 : Int32) hI (iv_w ln_63 (by decide))) (cwV 1 hts (gi_V (in_8 _ (List.mem_of_getElem? (i := 35) rfl)) (in_8 _ (List.mem_of_getElem? (i := 36) rfl)) (in_8 _ (List.mem_of_getElem? (i := 37) rfl)) (in_8 _ (List.mem_of_getElem? (i := 14) rfl)) (in_8 _ (List.mem_of_getElem? (i := 38) rfl))) rfl rfl rfl (by decide +kernel) ⟨Nat.le_of_ble_eq_true rfl, Nat.le_of_ble_eq_true rfl⟩) ⟨HWL_bl, va_recv hK hP (ci := 11) (q0 := posL 2 (LC cf)) rfl (hI.ob 2 (mF 2 rfl) rfl), (HWL_wi hP hK (WL_D hD) hS hA hEV)⟩ rfl rfl hl.1 rfl (lv_room (Nat.le_of_ble_eq_true rfl)) dX10_readClause_132 ⟨Nat.le_of_ble_eq_true rfl, Nat.le_of_ble_eq_true rfl⟩) (WL_D hD) hS hA (fun E63 H locs hw hP hS => ?_)
                obtain ⟨hI, kq64, hw⟩ := hw
                have hKb := hKp
                have hKp := hKp.tr kq64 (wl_sub rfl rfl)
                refine lv_aload_n hx hb dX10_readClause_135 rfl (lv_at hl 2 rfl) ?_
                refine th_getL (ci := 11) (C := RX10) (T := TX10) (N := 10) (v := .ref (ad 25)) hx hb hts hinX10 hown hK hP hI 2 (mF 2 rfl) rfl rfl 8 (Nat.le_of_ble_eq_true rfl) (hts _ (vA_in _ _ (in_7 _ (List.mem_of_getElem? (i := 38) rfl)))) (fun _ h9 => h9) (hI.fr 2 (mF 2 rfl) rfl (Nat.le_of_ble_eq_true rfl) 25 rfl) dX10_readClause_136 ?_
                refine lv_aload_n hx hb dX10_readClause_139 rfl (lv_at hl 2 rfl) ?_
                refine th_getL (ci := 11) (C := RX10) (T := TX10) (N := 10) (v := .int y5) hx hb hts hinX10 hown hK hP hI 2 (mF 2 rfl) rfl rfl 9 (Nat.le_of_ble_eq_true rfl) (hts _ (vA_in _ _ (in_7 _ (List.mem_of_getElem? (i := 36) rfl)))) (fun _ h9 => h9) ((kq64 2 9 rfl).trans ((kq58 2 9 rfl).trans ((kq46 2 9 rfl).trans ((pw40.2 2 9 (fun q9 => absurd q9.1 (Nat.ne_of_beq_eq_false rfl))).trans ((pw36.2 2 9 (fun q9 => absurd q9.1 (Nat.ne_of_beq_eq_false rfl))).trans ((pw32.2 2 9 (fun q9 => absurd q9.1 (Nat.ne_of_beq_eq_false rfl))).trans ((kq29 2 9 rfl).trans ((pw26.2 2 9 (fun q9 => absurd q9.2 (Nat.ne_of_beq_eq_false rfl))).trans ((kq9 2 9 rfl).trans fy5))))))))) dX10_readClause_140 ?_
                refine lv_aload_n hx hb dX10_readClause_143 rfl (lv_at hl 2 rfl) ?_
                refine th_getL (ci := 11) (C := RX10) (T := TX10) (N := 10) (v := .int y59) hx hb hts hinX10 hown hK hP hI 2 (mF 2 rfl) rfl rfl 5 (Nat.le_of_ble_eq_true rfl) (hts _ (vA_in _ _ (in_7 _ (List.mem_of_getElem? (i := 30) rfl)))) (fun _ h9 => h9) ((kq64 2 5 rfl).trans fy59) dX10_readClause_144 ?_
                have n65 : vp_in y5 51 := (iv_in (n := 51) i22 (by decide))
                refine th_iastL hx hb hK hP (WL_D hD) hS hI 25 (mF 25 rfl) rfl rfl n65 (okI rfl i60) dX10_readClause_147 (fun H locs E66 pw67 hI hP hS => ?_)
                have hKp := hKp.pw pw67 rfl
                obtain ⟨g68, eg68⟩ : ∃ z : Nat → Int32, z = upd g41 y5.toNatClampNeg y59 := ⟨_, rfl⟩
                have hg68 : xi (E66 25) = g68 := by rw [pw67.eu, ((kq64.ef 25 (fun _ => rfl)).trans ((kq58.ef 25 (fun _ => rfl)).trans ((kq46.ef 25 (fun _ => rfl)).trans hg41))), eg68]
                refine lv_aload_n hx hb dX10_readClause_148 rfl (lv_at hl 2 rfl) ?_
                refine lv_iconst (v := 0) hx hb dX10_readClause_149 (by decide) ?_
                refine th_vL (va_runV (As := [.int 0]) (rest := []) ⟨hx, hb, hml, hown, hts⟩ ((q_cgroup l 8).1 dC dI cT cf hC ad E66 H.size (0 : Int32) hI (iv_w ln_0 (by decide)) (by (try rw [(show xi (E66 2) 5 = y59 from vi_e ((pw67.2 2 5 (fun q9 => absurd q9.1 (Nat.ne_of_beq_eq_false rfl))).trans ((kq64 2 5 rfl).trans fy59)))]); omega)) (cwV 1 hts (gi_V (in_8 _ (List.mem_of_getElem? (i := 39) rfl)) (in_9 _ (List.mem_of_getElem? (i := 0) rfl)) (in_9 _ (List.mem_of_getElem? (i := 1) rfl)) (in_8 _ (List.mem_of_getElem? (i := 14) rfl)) (in_9 _ (List.mem_of_getElem? (i := 2) rfl))) rfl rfl rfl (by decide +kernel) ⟨(show 7 * 8 + 9 + 1 ≤ 70 by omega), (show 8 + (4 + 11) + 40 * (7 * 8 + 9) ≤ 40 * (70) by omega)⟩) ⟨HWL_bl, va_recv hK hP (ci := 11) (q0 := posL 2 (LC cf)) rfl (hI.ob 2 (mF 2 rfl) rfl), (HWL_wi hP hK (WL_D hD) hS hA hEV)⟩ rfl rfl hl.1 rfl (lv_room (Nat.le_of_ble_eq_true rfl)) dX10_readClause_150 ⟨Nat.le_of_ble_eq_true rfl, Nat.le_of_ble_eq_true rfl⟩) (WL_D hD) hS hA (fun E70 H locs hw hP hS => ?_)
                obtain ⟨hI, kq71, hw⟩ := hw
                have hKb := hKp
                have hKp := hKp.tr kq71 (wl_sub rfl rfl)
                obtain ⟨y72, ey72⟩ : ∃ y, xi (E70 2) 5 = y := ⟨_, rfl⟩
                have fy72 : xv (E70 2) 5 = .int y72 := (hI.fi 2 (mF 2 rfl) rfl (Nat.le_of_ble_eq_true rfl) rfl).trans (congrArg Value.int ey72)
                have i73 : 0 ≤ y72.toInt ∧ y72.toInt ≤ 200 := by rw [← ey72]; exact hI.iv 2 (mF 2 rfl) rfl (Nat.le_of_ble_eq_true rfl) rfl
                have f74 := hw
                try rw [(show xi (E66 2) 5 = y59 from vi_e ((pw67.2 2 5 (fun q9 => absurd q9.1 (Nat.ne_of_beq_eq_false rfl))).trans ((kq64 2 5 rfl).trans fy59)))] at f74
                try rw [(show xi (E70 2) 5 = y72 from vi_e fy72)] at f74
                refine lv_aload_n hx hb dX10_readClause_153 rfl (lv_at hl 2 rfl) ?_
                refine lv_dup hx hb dX10_readClause_154 rfl ?_
                refine th_getL (ci := 11) (C := RX10) (T := TX10) (N := 10) (v := .int y5) hx hb hts hinX10 hown hK hP hI 2 (mF 2 rfl) rfl rfl 9 (Nat.le_of_ble_eq_true rfl) (hts _ (vA_in _ _ (in_7 _ (List.mem_of_getElem? (i := 36) rfl)))) (fun _ h9 => h9) ((kq71 2 9 rfl).trans ((pw67.2 2 9 (fun q9 => absurd q9.1 (Nat.ne_of_beq_eq_false rfl))).trans ((kq64 2 9 rfl).trans ((kq58 2 9 rfl).trans ((kq46 2 9 rfl).trans ((pw40.2 2 9 (fun q9 => absurd q9.1 (Nat.ne_of_beq_eq_false rfl))).trans ((pw36.2 2 9 (fun q9 => absurd q9.1 (Nat.ne_of_beq_eq_false rfl))).trans ((pw32.2 2 9 (fun q9 => absurd q9.1 (Nat.ne_of_beq_eq_false rfl))).trans ((kq29 2 9 rfl).trans ((pw26.2 2 9 (fun q9 => absurd q9.2 (Nat.ne_of_beq_eq_false rfl))).trans ((kq9 2 9 rfl).trans fy5))))))))))) dX10_readClause_155 ?_
                refine lv_iconst (v := 1) hx hb dX10_readClause_158 (by decide) ?_
                refine lv_iadd hx hb dX10_readClause_159 ?_
                refine lv_topi (fun y75 ey75 => ?_)
                obtain ⟨ty75, iy75⟩ := ti_add (e := 1) (f := 51) i22 ln_1 ey75 (by decide)
                have ty75 : y75.toInt = y5.toInt + 1 := ty75
                have iy75 : 1 ≤ y75.toInt ∧ y75.toInt ≤ 51 := iy75
                refine th_putL (ci := 11) (C := RX10) (T := TX10) (N := 10) (v := .int y75) (ty := .int) hx hb hts hinX10 tyX10 tyX10_ok nmX10 hown hK hP (WL_D hD) hS hI 2 (mF 2 rfl) rfl rfl 9 (Nat.le_of_ble_eq_true rfl) (hts _ (vA_in _ _ (in_7 _ (List.mem_of_getElem? (i := 36) rfl)))) (fun _ h9 => h9) rfl (by decide +kernel) rfl rfl (okI rfl (iv_w iy75 (by decide))) dX10_readClause_160 (fun H locs E76 pw77 hI hP hS => ?_)
                have hKp := hKp.pw pw77 rfl
                rw [hQ]
                exact W.vret hx hb hr (fun t ht hW => ⟨⟨E76, rfl, ⟨hI, hKp, ⟨by (try rw [(show xi (E76 2) 5 = y72 from vi_e ((pw77.2 2 5 (fun q9 => absurd q9.2 (Nat.ne_of_beq_eq_false rfl))).trans fy72))]); (try rw [ey1]); all_goals omega, by (try rw [show xi (E76 24) = g37 from ((pw77.ef 24 (Nat.ne_of_beq_eq_false rfl)).trans ((kq71.ef 24 (fun _ => rfl)).trans ((pw67.ef 24 (Nat.ne_of_beq_eq_false rfl)).trans ((kq64.ef 24 (fun _ => rfl)).trans ((kq58.ef 24 (fun _ => rfl)).trans ((kq46.ef 24 (fun _ => rfl)).trans ((pw40.ef 24 (Nat.ne_of_beq_eq_false rfl)).trans hg37)))))))]); (try rw [show xi (E76 25) = g68 from ((pw77.ef 25 (Nat.ne_of_beq_eq_false rfl)).trans ((kq71.ef 25 (fun _ => rfl)).trans hg68))]); (try rw [show xi (E76 2) 9 = y75 from vi_e pw77.1]); (try rw [show xi (E76 2) 5 = y72 from vi_e ((pw77.2 2 5 (fun q9 => absurd q9.2 (Nat.ne_of_beq_eq_false rfl))).trans fy72)]); exact TPok_push hTP (by omega) (by omega) (by omega) (fun k hk => by rw [eg37, pk_un hk]) (fun k hk => by rw [eg68, pk_un hk, eg41, pk_un hk]) (by rw [eg37, pk_us]; omega) (by rw [eg68, pk_us]; omega)⟩⟩, by show va_P (dC, dI) vwCl (WL (LC cf) ad E76) t.heap; rw [ht]; exact hP⟩, hS.F ht⟩) hS.2.2 dX10_readClause_163
              · --118 not
                exact absurd c55 (by decide)
            · --100 not
              exact absurd c54 (by decide)
          · --91 not
            exact absurd c53 (by decide)
        · -- isOneOf, case 1
          obtain rfl := hw
          refine lv_istore_n (lv' := [(2, .int 0), (1, .int r7), (0, .ref (ad 2))]) hx hb dX10_readClause_89 rfl hl (by decide) rfl (fun ls hl => ?_)
          refine lv_iload_n hx hb dX10_readClause_90 rfl (lv_at hl 0 rfl) ?_
          refine lv_if_ne (tgt := 99) hx hb dX10_readClause_91 (by decide) (fun c78 => ?_) (fun c78 => ?_)
          · --91 taken
            exact absurd c78 (by decide)
          · --91 not
            refine lv_aload_n hx hb dX10_readClause_94 rfl (lv_at hl 2 rfl) ?_
            refine lv_iconst (v := 0) hx hb dX10_readClause_95 (by decide) ?_
            have z0 := ln_0
            refine th_vL (va_runV (As := [.int 0]) (rest := []) ⟨hx, hb, hml, hown, hts⟩ ((q_cgroup l 8).1 dC dI cT cf hC ad E45 H.size (0 : Int32) hI (iv_w ln_0 (by decide)) (by (try rw [(show xi (E45 2) 5 = y1 from vi_e ((kq46 2 5 rfl).trans ((pw40.2 2 5 (fun q9 => absurd q9.1 (Nat.ne_of_beq_eq_false rfl))).trans ((pw36.2 2 5 (fun q9 => absurd q9.1 (Nat.ne_of_beq_eq_false rfl))).trans ((pw32.2 2 5 (fun q9 => absurd q9.1 (Nat.ne_of_beq_eq_false rfl))).trans ((kq29 2 5 rfl).trans ((pw26.2 2 5 (fun q9 => absurd q9.2 (Nat.ne_of_beq_eq_false rfl))).trans ((kq9 2 5 rfl).trans fy1))))))))]); omega)) (cwV 1 hts (gi_V (in_8 _ (List.mem_of_getElem? (i := 39) rfl)) (in_9 _ (List.mem_of_getElem? (i := 0) rfl)) (in_9 _ (List.mem_of_getElem? (i := 1) rfl)) (in_8 _ (List.mem_of_getElem? (i := 14) rfl)) (in_9 _ (List.mem_of_getElem? (i := 2) rfl))) rfl rfl rfl (by decide +kernel) ⟨(show 7 * 8 + 9 + 1 ≤ 70 by omega), (show 8 + (4 + 11) + 40 * (7 * 8 + 9) ≤ 40 * (70) by omega)⟩) ⟨HWL_bl, va_recv hK hP (ci := 11) (q0 := posL 2 (LC cf)) rfl (hI.ob 2 (mF 2 rfl) rfl), (HWL_wi hP hK (WL_D hD) hS hA hEV)⟩ rfl rfl hl.1 rfl (lv_room (Nat.le_of_ble_eq_true rfl)) dX10_readClause_96 ⟨Nat.le_of_ble_eq_true rfl, Nat.le_of_ble_eq_true rfl⟩) (WL_D hD) hS hA (fun E80 H locs hw hP hS => ?_)
            obtain ⟨hI, kq81, hw⟩ := hw
            have hKb := hKp
            have hKp := hKp.tr kq81 (wl_sub rfl rfl)
            obtain ⟨y82, ey82⟩ : ∃ y, xi (E80 2) 5 = y := ⟨_, rfl⟩
            have fy82 : xv (E80 2) 5 = .int y82 := (hI.fi 2 (mF 2 rfl) rfl (Nat.le_of_ble_eq_true rfl) rfl).trans (congrArg Value.int ey82)
            have i83 : 0 ≤ y82.toInt ∧ y82.toInt ≤ 200 := by rw [← ey82]; exact hI.iv 2 (mF 2 rfl) rfl (Nat.le_of_ble_eq_true rfl) rfl
            have f84 := hw
            try rw [(show xi (E45 2) 5 = y1 from vi_e ((kq46 2 5 rfl).trans ((pw40.2 2 5 (fun q9 => absurd q9.1 (Nat.ne_of_beq_eq_false rfl))).trans ((pw36.2 2 5 (fun q9 => absurd q9.1 (Nat.ne_of_beq_eq_false rfl))).trans ((pw32.2 2 5 (fun q9 => absurd q9.1 (Nat.ne_of_beq_eq_false rfl))).trans ((kq29 2 5 rfl).trans ((pw26.2 2 5 (fun q9 => absurd q9.2 (Nat.ne_of_beq_eq_false rfl))).trans ((kq9 2 5 rfl).trans fy1))))))))] at f84
            try rw [(show xi (E80 2) 5 = y82 from vi_e fy82)] at f84
            refine lv_iload_n hx hb dX10_readClause_99 rfl (lv_at hl 0 rfl) ?_
            refine lv_if_ne (tgt := 115) hx hb dX10_readClause_100 (by decide) (fun c85 => ?_) (fun c85 => ?_)
            · --100 taken
              exact absurd c85 (by decide)
            · --100 not
              obtain ⟨qs86, vs87, hRqs86, hSSqs86⟩ := hEV.2.1.2.2.1
              refine va_ldcS hx hb hown hRqs86 dX10_readClause_103 ?_
              refine lv_aload_n hx hb dX10_readClause_105 rfl (lv_at hl 2 rfl) ?_
              refine th_iL (va_runV (As := []) (rest := [.ref qs86]) ⟨hx, hb, hml, hown, hts⟩ (q_next l dC dI cT cf hC ad E80 H.size hI) (cwV 0 hts (gi_V (in_8 _ (List.mem_of_getElem? (i := 27) rfl)) (in_8 _ (List.mem_of_getElem? (i := 28) rfl)) (in_8 _ (List.mem_of_getElem? (i := 29) rfl)) (in_8 _ (List.mem_of_getElem? (i := 14) rfl)) (in_8 _ (List.mem_of_getElem? (i := 19) rfl))) rfl rfl rfl (by decide +kernel) ⟨Nat.le_of_ble_eq_true rfl, Nat.le_of_ble_eq_true rfl⟩) ⟨HWL_bl, va_recv hK hP (ci := 11) (q0 := posL 2 (LC cf)) rfl (hI.ob 2 (mF 2 rfl) rfl), (HWL_wi hP hK (WL_D hD) hS hA hEV)⟩ rfl rfl hl.1 rfl (lv_room (Nat.le_of_ble_eq_true rfl)) dX10_readClause_106 ⟨Nat.le_of_ble_eq_true rfl, Nat.le_of_ble_eq_true rfl⟩) (WL_D hD) hS hA (fun r88 E89 H locs hw hP hS => ?_)
              obtain ⟨hI, kq90, hw⟩ := hw
              have hKb := hKp
              have hKp := hKp.tr kq90 (wl_sub rfl rfl)
              obtain ⟨y91, ey91⟩ : ∃ y, xi (E89 2) 2 = y := ⟨_, rfl⟩
              have fy91 : xv (E89 2) 2 = .int y91 := (hI.fi 2 (mF 2 rfl) rfl (Nat.le_of_ble_eq_true rfl) rfl).trans (congrArg Value.int ey91)
              have i92 : 0 ≤ y91.toInt ∧ y91.toInt ≤ 200 := by rw [← ey91]; exact hI.iv 2 (mF 2 rfl) rfl (Nat.le_of_ble_eq_true rfl) rfl
              obtain ⟨f93, f94⟩ := hw
              try rw [hKb.ei 2 1 rfl] at f94
              try rw [(show xi (E89 2) 2 = y91 from vi_e fy91)] at f94
              refine th_pi (va_runSN (As := [.ref qs86, .int r88]) (rest := []) ⟨hx, hb, hml, hown, hts⟩ (q_isOneOf l qs86 vs87 tCMP r88 (by decide) (by decide)) ⟨va_cnB 2 hts (gi_0 (in_8 _ (List.mem_of_getElem? (i := 31) rfl))) rfl rfl rfl (hEV.1.1 _ (List.mem_of_getElem? (i := 12) rfl)) (hts _ (vA_in _ _ (in_4 _ (List.mem_of_getElem? (i := 23) rfl)))) (by decide +kernel) ⟨Nat.le_of_ble_eq_true rfl, Nat.le_of_ble_eq_true rfl⟩, (hts _ (vA_in _ _ (in_8 _ (List.mem_of_getElem? (i := 30) rfl)))), trivial⟩ ⟨fun a U g mk q => ⟨q.1, SS_c q.2⟩, fun U hU hW => ⟨rfl, SS_w hU hW hS (fun _ h => h.elim) hSSqs86⟩⟩ rfl rfl hl.1 rfl (lv_room (Nat.le_of_ble_eq_true rfl)) dX10_readClause_109 ⟨Nat.le_of_ble_eq_true rfl, Nat.le_of_ble_eq_true rfl⟩) hS (fun r95 H1 locs1 hw hk1 hS => ?_)
              have hP := ub_keep hP hk1
              generalize H1 = H at hP hS ⊢
              generalize locs1 = locs at hS ⊢
              rcases hw with hw | hw
              · -- isOneOf, case 0
                obtain ⟨rfl, f96⟩ := hw
                refine lv_if_eq (tgt := 153) hx hb dX10_readClause_112 (by decide) (fun c97 => ?_) (fun c97 => ?_)
                · --112 taken
                  exact absurd c97 (by decide)
                · --112 not
                  refine lv_aload_n hx hb dX10_readClause_115 rfl (lv_at hl 2 rfl) ?_
                  refine lv_iconst (v := 0) hx hb dX10_readClause_116 (by decide) ?_
                  refine lv_iload_n hx hb dX10_readClause_117 rfl (lv_at hl 0 rfl) ?_
                  refine lv_if_ne (tgt := 125) hx hb dX10_readClause_118 (by decide) (fun c98 => ?_) (fun c98 => ?_)
                  · --118 taken
                    exact absurd c98 (by decide)
                  · --118 not
                    refine lv_iconst (v := 1) hx hb dX10_readClause_121 (by decide) ?_
                    refine lv_goto (tgt := 126) hx hb dX10_readClause_122 (by decide) ?_
                    have z1 := ln_1
                    refine th_vL (va_runV (As := [.int 0, .int 1]) (rest := []) ⟨hx, hb, hml, hown, hts⟩ ((q_cgroup l 8).2.2 dC dI cT cf hC ad E89 H.size (0 : Int32) (1 : Int32) hI (iv_w ln_0 (by decide)) (by (try rw [(show xi (E89 2) 5 = y82 from vi_e ((kq90 2 5 rfl).trans fy82))]); omega) (iv_w ln_1 (by decide))) (cwV 2 hts (gi_V (in_9 _ (List.mem_of_getElem? (i := 28) rfl)) (in_9 _ (List.mem_of_getElem? (i := 29) rfl)) (in_9 _ (List.mem_of_getElem? (i := 30) rfl)) (in_8 _ (List.mem_of_getElem? (i := 14) rfl)) (in_9 _ (List.mem_of_getElem? (i := 31) rfl))) rfl rfl rfl (by decide +kernel) ⟨(show 7 * 8 + 13 + 1 ≤ 70 by omega), (show 8 + (4 + 11) + 40 * (7 * 8 + 13) ≤ 40 * (70) by omega)⟩) ⟨HWL_bl, va_recv hK hP (ci := 11) (q0 := posL 2 (LC cf)) rfl (hI.ob 2 (mF 2 rfl) rfl), (HWL_wi hP hK (WL_D hD) hS hA hEV)⟩ rfl rfl hl.1 rfl (lv_room (Nat.le_of_ble_eq_true rfl)) dX10_readClause_126 ⟨Nat.le_of_ble_eq_true rfl, Nat.le_of_ble_eq_true rfl⟩) (WL_D hD) hS hA (fun E100 H locs hw hP hS => ?_)
                    obtain ⟨hI, kq101, hw⟩ := hw
                    have hKb := hKp
                    have hKp := hKp.tr kq101 (wl_sub rfl rfl)
                    obtain ⟨y102, ey102⟩ : ∃ y, xi (E100 2) 5 = y := ⟨_, rfl⟩
                    have fy102 : xv (E100 2) 5 = .int y102 := (hI.fi 2 (mF 2 rfl) rfl (Nat.le_of_ble_eq_true rfl) rfl).trans (congrArg Value.int ey102)
                    have i103 : 0 ≤ y102.toInt ∧ y102.toInt ≤ 200 := by rw [← ey102]; exact hI.iv 2 (mF 2 rfl) rfl (Nat.le_of_ble_eq_true rfl) rfl
                    have f104 := hw
                    try rw [(show xi (E89 2) 5 = y82 from vi_e ((kq90 2 5 rfl).trans fy82))] at f104
                    try rw [(show xi (E100 2) 5 = y102 from vi_e fy102)] at f104
                    refine lv_aload_n hx hb dX10_readClause_129 rfl (lv_at hl 2 rfl) ?_
                    refine lv_bipush (v := 63) hx hb dX10_readClause_130 (by decide) ?_
                    refine th_vL (va_runV (As := [.int 63]) (rest := []) ⟨hx, hb, hml, hown, hts⟩ (q_take l dC dI cT cf hC ad E100 H.size (63 : Int32) hI (iv_w ln_63 (by decide))) (cwV 1 hts (gi_V (in_8 _ (List.mem_of_getElem? (i := 35) rfl)) (in_8 _ (List.mem_of_getElem? (i := 36) rfl)) (in_8 _ (List.mem_of_getElem? (i := 37) rfl)) (in_8 _ (List.mem_of_getElem? (i := 14) rfl)) (in_8 _ (List.mem_of_getElem? (i := 38) rfl))) rfl rfl rfl (by decide +kernel) ⟨Nat.le_of_ble_eq_true rfl, Nat.le_of_ble_eq_true rfl⟩) ⟨HWL_bl, va_recv hK hP (ci := 11) (q0 := posL 2 (LC cf)) rfl (hI.ob 2 (mF 2 rfl) rfl), (HWL_wi hP hK (WL_D hD) hS hA hEV)⟩ rfl rfl hl.1 rfl (lv_room (Nat.le_of_ble_eq_true rfl)) dX10_readClause_132 ⟨Nat.le_of_ble_eq_true rfl, Nat.le_of_ble_eq_true rfl⟩) (WL_D hD) hS hA (fun E106 H locs hw hP hS => ?_)
                    obtain ⟨hI, kq107, hw⟩ := hw
                    have hKb := hKp
                    have hKp := hKp.tr kq107 (wl_sub rfl rfl)
                    refine lv_aload_n hx hb dX10_readClause_135 rfl (lv_at hl 2 rfl) ?_
                    refine th_getL (ci := 11) (C := RX10) (T := TX10) (N := 10) (v := .ref (ad 25)) hx hb hts hinX10 hown hK hP hI 2 (mF 2 rfl) rfl rfl 8 (Nat.le_of_ble_eq_true rfl) (hts _ (vA_in _ _ (in_7 _ (List.mem_of_getElem? (i := 38) rfl)))) (fun _ h9 => h9) (hI.fr 2 (mF 2 rfl) rfl (Nat.le_of_ble_eq_true rfl) 25 rfl) dX10_readClause_136 ?_
                    refine lv_aload_n hx hb dX10_readClause_139 rfl (lv_at hl 2 rfl) ?_
                    refine th_getL (ci := 11) (C := RX10) (T := TX10) (N := 10) (v := .int y5) hx hb hts hinX10 hown hK hP hI 2 (mF 2 rfl) rfl rfl 9 (Nat.le_of_ble_eq_true rfl) (hts _ (vA_in _ _ (in_7 _ (List.mem_of_getElem? (i := 36) rfl)))) (fun _ h9 => h9) ((kq107 2 9 rfl).trans ((kq101 2 9 rfl).trans ((kq90 2 9 rfl).trans ((kq81 2 9 rfl).trans ((kq46 2 9 rfl).trans ((pw40.2 2 9 (fun q9 => absurd q9.1 (Nat.ne_of_beq_eq_false rfl))).trans ((pw36.2 2 9 (fun q9 => absurd q9.1 (Nat.ne_of_beq_eq_false rfl))).trans ((pw32.2 2 9 (fun q9 => absurd q9.1 (Nat.ne_of_beq_eq_false rfl))).trans ((kq29 2 9 rfl).trans ((pw26.2 2 9 (fun q9 => absurd q9.2 (Nat.ne_of_beq_eq_false rfl))).trans ((kq9 2 9 rfl).trans fy5))))))))))) dX10_readClause_140 ?_
                    refine lv_aload_n hx hb dX10_readClause_143 rfl (lv_at hl 2 rfl) ?_
                    refine th_getL (ci := 11) (C := RX10) (T := TX10) (N := 10) (v := .int y102) hx hb hts hinX10 hown hK hP hI 2 (mF 2 rfl) rfl rfl 5 (Nat.le_of_ble_eq_true rfl) (hts _ (vA_in _ _ (in_7 _ (List.mem_of_getElem? (i := 30) rfl)))) (fun _ h9 => h9) ((kq107 2 5 rfl).trans fy102) dX10_readClause_144 ?_
                    have n108 : vp_in y5 51 := (iv_in (n := 51) i22 (by decide))
                    refine th_iastL hx hb hK hP (WL_D hD) hS hI 25 (mF 25 rfl) rfl rfl n108 (okI rfl i103) dX10_readClause_147 (fun H locs E109 pw110 hI hP hS => ?_)
                    have hKp := hKp.pw pw110 rfl
                    obtain ⟨g111, eg111⟩ : ∃ z : Nat → Int32, z = upd g41 y5.toNatClampNeg y102 := ⟨_, rfl⟩
                    have hg111 : xi (E109 25) = g111 := by rw [pw110.eu, ((kq107.ef 25 (fun _ => rfl)).trans ((kq101.ef 25 (fun _ => rfl)).trans ((kq90.ef 25 (fun _ => rfl)).trans ((kq81.ef 25 (fun _ => rfl)).trans ((kq46.ef 25 (fun _ => rfl)).trans hg41))))), eg111]
                    refine lv_aload_n hx hb dX10_readClause_148 rfl (lv_at hl 2 rfl) ?_
                    refine lv_iconst (v := 0) hx hb dX10_readClause_149 (by decide) ?_
                    refine th_vL (va_runV (As := [.int 0]) (rest := []) ⟨hx, hb, hml, hown, hts⟩ ((q_cgroup l 8).1 dC dI cT cf hC ad E109 H.size (0 : Int32) hI (iv_w ln_0 (by decide)) (by (try rw [(show xi (E109 2) 5 = y102 from vi_e ((pw110.2 2 5 (fun q9 => absurd q9.1 (Nat.ne_of_beq_eq_false rfl))).trans ((kq107 2 5 rfl).trans fy102)))]); omega)) (cwV 1 hts (gi_V (in_8 _ (List.mem_of_getElem? (i := 39) rfl)) (in_9 _ (List.mem_of_getElem? (i := 0) rfl)) (in_9 _ (List.mem_of_getElem? (i := 1) rfl)) (in_8 _ (List.mem_of_getElem? (i := 14) rfl)) (in_9 _ (List.mem_of_getElem? (i := 2) rfl))) rfl rfl rfl (by decide +kernel) ⟨(show 7 * 8 + 9 + 1 ≤ 70 by omega), (show 8 + (4 + 11) + 40 * (7 * 8 + 9) ≤ 40 * (70) by omega)⟩) ⟨HWL_bl, va_recv hK hP (ci := 11) (q0 := posL 2 (LC cf)) rfl (hI.ob 2 (mF 2 rfl) rfl), (HWL_wi hP hK (WL_D hD) hS hA hEV)⟩ rfl rfl hl.1 rfl (lv_room (Nat.le_of_ble_eq_true rfl)) dX10_readClause_150 ⟨Nat.le_of_ble_eq_true rfl, Nat.le_of_ble_eq_true rfl⟩) (WL_D hD) hS hA (fun E113 H locs hw hP hS => ?_)
                    obtain ⟨hI, kq114, hw⟩ := hw
                    have hKb := hKp
                    have hKp := hKp.tr kq114 (wl_sub rfl rfl)
                    obtain ⟨y115, ey115⟩ : ∃ y, xi (E113 2) 5 = y := ⟨_, rfl⟩
                    have fy115 : xv (E113 2) 5 = .int y115 := (hI.fi 2 (mF 2 rfl) rfl (Nat.le_of_ble_eq_true rfl) rfl).trans (congrArg Value.int ey115)
                    have i116 : 0 ≤ y115.toInt ∧ y115.toInt ≤ 200 := by rw [← ey115]; exact hI.iv 2 (mF 2 rfl) rfl (Nat.le_of_ble_eq_true rfl) rfl
                    have f117 := hw
                    try rw [(show xi (E109 2) 5 = y102 from vi_e ((pw110.2 2 5 (fun q9 => absurd q9.1 (Nat.ne_of_beq_eq_false rfl))).trans ((kq107 2 5 rfl).trans fy102)))] at f117
                    try rw [(show xi (E113 2) 5 = y115 from vi_e fy115)] at f117
                    refine lv_aload_n hx hb dX10_readClause_153 rfl (lv_at hl 2 rfl) ?_
                    refine lv_dup hx hb dX10_readClause_154 rfl ?_
                    refine th_getL (ci := 11) (C := RX10) (T := TX10) (N := 10) (v := .int y5) hx hb hts hinX10 hown hK hP hI 2 (mF 2 rfl) rfl rfl 9 (Nat.le_of_ble_eq_true rfl) (hts _ (vA_in _ _ (in_7 _ (List.mem_of_getElem? (i := 36) rfl)))) (fun _ h9 => h9) ((kq114 2 9 rfl).trans ((pw110.2 2 9 (fun q9 => absurd q9.1 (Nat.ne_of_beq_eq_false rfl))).trans ((kq107 2 9 rfl).trans ((kq101 2 9 rfl).trans ((kq90 2 9 rfl).trans ((kq81 2 9 rfl).trans ((kq46 2 9 rfl).trans ((pw40.2 2 9 (fun q9 => absurd q9.1 (Nat.ne_of_beq_eq_false rfl))).trans ((pw36.2 2 9 (fun q9 => absurd q9.1 (Nat.ne_of_beq_eq_false rfl))).trans ((pw32.2 2 9 (fun q9 => absurd q9.1 (Nat.ne_of_beq_eq_false rfl))).trans ((kq29 2 9 rfl).trans ((pw26.2 2 9 (fun q9 => absurd q9.2 (Nat.ne_of_beq_eq_false rfl))).trans ((kq9 2 9 rfl).trans fy5))))))))))))) dX10_readClause_155 ?_
                    refine lv_iconst (v := 1) hx hb dX10_readClause_158 (by decide) ?_
                    refine lv_iadd hx hb dX10_readClause_159 ?_
                    refine lv_topi (fun y118 ey118 => ?_)
                    obtain ⟨ty118, iy118⟩ := ti_add (e := 1) (f := 51) i22 ln_1 ey118 (by decide)
                    have ty118 : y118.toInt = y5.toInt + 1 := ty118
                    have iy118 : 1 ≤ y118.toInt ∧ y118.toInt ≤ 51 := iy118
                    refine th_putL (ci := 11) (C := RX10) (T := TX10) (N := 10) (v := .int y118) (ty := .int) hx hb hts hinX10 tyX10 tyX10_ok nmX10 hown hK hP (WL_D hD) hS hI 2 (mF 2 rfl) rfl rfl 9 (Nat.le_of_ble_eq_true rfl) (hts _ (vA_in _ _ (in_7 _ (List.mem_of_getElem? (i := 36) rfl)))) (fun _ h9 => h9) rfl (by decide +kernel) rfl rfl (okI rfl (iv_w iy118 (by decide))) dX10_readClause_160 (fun H locs E119 pw120 hI hP hS => ?_)
                    have hKp := hKp.pw pw120 rfl
                    rw [hQ]
                    exact W.vret hx hb hr (fun t ht hW => ⟨⟨E119, rfl, ⟨hI, hKp, ⟨by (try rw [(show xi (E119 2) 5 = y115 from vi_e ((pw120.2 2 5 (fun q9 => absurd q9.2 (Nat.ne_of_beq_eq_false rfl))).trans fy115))]); (try rw [ey1]); all_goals omega, by (try rw [show xi (E119 24) = g37 from ((pw120.ef 24 (Nat.ne_of_beq_eq_false rfl)).trans ((kq114.ef 24 (fun _ => rfl)).trans ((pw110.ef 24 (Nat.ne_of_beq_eq_false rfl)).trans ((kq107.ef 24 (fun _ => rfl)).trans ((kq101.ef 24 (fun _ => rfl)).trans ((kq90.ef 24 (fun _ => rfl)).trans ((kq81.ef 24 (fun _ => rfl)).trans ((kq46.ef 24 (fun _ => rfl)).trans ((pw40.ef 24 (Nat.ne_of_beq_eq_false rfl)).trans hg37)))))))))]); (try rw [show xi (E119 25) = g111 from ((pw120.ef 25 (Nat.ne_of_beq_eq_false rfl)).trans ((kq114.ef 25 (fun _ => rfl)).trans hg111))]); (try rw [show xi (E119 2) 9 = y118 from vi_e pw120.1]); (try rw [show xi (E119 2) 5 = y115 from vi_e ((pw120.2 2 5 (fun q9 => absurd q9.2 (Nat.ne_of_beq_eq_false rfl))).trans fy115)]); exact TPok_push hTP (by omega) (by omega) (by omega) (fun k hk => by rw [eg37, pk_un hk]) (fun k hk => by rw [eg111, pk_un hk, eg41, pk_un hk]) (by rw [eg37, pk_us]; omega) (by rw [eg111, pk_us]; omega)⟩⟩, by show va_P (dC, dI) vwCl (WL (LC cf) ad E119) t.heap; rw [ht]; exact hP⟩, hS.F ht⟩) hS.2.2 dX10_readClause_163
              · -- isOneOf, case 1
                obtain rfl := hw
                refine lv_if_eq (tgt := 153) hx hb dX10_readClause_112 (by decide) (fun c121 => ?_) (fun c121 => ?_)
                · --112 taken
                  refine lv_aload_n hx hb dX10_readClause_153 rfl (lv_at hl 2 rfl) ?_
                  refine lv_dup hx hb dX10_readClause_154 rfl ?_
                  refine th_getL (ci := 11) (C := RX10) (T := TX10) (N := 10) (v := .int y5) hx hb hts hinX10 hown hK hP hI 2 (mF 2 rfl) rfl rfl 9 (Nat.le_of_ble_eq_true rfl) (hts _ (vA_in _ _ (in_7 _ (List.mem_of_getElem? (i := 36) rfl)))) (fun _ h9 => h9) ((kq90 2 9 rfl).trans ((kq81 2 9 rfl).trans ((kq46 2 9 rfl).trans ((pw40.2 2 9 (fun q9 => absurd q9.1 (Nat.ne_of_beq_eq_false rfl))).trans ((pw36.2 2 9 (fun q9 => absurd q9.1 (Nat.ne_of_beq_eq_false rfl))).trans ((pw32.2 2 9 (fun q9 => absurd q9.1 (Nat.ne_of_beq_eq_false rfl))).trans ((kq29 2 9 rfl).trans ((pw26.2 2 9 (fun q9 => absurd q9.2 (Nat.ne_of_beq_eq_false rfl))).trans ((kq9 2 9 rfl).trans fy5))))))))) dX10_readClause_155 ?_
                  refine lv_iconst (v := 1) hx hb dX10_readClause_158 (by decide) ?_
                  refine lv_iadd hx hb dX10_readClause_159 ?_
                  refine lv_topi (fun y122 ey122 => ?_)
                  obtain ⟨ty122, iy122⟩ := ti_add (e := 1) (f := 51) i22 ln_1 ey122 (by decide)
                  have ty122 : y122.toInt = y5.toInt + 1 := ty122
                  have iy122 : 1 ≤ y122.toInt ∧ y122.toInt ≤ 51 := iy122
                  refine th_putL (ci := 11) (C := RX10) (T := TX10) (N := 10) (v := .int y122) (ty := .int) hx hb hts hinX10 tyX10 tyX10_ok nmX10 hown hK hP (WL_D hD) hS hI 2 (mF 2 rfl) rfl rfl 9 (Nat.le_of_ble_eq_true rfl) (hts _ (vA_in _ _ (in_7 _ (List.mem_of_getElem? (i := 36) rfl)))) (fun _ h9 => h9) rfl (by decide +kernel) rfl rfl (okI rfl (iv_w iy122 (by decide))) dX10_readClause_160 (fun H locs E123 pw124 hI hP hS => ?_)
                  have hKp := hKp.pw pw124 rfl
                  rw [hQ]
                  exact W.vret hx hb hr (fun t ht hW => ⟨⟨E123, rfl, ⟨hI, hKp, ⟨by (try rw [(show xi (E123 2) 5 = y82 from vi_e ((pw124.2 2 5 (fun q9 => absurd q9.2 (Nat.ne_of_beq_eq_false rfl))).trans ((kq90 2 5 rfl).trans fy82)))]); (try rw [ey1]); all_goals omega, by (try rw [show xi (E123 24) = g37 from ((pw124.ef 24 (Nat.ne_of_beq_eq_false rfl)).trans ((kq90.ef 24 (fun _ => rfl)).trans ((kq81.ef 24 (fun _ => rfl)).trans ((kq46.ef 24 (fun _ => rfl)).trans ((pw40.ef 24 (Nat.ne_of_beq_eq_false rfl)).trans hg37)))))]); (try rw [show xi (E123 25) = g41 from ((pw124.ef 25 (Nat.ne_of_beq_eq_false rfl)).trans ((kq90.ef 25 (fun _ => rfl)).trans ((kq81.ef 25 (fun _ => rfl)).trans ((kq46.ef 25 (fun _ => rfl)).trans hg41))))]); (try rw [show xi (E123 2) 9 = y122 from vi_e pw124.1]); (try rw [show xi (E123 2) 5 = y82 from vi_e ((pw124.2 2 5 (fun q9 => absurd q9.2 (Nat.ne_of_beq_eq_false rfl))).trans ((kq90 2 5 rfl).trans fy82))]); exact TPok_push hTP (by omega) (by omega) (by omega) (fun k hk => by rw [eg37, pk_un hk]) (fun k hk => by rw [eg41, pk_un hk]) (by rw [eg37, pk_us]; omega) (by rw [eg41, pk_us]; omega)⟩⟩, by show va_P (dC, dI) vwCl (WL (LC cf) ad E123) t.heap; rw [ht]; exact hP⟩, hS.F ht⟩) hS.2.2 dX10_readClause_163
                · --112 not
                  exact absurd c121 (by decide)
      · --20 not
        have t125 : (51 : Int) ≤ y5.toInt := ti_nlt c20
        have i126 : 51 ≤ y5.toInt ∧ y5.toInt ≤ 51 := iv_le_r t125 (il_ 51) i6 (by decide)
        refine lv_aload_n hx hb dX10_readClause_23 rfl (lv_at hl 1 rfl) ?_
        refine th_vL (va_runV (As := []) (rest := []) ⟨hx, hb, hml, hown, hts⟩ (q_failT l dC dI cT cf hC ad E8 H.size hI) (cwV 0 hts (gi_V (in_8 _ (List.mem_of_getElem? (i := 11) rfl)) (in_8 _ (List.mem_of_getElem? (i := 12) rfl)) (in_8 _ (List.mem_of_getElem? (i := 13) rfl)) (in_8 _ (List.mem_of_getElem? (i := 14) rfl)) (in_8 _ (List.mem_of_getElem? (i := 7) rfl))) rfl rfl rfl (by decide +kernel) ⟨Nat.le_of_ble_eq_true rfl, Nat.le_of_ble_eq_true rfl⟩) ⟨HWL_bl, va_recv hK hP (ci := 11) (q0 := posL 2 (LC cf)) rfl (hI.ob 2 (mF 2 rfl) rfl), (HWL_wi hP hK (WL_D hD) hS hA hEV)⟩ rfl rfl hl.1 rfl (lv_room (Nat.le_of_ble_eq_true rfl)) dX10_readClause_24 ⟨Nat.le_of_ble_eq_true rfl, Nat.le_of_ble_eq_true rfl⟩) (WL_D hD) hS hA (fun E128 H locs hw hP hS => ?_)
        obtain ⟨hI, kq129, hw⟩ := hw
        have hKb := hKp
        have hKp := hKp.tr kq129 (wl_sub rfl rfl)
        rw [hQ]
        exact W.vret hx hb hr (fun t ht hW => ⟨⟨E128, rfl, ⟨hI, hKp, ⟨by (try rw [(show xi (E128 2) 5 = y1 from vi_e ((kq129 2 5 rfl).trans ((kq9 2 5 rfl).trans fy1)))]); (try rw [ey1]); all_goals omega, by (try rw [show xi (E128 24) = g3 from ((kq129.ef 24 (fun _ => rfl)).trans ((kq9.ef 24 (fun _ => rfl)).trans hg3))]); (try rw [show xi (E128 25) = g4 from ((kq129.ef 25 (fun _ => rfl)).trans ((kq9.ef 25 (fun _ => rfl)).trans hg4))]); (try rw [show xi (E128 2) 9 = y5 from vi_e ((kq129 2 9 rfl).trans ((kq9 2 9 rfl).trans fy5))]); (try rw [show xi (E128 2) 5 = y1 from vi_e ((kq129 2 5 rfl).trans ((kq9 2 5 rfl).trans fy1))]); exact TPok_m hTP (by omega)⟩⟩, by show va_P (dC, dI) vwCl (WL (LC cf) ad E128) t.heap; rw [ht]; exact hP⟩, hS.F ht⟩) hS.2.2 dX10_readClause_27
  · -- isOneOf, case 1
    obtain rfl := hw
    refine lv_if_eq (tgt := 23) hx hb dX10_readClause_11 (by decide) (fun c130 => ?_) (fun c130 => ?_)
    · --11 taken
      refine lv_aload_n hx hb dX10_readClause_23 rfl (lv_at hl 1 rfl) ?_
      refine th_vL (va_runV (As := []) (rest := []) ⟨hx, hb, hml, hown, hts⟩ (q_failT l dC dI cT cf hC ad E8 H.size hI) (cwV 0 hts (gi_V (in_8 _ (List.mem_of_getElem? (i := 11) rfl)) (in_8 _ (List.mem_of_getElem? (i := 12) rfl)) (in_8 _ (List.mem_of_getElem? (i := 13) rfl)) (in_8 _ (List.mem_of_getElem? (i := 14) rfl)) (in_8 _ (List.mem_of_getElem? (i := 7) rfl))) rfl rfl rfl (by decide +kernel) ⟨Nat.le_of_ble_eq_true rfl, Nat.le_of_ble_eq_true rfl⟩) ⟨HWL_bl, va_recv hK hP (ci := 11) (q0 := posL 2 (LC cf)) rfl (hI.ob 2 (mF 2 rfl) rfl), (HWL_wi hP hK (WL_D hD) hS hA hEV)⟩ rfl rfl hl.1 rfl (lv_room (Nat.le_of_ble_eq_true rfl)) dX10_readClause_24 ⟨Nat.le_of_ble_eq_true rfl, Nat.le_of_ble_eq_true rfl⟩) (WL_D hD) hS hA (fun E132 H locs hw hP hS => ?_)
      obtain ⟨hI, kq133, hw⟩ := hw
      have hKb := hKp
      have hKp := hKp.tr kq133 (wl_sub rfl rfl)
      rw [hQ]
      exact W.vret hx hb hr (fun t ht hW => ⟨⟨E132, rfl, ⟨hI, hKp, ⟨by (try rw [(show xi (E132 2) 5 = y1 from vi_e ((kq133 2 5 rfl).trans ((kq9 2 5 rfl).trans fy1)))]); (try rw [ey1]); all_goals omega, by (try rw [show xi (E132 24) = g3 from ((kq133.ef 24 (fun _ => rfl)).trans ((kq9.ef 24 (fun _ => rfl)).trans hg3))]); (try rw [show xi (E132 25) = g4 from ((kq133.ef 25 (fun _ => rfl)).trans ((kq9.ef 25 (fun _ => rfl)).trans hg4))]); (try rw [show xi (E132 2) 9 = y5 from vi_e ((kq133 2 9 rfl).trans ((kq9 2 9 rfl).trans fy5))]); (try rw [show xi (E132 2) 5 = y1 from vi_e ((kq133 2 5 rfl).trans ((kq9 2 5 rfl).trans fy1))]); exact TPok_m hTP (by omega)⟩⟩, by show va_P (dC, dI) vwCl (WL (LC cf) ad E132) t.heap; rw [ht]; exact hP⟩, hS.F ht⟩) hS.2.2 dX10_readClause_27
    · --11 not
      exact absurd c130 (by decide)
def v_read : List Cond := .code yX10_read cX10_read 2 (some .int) :: vA
abbrev rm_read : Room := { frames := 71, cells := 0, slots := 0, locals := 2840 }
def w_read : Nat → Nat → Bool := wl [22, 23, 24, 25] [(2, 2), (2, 3), (2, 5), (2, 9)]
set_option maxHeartbeats 4000000 in
set_option maxRecDepth 100000 in
theorem q_read (l : Launch) (dC : Nat → ClassId) (dI : Nat → Nat → Nat) (cT : Nat → ClassId) (cf : Nat → Nat) (hC : CF cf) (ad : Nat → Nat) (E : Nat → va_E) (sz : Nat)  (hI0 : IXL cT (shC cf) (spC cf) (LC cf) ad E)  : Met l yX10_read v_read rm_read (va_Pc [.ref (ad 2)] (HWL dC dI (TYC cT) cf ad E sz)) (va_Qi (S := Nat → va_E) (fun r u => IXL cT (shC cf) (spC cf) (LC cf) ad u ∧ Kp w_read E u ∧ ((-1 ≤ r.toInt ∧ r.toInt ≤ 200) ∧ ((TPok (xi (u 24)) (xi (u 25)) (xi (u 2) 9) (xi (u 2) 5) ∧ (xi (u 24) (xi (u 2) 9).toNatClampNeg).toInt ≤ (xi (u 2) 5).toInt)))) (HBL dC dI (LC cf) ad) (va_A (WL (LC cf) ad E) sz)) 0 0 (va_A (WL (LC cf) ad E) sz) := by
  obtain ⟨⟨hc0, hc1, hc2, hc3, hc4, hc5⟩, hcr⟩ := id hC
  refine Met.ofW (cc := cX10_read) (maxL := 2) (ret := (some .int)) (by decide) rfl ?_
  intro p e s m args below meth c s₁ B hml hv
  obtain ⟨hargs, hsz, hP, hK, hD0, hEV⟩ := hv
  subst hsz
  have hx := B.exec
  have hb := B.bytes
  have hr := B.returns
  have hts := atoms_spec (ws := v_read) B.pre
  have hown : s.vm.findClass RX10 = some m.cls := findClass_of_methodNamed B.named
  have hlocks := B.notSynchronized
  have hinX10 : ∀ w ∈ u_ws RX10 TX10 10, w ∈ v_read := fun w h => vA_in _ w (in_X10 w h)
  generalize hAe : va_A (WL (LC cf) ad E) s.heap.size = A at hEV ⊢
  have hA : ∀ q : Nat, s.heap.size ≤ q → A q := fun q h => by rw [← hAe]; exact Or.inr h
  have hD : va_D A (WL (LC cf) ad E) := by rw [← hAe]; exact hD0.self
  have hS : va_S A s.heap s.heap [] := va_S.rf
  have hI := hI0
  have hKp : Kp w_read E E := Kp.rf
  have hl := lv_entry ([.ref (ad 2)]) (n := 2) (Nat.le_of_ble_eq_true rfl)
  obtain ⟨Q, hQ⟩ : ∃ Q, Q = MQ below (va_Qi (S := Nat → va_E) (fun r u => IXL cT (shC cf) (spC cf) (LC cf) ad u ∧ Kp w_read E u ∧ ((-1 ≤ r.toInt ∧ r.toInt ≤ 200) ∧ ((TPok (xi (u 24)) (xi (u 25)) (xi (u 2) 9) (xi (u 2) 5) ∧ (xi (u 24) (xi (u 2) 9).toNatClampNeg).toInt ≤ (xi (u 2) 5).toInt)))) (HBL dC dI (LC cf) ad) (A)) args s 0 0 (A) := ⟨_, rfl⟩
  rw [← hQ, show entryFrame m args 2 = _ from (congrArg (fun z => entryFrame m z 2) hargs).trans (lg_entry_eq _ _ _)]
  generalize (lg_sl ([.ref (ad 2)]) ++ List.replicate (2 - (lg_sl ([.ref (ad 2)])).length) Slot.unset).toArray = ls at hl ⊢
  have hl : lv_has ls 2 [(0, .ref (ad 2))] := hl
  refine lv_aload_n hx hb dX10_read_0 rfl (lv_at hl 0 rfl) ?_
  refine lv_iconst (v := 0) hx hb dX10_read_1 (by decide) ?_
  refine th_putL (ci := 11) (C := RX10) (T := TX10) (N := 10) (v := .int 0) (ty := .int) hx hb hts hinX10 tyX10 tyX10_ok nmX10 hown hK hP (WL_D hD) hS hI 2 (mF 2 rfl) rfl rfl 2 (Nat.le_of_ble_eq_true rfl) (hts _ (vA_in _ _ (in_8 _ (List.mem_of_getElem? (i := 9) rfl)))) (fun _ h9 => h9) rfl (by decide +kernel) rfl rfl (okI rfl (iv_w ln_0 (by decide))) dX10_read_2 (fun H locs E1 pw2 hI hP hS => ?_)
  have hKp := hKp.pw pw2 rfl
  refine lv_aload_n hx hb dX10_read_5 rfl (lv_at hl 0 rfl) ?_
  refine lv_iconst (v := -1) hx hb dX10_read_6 (by decide) ?_
  refine th_putL (ci := 11) (C := RX10) (T := TX10) (N := 10) (v := .int (-1)) (ty := .int) hx hb hts hinX10 tyX10 tyX10_ok nmX10 hown hK hP (WL_D hD) hS hI 2 (mF 2 rfl) rfl rfl 3 (Nat.le_of_ble_eq_true rfl) (hts _ (vA_in _ _ (in_8 _ (List.mem_of_getElem? (i := 8) rfl)))) (fun _ h9 => h9) rfl (by decide +kernel) rfl rfl (okI rfl (iv_w ln_m1 (by decide))) dX10_read_7 (fun H locs E3 pw4 hI hP hS => ?_)
  have hKp := hKp.pw pw4 rfl
  refine lv_aload_n hx hb dX10_read_10 rfl (lv_at hl 0 rfl) ?_
  refine lv_iconst (v := 0) hx hb dX10_read_11 (by decide) ?_
  refine th_putL (ci := 11) (C := RX10) (T := TX10) (N := 10) (v := .int 0) (ty := .int) hx hb hts hinX10 tyX10 tyX10_ok nmX10 hown hK hP (WL_D hD) hS hI 2 (mF 2 rfl) rfl rfl 5 (Nat.le_of_ble_eq_true rfl) (hts _ (vA_in _ _ (in_7 _ (List.mem_of_getElem? (i := 30) rfl)))) (fun _ h9 => h9) rfl (by decide +kernel) rfl rfl (okI rfl (iv_w ln_0 (by decide))) dX10_read_12 (fun H locs E5 pw6 hI hP hS => ?_)
  have hKp := hKp.pw pw6 rfl
  refine lv_aload_n hx hb dX10_read_15 rfl (lv_at hl 0 rfl) ?_
  refine lv_iconst (v := 0) hx hb dX10_read_16 (by decide) ?_
  refine th_putL (ci := 11) (C := RX10) (T := TX10) (N := 10) (v := .int 0) (ty := .int) hx hb hts hinX10 tyX10 tyX10_ok nmX10 hown hK hP (WL_D hD) hS hI 2 (mF 2 rfl) rfl rfl 9 (Nat.le_of_ble_eq_true rfl) (hts _ (vA_in _ _ (in_7 _ (List.mem_of_getElem? (i := 36) rfl)))) (fun _ h9 => h9) rfl (by decide +kernel) rfl rfl (okI rfl (iv_w ln_0 (by decide))) dX10_read_17 (fun H locs E7 pw8 hI hP hS => ?_)
  have hKp := hKp.pw pw8 rfl
  refine lv_aload_n hx hb dX10_read_20 rfl (lv_at hl 0 rfl) ?_
  obtain ⟨g9, hg9⟩ : ∃ g, xi (E7 24) = g := ⟨_, rfl⟩
  obtain ⟨g10, hg10⟩ : ∃ g, xi (E7 25) = g := ⟨_, rfl⟩
  have z0 := ln_0
  refine th_vL (va_runV (As := []) (rest := []) ⟨hx, hb, hml, hown, hts⟩ (q_readClause l dC dI cT cf hC ad E7 H.size hI (by (try rw [(show xi (E7 2) 5 = (0 : Int32) from vi_e ((pw8.2 2 5 (fun q9 => absurd q9.2 (Nat.ne_of_beq_eq_false rfl))).trans pw6.1))]); (try rw [show xi (E7 24) = g9 from hg9]); (try rw [show xi (E7 25) = g10 from hg10]); (try rw [show xi (E7 2) 9 = (0 : Int32) from vi_e pw8.1]); (try rw [show xi (E7 2) 5 = (0 : Int32) from vi_e ((pw8.2 2 5 (fun q9 => absurd q9.2 (Nat.ne_of_beq_eq_false rfl))).trans pw6.1)]); exact TPok_0)) (cwV 0 hts (gi_V (in_8 _ (List.mem_of_getElem? (i := 23) rfl)) (in_8 _ (List.mem_of_getElem? (i := 24) rfl)) (in_8 _ (List.mem_of_getElem? (i := 25) rfl)) (in_8 _ (List.mem_of_getElem? (i := 14) rfl)) (in_8 _ (List.mem_of_getElem? (i := 26) rfl))) rfl rfl rfl (by decide +kernel) ⟨Nat.le_of_ble_eq_true rfl, Nat.le_of_ble_eq_true rfl⟩) ⟨HWL_bl, va_recv hK hP (ci := 11) (q0 := posL 2 (LC cf)) rfl (hI.ob 2 (mF 2 rfl) rfl), (HWL_wi hP hK (WL_D hD) hS hA hEV)⟩ rfl rfl hl.1 rfl (lv_room (Nat.le_of_ble_eq_true rfl)) dX10_read_21 ⟨Nat.le_of_ble_eq_true rfl, Nat.le_of_ble_eq_true rfl⟩) (WL_D hD) hS hA (fun E12 H locs hw hP hS => ?_)
  obtain ⟨hI, kq13, hw⟩ := hw
  have hKb := hKp
  have hKp := hKp.tr kq13 (wl_sub rfl rfl)
  obtain ⟨y14, ey14⟩ : ∃ y, xi (E12 2) 5 = y := ⟨_, rfl⟩
  have fy14 : xv (E12 2) 5 = .int y14 := (hI.fi 2 (mF 2 rfl) rfl (Nat.le_of_ble_eq_true rfl) rfl).trans (congrArg Value.int ey14)
  have i15 : 0 ≤ y14.toInt ∧ y14.toInt ≤ 200 := by rw [← ey14]; exact hI.iv 2 (mF 2 rfl) rfl (Nat.le_of_ble_eq_true rfl) rfl
  obtain ⟨f16, f17⟩ := hw
  try rw [(show xi (E7 2) 5 = (0 : Int32) from vi_e ((pw8.2 2 5 (fun q9 => absurd q9.2 (Nat.ne_of_beq_eq_false rfl))).trans pw6.1))] at f16
  try rw [(show xi (E12 2) 5 = y14 from vi_e fy14)] at f16
  try rw [(show xi (E7 2) 5 = (0 : Int32) from vi_e ((pw8.2 2 5 (fun q9 => absurd q9.2 (Nat.ne_of_beq_eq_false rfl))).trans pw6.1))] at f17
  try rw [(show xi (E12 2) 5 = y14 from vi_e fy14)] at f17
  obtain ⟨g18, hg18⟩ : ∃ g, xi (E12 24) = g := ⟨_, rfl⟩
  obtain ⟨g19, hg19⟩ : ∃ g, xi (E12 25) = g := ⟨_, rfl⟩
  obtain ⟨y20, ey20⟩ : ∃ y, xi (E12 2) 9 = y := ⟨_, rfl⟩
  have fy20 : xv (E12 2) 9 = .int y20 := (hI.fi 2 (mF 2 rfl) rfl (Nat.le_of_ble_eq_true rfl) rfl).trans (congrArg Value.int ey20)
  have i21 : 0 ≤ y20.toInt ∧ y20.toInt ≤ 51 := by rw [← ey20]; exact hI.iv 2 (mF 2 rfl) rfl (Nat.le_of_ble_eq_true rfl) rfl
  try rw [show xi (E12 24) = g18 from hg18] at f17
  try rw [show xi (E12 25) = g19 from hg19] at f17
  try rw [show xi (E12 2) 9 = y20 from vi_e fy20] at f17
  try rw [show xi (E12 2) 5 = y14 from vi_e fy14] at f17
  have hf17 : TPok g18 g19 y20 y14 := f17
  refine lv_iconst (v := 0) hx hb dX10_read_24 (by decide) ?_
  refine lv_istore_n (lv' := [(1, .int 0), (0, .ref (ad 2))]) hx hb dX10_read_25 rfl hl (by decide) rfl (fun ls hl => ?_)
  have hL26 : ∀ d : Nat, ∀ (w26_2_9 : Int32) (w26_2_5 : Int32) (g26_24 : Nat → Int32) (g26_25 : Nat → Int32) (v26_1 : Int32) (E26_ : Nat → va_E) (H : Heap) (locs : List Loc) (ls : Array Slot), 0 ≤ w26_2_9.toInt ∧ w26_2_9.toInt ≤ 51 → 0 ≤ w26_2_5.toInt ∧ w26_2_5.toInt ≤ 200 → 0 ≤ v26_1.toInt ∧ v26_1.toInt ≤ 200 → TPok g26_24 g26_25 w26_2_9 w26_2_5 → 200 - v26_1.toInt < (d : Int) → IXL cT (shC cf) (spC cf) (LC cf) ad E26_ → Kp w_read E E26_ → xv (E26_ 2) 9 = .int w26_2_9 → xv (E26_ 2) 5 = .int w26_2_5 → xi (E26_ 24) = g26_24 → xi (E26_ 25) = g26_25 → va_P (dC, dI) vwCl (WL (LC cf) ad E26_) H → va_S A s.heap H locs → lv_has ls 2 [(1, .int v26_1), (0, .ref (ad 2))] → W p l e (headSpec v_read rm_read).room s m args below meth c H locs 0 0 Q (F0 m 26 ls []) := by
    intro d
    induction d with
    | zero =>
      intro w26_2_9 w26_2_5 g26_24 g26_25 v26_1 E26_ H locs ls hw26_2_9 hw26_2_5 hv26_1 hx26_0 hx26_1 hI hKp hs26_2_9 hs26_2_5 hr26_24 hr26_25 hP hS hl
      exact absurd hx26_1 (by omega)
    | succ d ih26 =>
      intro w26_2_9 w26_2_5 g26_24 g26_25 v26_1 E26_ H locs ls hw26_2_9 hw26_2_5 hv26_1 hx26_0 hx26_1 hI hKp hs26_2_9 hs26_2_5 hr26_24 hr26_25 hP hS hl
      refine lv_iload_n hx hb dX10_read_26 rfl (lv_at hl 0 rfl) ?_
      refine lv_sipush (v := 200) hx hb dX10_read_27 (by decide) ?_
      refine lv_icmp_ge (tgt := 62) hx hb dX10_read_30 (by decide) (fun c22 => ?_) (fun c22 => ?_)
      · --30 taken
        have t23 : (200 : Int) ≤ v26_1.toInt := ti_le c22
        have i24 : 200 ≤ v26_1.toInt ∧ v26_1.toInt ≤ 200 := iv_le_r t23 (il_ 200) hv26_1 (by decide)
        refine lv_aload_n hx hb dX10_read_62 rfl (lv_at hl 1 rfl) ?_
        refine th_iL (va_runV (As := []) (rest := []) ⟨hx, hb, hml, hown, hts⟩ (q_next l dC dI cT cf hC ad E26_ H.size hI) (cwV 0 hts (gi_V (in_8 _ (List.mem_of_getElem? (i := 27) rfl)) (in_8 _ (List.mem_of_getElem? (i := 28) rfl)) (in_8 _ (List.mem_of_getElem? (i := 29) rfl)) (in_8 _ (List.mem_of_getElem? (i := 14) rfl)) (in_8 _ (List.mem_of_getElem? (i := 19) rfl))) rfl rfl rfl (by decide +kernel) ⟨Nat.le_of_ble_eq_true rfl, Nat.le_of_ble_eq_true rfl⟩) ⟨HWL_bl, va_recv hK hP (ci := 11) (q0 := posL 2 (LC cf)) rfl (hI.ob 2 (mF 2 rfl) rfl), (HWL_wi hP hK (WL_D hD) hS hA hEV)⟩ rfl rfl hl.1 rfl (lv_room (Nat.le_of_ble_eq_true rfl)) dX10_read_63 ⟨Nat.le_of_ble_eq_true rfl, Nat.le_of_ble_eq_true rfl⟩) (WL_D hD) hS hA (fun r25 E26 H locs hw hP hS => ?_)
        obtain ⟨hI, kq27, hw⟩ := hw
        have hKb := hKp
        have hKp := hKp.tr kq27 (wl_sub rfl rfl)
        obtain ⟨y28, ey28⟩ : ∃ y, xi (E26 2) 2 = y := ⟨_, rfl⟩
        have fy28 : xv (E26 2) 2 = .int y28 := (hI.fi 2 (mF 2 rfl) rfl (Nat.le_of_ble_eq_true rfl) rfl).trans (congrArg Value.int ey28)
        have i29 : 0 ≤ y28.toInt ∧ y28.toInt ≤ 200 := by rw [← ey28]; exact hI.iv 2 (mF 2 rfl) rfl (Nat.le_of_ble_eq_true rfl) rfl
        obtain ⟨f30, f31⟩ := hw
        have i32 : 0 ≤ (xi (E 2) 1).toInt ∧ (xi (E 2) 1).toInt ≤ 200 := hI0.iv 2 (mF 2 rfl) rfl (Nat.le_of_ble_eq_true rfl) rfl
        try rw [hKb.ei 2 1 rfl] at f31
        try rw [(show xi (E26 2) 2 = y28 from vi_e fy28)] at f31
        refine lv_iconst (v := -1) hx hb dX10_read_66 (by decide) ?_
        refine lv_icmp_eq (tgt := 74) hx hb dX10_read_67 (by decide) (fun c33 => ?_) (fun c33 => ?_)
        · --67 taken
          have t34 : r25.toInt = -1 := ti_eq c33
          have i35 : -1 ≤ r25.toInt ∧ r25.toInt ≤ -1 := iv_eqi t34 f30 (il_ (-1)) (by decide)
          refine lv_aload_n hx hb dX10_read_74 rfl (lv_at hl 1 rfl) ?_
          refine th_getL (ci := 11) (C := RX10) (T := TX10) (N := 10) (v := .ref (ad 24)) hx hb hts hinX10 hown hK hP hI 2 (mF 2 rfl) rfl rfl 7 (Nat.le_of_ble_eq_true rfl) (hts _ (vA_in _ _ (in_7 _ (List.mem_of_getElem? (i := 37) rfl)))) (fun _ h9 => h9) (hI.fr 2 (mF 2 rfl) rfl (Nat.le_of_ble_eq_true rfl) 24 rfl) dX10_read_75 ?_
          refine lv_aload_n hx hb dX10_read_78 rfl (lv_at hl 1 rfl) ?_
          refine th_getL (ci := 11) (C := RX10) (T := TX10) (N := 10) (v := .int w26_2_9) hx hb hts hinX10 hown hK hP hI 2 (mF 2 rfl) rfl rfl 9 (Nat.le_of_ble_eq_true rfl) (hts _ (vA_in _ _ (in_7 _ (List.mem_of_getElem? (i := 36) rfl)))) (fun _ h9 => h9) ((kq27 2 9 rfl).trans hs26_2_9) dX10_read_79 ?_
          refine lv_aload_n hx hb dX10_read_82 rfl (lv_at hl 1 rfl) ?_
          refine th_getL (ci := 11) (C := RX10) (T := TX10) (N := 10) (v := .int w26_2_5) hx hb hts hinX10 hown hK hP hI 2 (mF 2 rfl) rfl rfl 5 (Nat.le_of_ble_eq_true rfl) (hts _ (vA_in _ _ (in_7 _ (List.mem_of_getElem? (i := 30) rfl)))) (fun _ h9 => h9) ((kq27 2 5 rfl).trans hs26_2_5) dX10_read_83 ?_
          have n36 : vp_in w26_2_9 52 := (iv_in (n := 52) hw26_2_9 (by decide))
          refine th_iastL hx hb hK hP (WL_D hD) hS hI 24 (mF 24 rfl) rfl rfl n36 (okI rfl hw26_2_5) dX10_read_86 (fun H locs E37 pw38 hI hP hS => ?_)
          have hKp := hKp.pw pw38 rfl
          obtain ⟨g39, eg39⟩ : ∃ z : Nat → Int32, z = upd g26_24 w26_2_9.toNatClampNeg w26_2_5 := ⟨_, rfl⟩
          have hg39 : xi (E37 24) = g39 := by rw [pw38.eu, ((kq27.ef 24 (fun _ => rfl)).trans hr26_24), eg39]
          refine lv_aload_n hx hb dX10_read_87 rfl (lv_at hl 1 rfl) ?_
          obtain ⟨y40, ey40⟩ : ∃ y, xi (E37 2) 3 = y := ⟨_, rfl⟩
          have fy40 : xv (E37 2) 3 = .int y40 := (hI.fi 2 (mF 2 rfl) rfl (Nat.le_of_ble_eq_true rfl) rfl).trans (congrArg Value.int ey40)
          have i41 : -1 ≤ y40.toInt ∧ y40.toInt ≤ 200 := by rw [← ey40]; exact hI.iv 2 (mF 2 rfl) rfl (Nat.le_of_ble_eq_true rfl) rfl
          refine th_getL (ci := 11) (C := RX10) (T := TX10) (N := 10) (v := .int y40) hx hb hts hinX10 hown hK hP hI 2 (mF 2 rfl) rfl rfl 3 (Nat.le_of_ble_eq_true rfl) (hts _ (vA_in _ _ (in_8 _ (List.mem_of_getElem? (i := 8) rfl)))) (fun _ h9 => h9) fy40 dX10_read_88 ?_
          rw [hQ]
          exact W.iret (v := y40) hx hb hr (fun t ht hW => ⟨⟨y40, E37, rfl, ⟨hI, hKp, ⟨i41, by (try rw [show xi (E37 24) = g39 from hg39]); (try rw [show xi (E37 25) = g26_25 from ((pw38.ef 25 (Nat.ne_of_beq_eq_false rfl)).trans ((kq27.ef 25 (fun _ => rfl)).trans hr26_25))]); (try rw [show xi (E37 2) 9 = w26_2_9 from vi_e ((pw38.2 2 9 (fun q9 => absurd q9.1 (Nat.ne_of_beq_eq_false rfl))).trans ((kq27 2 9 rfl).trans hs26_2_9))]); (try rw [show xi (E37 2) 5 = w26_2_5 from vi_e ((pw38.2 2 5 (fun q9 => absurd q9.1 (Nat.ne_of_beq_eq_false rfl))).trans ((kq27 2 5 rfl).trans hs26_2_5))]); exact ⟨fun k hk => by rw [eg39, pk_un (by rw [tn_]; omega)]; exact hx26_0 k hk, by rw [eg39, pk_us]; omega⟩⟩⟩, by show va_P (dC, dI) vwCl (WL (LC cf) ad E37) t.heap; rw [ht]; exact hP⟩, hS.F ht⟩) hS.2.2 dX10_read_91
        · --67 not
          have t42 : ¬ r25.toInt = -1 := ti_ne c33
          refine lv_aload_n hx hb dX10_read_70 rfl (lv_at hl 1 rfl) ?_
          refine th_vL (va_runV (As := []) (rest := []) ⟨hx, hb, hml, hown, hts⟩ (q_failT l dC dI cT cf hC ad E26 H.size hI) (cwV 0 hts (gi_V (in_8 _ (List.mem_of_getElem? (i := 11) rfl)) (in_8 _ (List.mem_of_getElem? (i := 12) rfl)) (in_8 _ (List.mem_of_getElem? (i := 13) rfl)) (in_8 _ (List.mem_of_getElem? (i := 14) rfl)) (in_8 _ (List.mem_of_getElem? (i := 7) rfl))) rfl rfl rfl (by decide +kernel) ⟨Nat.le_of_ble_eq_true rfl, Nat.le_of_ble_eq_true rfl⟩) ⟨HWL_bl, va_recv hK hP (ci := 11) (q0 := posL 2 (LC cf)) rfl (hI.ob 2 (mF 2 rfl) rfl), (HWL_wi hP hK (WL_D hD) hS hA hEV)⟩ rfl rfl hl.1 rfl (lv_room (Nat.le_of_ble_eq_true rfl)) dX10_read_71 ⟨Nat.le_of_ble_eq_true rfl, Nat.le_of_ble_eq_true rfl⟩) (WL_D hD) hS hA (fun E44 H locs hw hP hS => ?_)
          obtain ⟨hI, kq45, hw⟩ := hw
          have hKb := hKp
          have hKp := hKp.tr kq45 (wl_sub rfl rfl)
          refine lv_aload_n hx hb dX10_read_74 rfl (lv_at hl 1 rfl) ?_
          refine th_getL (ci := 11) (C := RX10) (T := TX10) (N := 10) (v := .ref (ad 24)) hx hb hts hinX10 hown hK hP hI 2 (mF 2 rfl) rfl rfl 7 (Nat.le_of_ble_eq_true rfl) (hts _ (vA_in _ _ (in_7 _ (List.mem_of_getElem? (i := 37) rfl)))) (fun _ h9 => h9) (hI.fr 2 (mF 2 rfl) rfl (Nat.le_of_ble_eq_true rfl) 24 rfl) dX10_read_75 ?_
          refine lv_aload_n hx hb dX10_read_78 rfl (lv_at hl 1 rfl) ?_
          refine th_getL (ci := 11) (C := RX10) (T := TX10) (N := 10) (v := .int w26_2_9) hx hb hts hinX10 hown hK hP hI 2 (mF 2 rfl) rfl rfl 9 (Nat.le_of_ble_eq_true rfl) (hts _ (vA_in _ _ (in_7 _ (List.mem_of_getElem? (i := 36) rfl)))) (fun _ h9 => h9) ((kq45 2 9 rfl).trans ((kq27 2 9 rfl).trans hs26_2_9)) dX10_read_79 ?_
          refine lv_aload_n hx hb dX10_read_82 rfl (lv_at hl 1 rfl) ?_
          refine th_getL (ci := 11) (C := RX10) (T := TX10) (N := 10) (v := .int w26_2_5) hx hb hts hinX10 hown hK hP hI 2 (mF 2 rfl) rfl rfl 5 (Nat.le_of_ble_eq_true rfl) (hts _ (vA_in _ _ (in_7 _ (List.mem_of_getElem? (i := 30) rfl)))) (fun _ h9 => h9) ((kq45 2 5 rfl).trans ((kq27 2 5 rfl).trans hs26_2_5)) dX10_read_83 ?_
          have n46 : vp_in w26_2_9 52 := (iv_in (n := 52) hw26_2_9 (by decide))
          refine th_iastL hx hb hK hP (WL_D hD) hS hI 24 (mF 24 rfl) rfl rfl n46 (okI rfl hw26_2_5) dX10_read_86 (fun H locs E47 pw48 hI hP hS => ?_)
          have hKp := hKp.pw pw48 rfl
          obtain ⟨g49, eg49⟩ : ∃ z : Nat → Int32, z = upd g26_24 w26_2_9.toNatClampNeg w26_2_5 := ⟨_, rfl⟩
          have hg49 : xi (E47 24) = g49 := by rw [pw48.eu, ((kq45.ef 24 (fun _ => rfl)).trans ((kq27.ef 24 (fun _ => rfl)).trans hr26_24)), eg49]
          refine lv_aload_n hx hb dX10_read_87 rfl (lv_at hl 1 rfl) ?_
          obtain ⟨y50, ey50⟩ : ∃ y, xi (E47 2) 3 = y := ⟨_, rfl⟩
          have fy50 : xv (E47 2) 3 = .int y50 := (hI.fi 2 (mF 2 rfl) rfl (Nat.le_of_ble_eq_true rfl) rfl).trans (congrArg Value.int ey50)
          have i51 : -1 ≤ y50.toInt ∧ y50.toInt ≤ 200 := by rw [← ey50]; exact hI.iv 2 (mF 2 rfl) rfl (Nat.le_of_ble_eq_true rfl) rfl
          refine th_getL (ci := 11) (C := RX10) (T := TX10) (N := 10) (v := .int y50) hx hb hts hinX10 hown hK hP hI 2 (mF 2 rfl) rfl rfl 3 (Nat.le_of_ble_eq_true rfl) (hts _ (vA_in _ _ (in_8 _ (List.mem_of_getElem? (i := 8) rfl)))) (fun _ h9 => h9) fy50 dX10_read_88 ?_
          rw [hQ]
          exact W.iret (v := y50) hx hb hr (fun t ht hW => ⟨⟨y50, E47, rfl, ⟨hI, hKp, ⟨i51, by (try rw [show xi (E47 24) = g49 from hg49]); (try rw [show xi (E47 25) = g26_25 from ((pw48.ef 25 (Nat.ne_of_beq_eq_false rfl)).trans ((kq45.ef 25 (fun _ => rfl)).trans ((kq27.ef 25 (fun _ => rfl)).trans hr26_25)))]); (try rw [show xi (E47 2) 9 = w26_2_9 from vi_e ((pw48.2 2 9 (fun q9 => absurd q9.1 (Nat.ne_of_beq_eq_false rfl))).trans ((kq45 2 9 rfl).trans ((kq27 2 9 rfl).trans hs26_2_9)))]); (try rw [show xi (E47 2) 5 = w26_2_5 from vi_e ((pw48.2 2 5 (fun q9 => absurd q9.1 (Nat.ne_of_beq_eq_false rfl))).trans ((kq45 2 5 rfl).trans ((kq27 2 5 rfl).trans hs26_2_5)))]); exact ⟨fun k hk => by rw [eg49, pk_un (by rw [tn_]; omega)]; exact hx26_0 k hk, by rw [eg49, pk_us]; omega⟩⟩⟩, by show va_P (dC, dI) vwCl (WL (LC cf) ad E47) t.heap; rw [ht]; exact hP⟩, hS.F ht⟩) hS.2.2 dX10_read_91
      · --30 not
        have t52 : v26_1.toInt < 200 := ti_nle c22
        have i53 : 0 ≤ v26_1.toInt ∧ v26_1.toInt ≤ 199 := iv_lt_l t52 hv26_1 (il_ 200) (by decide)
        refine lv_aload_n hx hb dX10_read_33 rfl (lv_at hl 1 rfl) ?_
        refine th_iL (va_runV (As := []) (rest := []) ⟨hx, hb, hml, hown, hts⟩ (q_next l dC dI cT cf hC ad E26_ H.size hI) (cwV 0 hts (gi_V (in_8 _ (List.mem_of_getElem? (i := 27) rfl)) (in_8 _ (List.mem_of_getElem? (i := 28) rfl)) (in_8 _ (List.mem_of_getElem? (i := 29) rfl)) (in_8 _ (List.mem_of_getElem? (i := 14) rfl)) (in_8 _ (List.mem_of_getElem? (i := 19) rfl))) rfl rfl rfl (by decide +kernel) ⟨Nat.le_of_ble_eq_true rfl, Nat.le_of_ble_eq_true rfl⟩) ⟨HWL_bl, va_recv hK hP (ci := 11) (q0 := posL 2 (LC cf)) rfl (hI.ob 2 (mF 2 rfl) rfl), (HWL_wi hP hK (WL_D hD) hS hA hEV)⟩ rfl rfl hl.1 rfl (lv_room (Nat.le_of_ble_eq_true rfl)) dX10_read_34 ⟨Nat.le_of_ble_eq_true rfl, Nat.le_of_ble_eq_true rfl⟩) (WL_D hD) hS hA (fun r54 E55 H locs hw hP hS => ?_)
        obtain ⟨hI, kq56, hw⟩ := hw
        have hKb := hKp
        have hKp := hKp.tr kq56 (wl_sub rfl rfl)
        obtain ⟨y57, ey57⟩ : ∃ y, xi (E55 2) 2 = y := ⟨_, rfl⟩
        have fy57 : xv (E55 2) 2 = .int y57 := (hI.fi 2 (mF 2 rfl) rfl (Nat.le_of_ble_eq_true rfl) rfl).trans (congrArg Value.int ey57)
        have i58 : 0 ≤ y57.toInt ∧ y57.toInt ≤ 200 := by rw [← ey57]; exact hI.iv 2 (mF 2 rfl) rfl (Nat.le_of_ble_eq_true rfl) rfl
        obtain ⟨f59, f60⟩ := hw
        have i61 : 0 ≤ (xi (E 2) 1).toInt ∧ (xi (E 2) 1).toInt ≤ 200 := hI0.iv 2 (mF 2 rfl) rfl (Nat.le_of_ble_eq_true rfl) rfl
        try rw [hKb.ei 2 1 rfl] at f60
        try rw [(show xi (E55 2) 2 = y57 from vi_e fy57)] at f60
        refine lv_bipush (v := 59) hx hb dX10_read_37 (by decide) ?_
        refine lv_icmp_ne (tgt := 62) hx hb dX10_read_39 (by decide) (fun c62 => ?_) (fun c62 => ?_)
        · --39 taken
          have t63 : ¬ r54.toInt = 59 := ti_ne c62
          refine lv_aload_n hx hb dX10_read_62 rfl (lv_at hl 1 rfl) ?_
          refine th_iL (va_runV (As := []) (rest := []) ⟨hx, hb, hml, hown, hts⟩ (q_next l dC dI cT cf hC ad E55 H.size hI) (cwV 0 hts (gi_V (in_8 _ (List.mem_of_getElem? (i := 27) rfl)) (in_8 _ (List.mem_of_getElem? (i := 28) rfl)) (in_8 _ (List.mem_of_getElem? (i := 29) rfl)) (in_8 _ (List.mem_of_getElem? (i := 14) rfl)) (in_8 _ (List.mem_of_getElem? (i := 19) rfl))) rfl rfl rfl (by decide +kernel) ⟨Nat.le_of_ble_eq_true rfl, Nat.le_of_ble_eq_true rfl⟩) ⟨HWL_bl, va_recv hK hP (ci := 11) (q0 := posL 2 (LC cf)) rfl (hI.ob 2 (mF 2 rfl) rfl), (HWL_wi hP hK (WL_D hD) hS hA hEV)⟩ rfl rfl hl.1 rfl (lv_room (Nat.le_of_ble_eq_true rfl)) dX10_read_63 ⟨Nat.le_of_ble_eq_true rfl, Nat.le_of_ble_eq_true rfl⟩) (WL_D hD) hS hA (fun r64 E65 H locs hw hP hS => ?_)
          obtain ⟨hI, kq66, hw⟩ := hw
          have hKb := hKp
          have hKp := hKp.tr kq66 (wl_sub rfl rfl)
          obtain ⟨y67, ey67⟩ : ∃ y, xi (E65 2) 2 = y := ⟨_, rfl⟩
          have fy67 : xv (E65 2) 2 = .int y67 := (hI.fi 2 (mF 2 rfl) rfl (Nat.le_of_ble_eq_true rfl) rfl).trans (congrArg Value.int ey67)
          have i68 : 0 ≤ y67.toInt ∧ y67.toInt ≤ 200 := by rw [← ey67]; exact hI.iv 2 (mF 2 rfl) rfl (Nat.le_of_ble_eq_true rfl) rfl
          obtain ⟨f69, f70⟩ := hw
          try rw [hKb.ei 2 1 rfl] at f70
          try rw [(show xi (E65 2) 2 = y67 from vi_e fy67)] at f70
          refine lv_iconst (v := -1) hx hb dX10_read_66 (by decide) ?_
          refine lv_icmp_eq (tgt := 74) hx hb dX10_read_67 (by decide) (fun c71 => ?_) (fun c71 => ?_)
          · --67 taken
            have t72 : r64.toInt = -1 := ti_eq c71
            have i73 : -1 ≤ r64.toInt ∧ r64.toInt ≤ -1 := iv_eqi t72 f69 (il_ (-1)) (by decide)
            refine lv_aload_n hx hb dX10_read_74 rfl (lv_at hl 1 rfl) ?_
            refine th_getL (ci := 11) (C := RX10) (T := TX10) (N := 10) (v := .ref (ad 24)) hx hb hts hinX10 hown hK hP hI 2 (mF 2 rfl) rfl rfl 7 (Nat.le_of_ble_eq_true rfl) (hts _ (vA_in _ _ (in_7 _ (List.mem_of_getElem? (i := 37) rfl)))) (fun _ h9 => h9) (hI.fr 2 (mF 2 rfl) rfl (Nat.le_of_ble_eq_true rfl) 24 rfl) dX10_read_75 ?_
            refine lv_aload_n hx hb dX10_read_78 rfl (lv_at hl 1 rfl) ?_
            refine th_getL (ci := 11) (C := RX10) (T := TX10) (N := 10) (v := .int w26_2_9) hx hb hts hinX10 hown hK hP hI 2 (mF 2 rfl) rfl rfl 9 (Nat.le_of_ble_eq_true rfl) (hts _ (vA_in _ _ (in_7 _ (List.mem_of_getElem? (i := 36) rfl)))) (fun _ h9 => h9) ((kq66 2 9 rfl).trans ((kq56 2 9 rfl).trans hs26_2_9)) dX10_read_79 ?_
            refine lv_aload_n hx hb dX10_read_82 rfl (lv_at hl 1 rfl) ?_
            refine th_getL (ci := 11) (C := RX10) (T := TX10) (N := 10) (v := .int w26_2_5) hx hb hts hinX10 hown hK hP hI 2 (mF 2 rfl) rfl rfl 5 (Nat.le_of_ble_eq_true rfl) (hts _ (vA_in _ _ (in_7 _ (List.mem_of_getElem? (i := 30) rfl)))) (fun _ h9 => h9) ((kq66 2 5 rfl).trans ((kq56 2 5 rfl).trans hs26_2_5)) dX10_read_83 ?_
            have n74 : vp_in w26_2_9 52 := (iv_in (n := 52) hw26_2_9 (by decide))
            refine th_iastL hx hb hK hP (WL_D hD) hS hI 24 (mF 24 rfl) rfl rfl n74 (okI rfl hw26_2_5) dX10_read_86 (fun H locs E75 pw76 hI hP hS => ?_)
            have hKp := hKp.pw pw76 rfl
            obtain ⟨g77, eg77⟩ : ∃ z : Nat → Int32, z = upd g26_24 w26_2_9.toNatClampNeg w26_2_5 := ⟨_, rfl⟩
            have hg77 : xi (E75 24) = g77 := by rw [pw76.eu, ((kq66.ef 24 (fun _ => rfl)).trans ((kq56.ef 24 (fun _ => rfl)).trans hr26_24)), eg77]
            refine lv_aload_n hx hb dX10_read_87 rfl (lv_at hl 1 rfl) ?_
            obtain ⟨y78, ey78⟩ : ∃ y, xi (E75 2) 3 = y := ⟨_, rfl⟩
            have fy78 : xv (E75 2) 3 = .int y78 := (hI.fi 2 (mF 2 rfl) rfl (Nat.le_of_ble_eq_true rfl) rfl).trans (congrArg Value.int ey78)
            have i79 : -1 ≤ y78.toInt ∧ y78.toInt ≤ 200 := by rw [← ey78]; exact hI.iv 2 (mF 2 rfl) rfl (Nat.le_of_ble_eq_true rfl) rfl
            refine th_getL (ci := 11) (C := RX10) (T := TX10) (N := 10) (v := .int y78) hx hb hts hinX10 hown hK hP hI 2 (mF 2 rfl) rfl rfl 3 (Nat.le_of_ble_eq_true rfl) (hts _ (vA_in _ _ (in_8 _ (List.mem_of_getElem? (i := 8) rfl)))) (fun _ h9 => h9) fy78 dX10_read_88 ?_
            rw [hQ]
            exact W.iret (v := y78) hx hb hr (fun t ht hW => ⟨⟨y78, E75, rfl, ⟨hI, hKp, ⟨i79, by (try rw [show xi (E75 24) = g77 from hg77]); (try rw [show xi (E75 25) = g26_25 from ((pw76.ef 25 (Nat.ne_of_beq_eq_false rfl)).trans ((kq66.ef 25 (fun _ => rfl)).trans ((kq56.ef 25 (fun _ => rfl)).trans hr26_25)))]); (try rw [show xi (E75 2) 9 = w26_2_9 from vi_e ((pw76.2 2 9 (fun q9 => absurd q9.1 (Nat.ne_of_beq_eq_false rfl))).trans ((kq66 2 9 rfl).trans ((kq56 2 9 rfl).trans hs26_2_9)))]); (try rw [show xi (E75 2) 5 = w26_2_5 from vi_e ((pw76.2 2 5 (fun q9 => absurd q9.1 (Nat.ne_of_beq_eq_false rfl))).trans ((kq66 2 5 rfl).trans ((kq56 2 5 rfl).trans hs26_2_5)))]); exact ⟨fun k hk => by rw [eg77, pk_un (by rw [tn_]; omega)]; exact hx26_0 k hk, by rw [eg77, pk_us]; omega⟩⟩⟩, by show va_P (dC, dI) vwCl (WL (LC cf) ad E75) t.heap; rw [ht]; exact hP⟩, hS.F ht⟩) hS.2.2 dX10_read_91
          · --67 not
            have t80 : ¬ r64.toInt = -1 := ti_ne c71
            refine lv_aload_n hx hb dX10_read_70 rfl (lv_at hl 1 rfl) ?_
            refine th_vL (va_runV (As := []) (rest := []) ⟨hx, hb, hml, hown, hts⟩ (q_failT l dC dI cT cf hC ad E65 H.size hI) (cwV 0 hts (gi_V (in_8 _ (List.mem_of_getElem? (i := 11) rfl)) (in_8 _ (List.mem_of_getElem? (i := 12) rfl)) (in_8 _ (List.mem_of_getElem? (i := 13) rfl)) (in_8 _ (List.mem_of_getElem? (i := 14) rfl)) (in_8 _ (List.mem_of_getElem? (i := 7) rfl))) rfl rfl rfl (by decide +kernel) ⟨Nat.le_of_ble_eq_true rfl, Nat.le_of_ble_eq_true rfl⟩) ⟨HWL_bl, va_recv hK hP (ci := 11) (q0 := posL 2 (LC cf)) rfl (hI.ob 2 (mF 2 rfl) rfl), (HWL_wi hP hK (WL_D hD) hS hA hEV)⟩ rfl rfl hl.1 rfl (lv_room (Nat.le_of_ble_eq_true rfl)) dX10_read_71 ⟨Nat.le_of_ble_eq_true rfl, Nat.le_of_ble_eq_true rfl⟩) (WL_D hD) hS hA (fun E82 H locs hw hP hS => ?_)
            obtain ⟨hI, kq83, hw⟩ := hw
            have hKb := hKp
            have hKp := hKp.tr kq83 (wl_sub rfl rfl)
            refine lv_aload_n hx hb dX10_read_74 rfl (lv_at hl 1 rfl) ?_
            refine th_getL (ci := 11) (C := RX10) (T := TX10) (N := 10) (v := .ref (ad 24)) hx hb hts hinX10 hown hK hP hI 2 (mF 2 rfl) rfl rfl 7 (Nat.le_of_ble_eq_true rfl) (hts _ (vA_in _ _ (in_7 _ (List.mem_of_getElem? (i := 37) rfl)))) (fun _ h9 => h9) (hI.fr 2 (mF 2 rfl) rfl (Nat.le_of_ble_eq_true rfl) 24 rfl) dX10_read_75 ?_
            refine lv_aload_n hx hb dX10_read_78 rfl (lv_at hl 1 rfl) ?_
            refine th_getL (ci := 11) (C := RX10) (T := TX10) (N := 10) (v := .int w26_2_9) hx hb hts hinX10 hown hK hP hI 2 (mF 2 rfl) rfl rfl 9 (Nat.le_of_ble_eq_true rfl) (hts _ (vA_in _ _ (in_7 _ (List.mem_of_getElem? (i := 36) rfl)))) (fun _ h9 => h9) ((kq83 2 9 rfl).trans ((kq66 2 9 rfl).trans ((kq56 2 9 rfl).trans hs26_2_9))) dX10_read_79 ?_
            refine lv_aload_n hx hb dX10_read_82 rfl (lv_at hl 1 rfl) ?_
            refine th_getL (ci := 11) (C := RX10) (T := TX10) (N := 10) (v := .int w26_2_5) hx hb hts hinX10 hown hK hP hI 2 (mF 2 rfl) rfl rfl 5 (Nat.le_of_ble_eq_true rfl) (hts _ (vA_in _ _ (in_7 _ (List.mem_of_getElem? (i := 30) rfl)))) (fun _ h9 => h9) ((kq83 2 5 rfl).trans ((kq66 2 5 rfl).trans ((kq56 2 5 rfl).trans hs26_2_5))) dX10_read_83 ?_
            have n84 : vp_in w26_2_9 52 := (iv_in (n := 52) hw26_2_9 (by decide))
            refine th_iastL hx hb hK hP (WL_D hD) hS hI 24 (mF 24 rfl) rfl rfl n84 (okI rfl hw26_2_5) dX10_read_86 (fun H locs E85 pw86 hI hP hS => ?_)
            have hKp := hKp.pw pw86 rfl
            obtain ⟨g87, eg87⟩ : ∃ z : Nat → Int32, z = upd g26_24 w26_2_9.toNatClampNeg w26_2_5 := ⟨_, rfl⟩
            have hg87 : xi (E85 24) = g87 := by rw [pw86.eu, ((kq83.ef 24 (fun _ => rfl)).trans ((kq66.ef 24 (fun _ => rfl)).trans ((kq56.ef 24 (fun _ => rfl)).trans hr26_24))), eg87]
            refine lv_aload_n hx hb dX10_read_87 rfl (lv_at hl 1 rfl) ?_
            obtain ⟨y88, ey88⟩ : ∃ y, xi (E85 2) 3 = y := ⟨_, rfl⟩
            have fy88 : xv (E85 2) 3 = .int y88 := (hI.fi 2 (mF 2 rfl) rfl (Nat.le_of_ble_eq_true rfl) rfl).trans (congrArg Value.int ey88)
            have i89 : -1 ≤ y88.toInt ∧ y88.toInt ≤ 200 := by rw [← ey88]; exact hI.iv 2 (mF 2 rfl) rfl (Nat.le_of_ble_eq_true rfl) rfl
            refine th_getL (ci := 11) (C := RX10) (T := TX10) (N := 10) (v := .int y88) hx hb hts hinX10 hown hK hP hI 2 (mF 2 rfl) rfl rfl 3 (Nat.le_of_ble_eq_true rfl) (hts _ (vA_in _ _ (in_8 _ (List.mem_of_getElem? (i := 8) rfl)))) (fun _ h9 => h9) fy88 dX10_read_88 ?_
            rw [hQ]
            exact W.iret (v := y88) hx hb hr (fun t ht hW => ⟨⟨y88, E85, rfl, ⟨hI, hKp, ⟨i89, by (try rw [show xi (E85 24) = g87 from hg87]); (try rw [show xi (E85 25) = g26_25 from ((pw86.ef 25 (Nat.ne_of_beq_eq_false rfl)).trans ((kq83.ef 25 (fun _ => rfl)).trans ((kq66.ef 25 (fun _ => rfl)).trans ((kq56.ef 25 (fun _ => rfl)).trans hr26_25))))]); (try rw [show xi (E85 2) 9 = w26_2_9 from vi_e ((pw86.2 2 9 (fun q9 => absurd q9.1 (Nat.ne_of_beq_eq_false rfl))).trans ((kq83 2 9 rfl).trans ((kq66 2 9 rfl).trans ((kq56 2 9 rfl).trans hs26_2_9))))]); (try rw [show xi (E85 2) 5 = w26_2_5 from vi_e ((pw86.2 2 5 (fun q9 => absurd q9.1 (Nat.ne_of_beq_eq_false rfl))).trans ((kq83 2 5 rfl).trans ((kq66 2 5 rfl).trans ((kq56 2 5 rfl).trans hs26_2_5))))]); exact ⟨fun k hk => by rw [eg87, pk_un (by rw [tn_]; omega)]; exact hx26_0 k hk, by rw [eg87, pk_us]; omega⟩⟩⟩, by show va_P (dC, dI) vwCl (WL (LC cf) ad E85) t.heap; rw [ht]; exact hP⟩, hS.F ht⟩) hS.2.2 dX10_read_91
        · --39 not
          have t90 : r54.toInt = 59 := ti_eq c62
          have i91 : 59 ≤ r54.toInt ∧ r54.toInt ≤ 59 := iv_eqi t90 f59 (il_ 59) (by decide)
          refine lv_aload_n hx hb dX10_read_42 rfl (lv_at hl 1 rfl) ?_
          refine lv_dup hx hb dX10_read_43 rfl ?_
          refine th_getL (ci := 11) (C := RX10) (T := TX10) (N := 10) (v := .int y57) hx hb hts hinX10 hown hK hP hI 2 (mF 2 rfl) rfl rfl 2 (Nat.le_of_ble_eq_true rfl) (hts _ (vA_in _ _ (in_8 _ (List.mem_of_getElem? (i := 9) rfl)))) (fun _ h9 => h9) fy57 dX10_read_44 ?_
          refine lv_iconst (v := 1) hx hb dX10_read_47 (by decide) ?_
          refine lv_iadd hx hb dX10_read_48 ?_
          refine lv_topi (fun y92 ey92 => ?_)
          obtain ⟨ty92, iy92⟩ := ti_add (e := 1) (f := 201) i58 ln_1 ey92 (by decide)
          have ty92 : y92.toInt = y57.toInt + 1 := ty92
          have iy92 : 1 ≤ y92.toInt ∧ y92.toInt ≤ 201 := iy92
          have i93 : 1 ≤ y92.toInt ∧ y92.toInt ≤ 200 := by omega
          refine th_putL (ci := 11) (C := RX10) (T := TX10) (N := 10) (v := .int y92) (ty := .int) hx hb hts hinX10 tyX10 tyX10_ok nmX10 hown hK hP (WL_D hD) hS hI 2 (mF 2 rfl) rfl rfl 2 (Nat.le_of_ble_eq_true rfl) (hts _ (vA_in _ _ (in_8 _ (List.mem_of_getElem? (i := 9) rfl)))) (fun _ h9 => h9) rfl (by decide +kernel) rfl rfl (okI rfl (iv_w i93 (by decide))) dX10_read_49 (fun H locs E94 pw95 hI hP hS => ?_)
          have hKp := hKp.pw pw95 rfl
          refine lv_aload_n hx hb dX10_read_52 rfl (lv_at hl 1 rfl) ?_
          refine th_vL (va_runV (As := []) (rest := []) ⟨hx, hb, hml, hown, hts⟩ (q_readClause l dC dI cT cf hC ad E94 H.size hI (by (try rw [(show xi (E94 2) 5 = w26_2_5 from vi_e ((pw95.2 2 5 (fun q9 => absurd q9.2 (Nat.ne_of_beq_eq_false rfl))).trans ((kq56 2 5 rfl).trans hs26_2_5)))]); (try rw [show xi (E94 24) = g26_24 from ((pw95.ef 24 (Nat.ne_of_beq_eq_false rfl)).trans ((kq56.ef 24 (fun _ => rfl)).trans hr26_24))]); (try rw [show xi (E94 25) = g26_25 from ((pw95.ef 25 (Nat.ne_of_beq_eq_false rfl)).trans ((kq56.ef 25 (fun _ => rfl)).trans hr26_25))]); (try rw [show xi (E94 2) 9 = w26_2_9 from vi_e ((pw95.2 2 9 (fun q9 => absurd q9.2 (Nat.ne_of_beq_eq_false rfl))).trans ((kq56 2 9 rfl).trans hs26_2_9))]); (try rw [show xi (E94 2) 5 = w26_2_5 from vi_e ((pw95.2 2 5 (fun q9 => absurd q9.2 (Nat.ne_of_beq_eq_false rfl))).trans ((kq56 2 5 rfl).trans hs26_2_5))]); exact hx26_0)) (cwV 0 hts (gi_V (in_8 _ (List.mem_of_getElem? (i := 23) rfl)) (in_8 _ (List.mem_of_getElem? (i := 24) rfl)) (in_8 _ (List.mem_of_getElem? (i := 25) rfl)) (in_8 _ (List.mem_of_getElem? (i := 14) rfl)) (in_8 _ (List.mem_of_getElem? (i := 26) rfl))) rfl rfl rfl (by decide +kernel) ⟨Nat.le_of_ble_eq_true rfl, Nat.le_of_ble_eq_true rfl⟩) ⟨HWL_bl, va_recv hK hP (ci := 11) (q0 := posL 2 (LC cf)) rfl (hI.ob 2 (mF 2 rfl) rfl), (HWL_wi hP hK (WL_D hD) hS hA hEV)⟩ rfl rfl hl.1 rfl (lv_room (Nat.le_of_ble_eq_true rfl)) dX10_read_53 ⟨Nat.le_of_ble_eq_true rfl, Nat.le_of_ble_eq_true rfl⟩) (WL_D hD) hS hA (fun E97 H locs hw hP hS => ?_)
          obtain ⟨hI, kq98, hw⟩ := hw
          have hKb := hKp
          have hKp := hKp.tr kq98 (wl_sub rfl rfl)
          obtain ⟨y99, ey99⟩ : ∃ y, xi (E97 2) 5 = y := ⟨_, rfl⟩
          have fy99 : xv (E97 2) 5 = .int y99 := (hI.fi 2 (mF 2 rfl) rfl (Nat.le_of_ble_eq_true rfl) rfl).trans (congrArg Value.int ey99)
          have i100 : 0 ≤ y99.toInt ∧ y99.toInt ≤ 200 := by rw [← ey99]; exact hI.iv 2 (mF 2 rfl) rfl (Nat.le_of_ble_eq_true rfl) rfl
          obtain ⟨f101, f102⟩ := hw
          try rw [(show xi (E94 2) 5 = w26_2_5 from vi_e ((pw95.2 2 5 (fun q9 => absurd q9.2 (Nat.ne_of_beq_eq_false rfl))).trans ((kq56 2 5 rfl).trans hs26_2_5)))] at f101
          try rw [(show xi (E97 2) 5 = y99 from vi_e fy99)] at f101
          try rw [(show xi (E94 2) 5 = w26_2_5 from vi_e ((pw95.2 2 5 (fun q9 => absurd q9.2 (Nat.ne_of_beq_eq_false rfl))).trans ((kq56 2 5 rfl).trans hs26_2_5)))] at f102
          try rw [(show xi (E97 2) 5 = y99 from vi_e fy99)] at f102
          obtain ⟨g103, hg103⟩ : ∃ g, xi (E97 24) = g := ⟨_, rfl⟩
          obtain ⟨g104, hg104⟩ : ∃ g, xi (E97 25) = g := ⟨_, rfl⟩
          obtain ⟨y105, ey105⟩ : ∃ y, xi (E97 2) 9 = y := ⟨_, rfl⟩
          have fy105 : xv (E97 2) 9 = .int y105 := (hI.fi 2 (mF 2 rfl) rfl (Nat.le_of_ble_eq_true rfl) rfl).trans (congrArg Value.int ey105)
          have i106 : 0 ≤ y105.toInt ∧ y105.toInt ≤ 51 := by rw [← ey105]; exact hI.iv 2 (mF 2 rfl) rfl (Nat.le_of_ble_eq_true rfl) rfl
          try rw [show xi (E97 24) = g103 from hg103] at f102
          try rw [show xi (E97 25) = g104 from hg104] at f102
          try rw [show xi (E97 2) 9 = y105 from vi_e fy105] at f102
          try rw [show xi (E97 2) 5 = y99 from vi_e fy99] at f102
          have hf102 : TPok g103 g104 y105 y99 := f102
          obtain ⟨y107, ey107⟩ : ∃ y : Int32, y = v26_1 + (1 : Int32) := ⟨_, rfl⟩
          obtain ⟨ty107, iy107⟩ := ti_add (e := 1) (f := 200) i53 ln_1 ey107 (by decide)
          have ty107 : y107.toInt = v26_1.toInt + 1 := ty107
          have iy107 : 1 ≤ y107.toInt ∧ y107.toInt ≤ 200 := iy107
          refine lv_iinc (v := y107) (lv' := [(1, .int y107), (0, .ref (ad 2))]) hx hb dX10_read_56 hl (k := 0) rfl (by rw [ey107]; rfl) (by decide) rfl (fun ls hl => ?_)
          refine lv_goto (tgt := 26) hx hb dX10_read_59 (by decide) ?_
          exact ih26 y105 y99 g103 g104 y107 E97 _ _ _ i106 i100 (iv_w iy107 (by decide)) (hf102) (by omega) hI hKp fy105 fy99 hg103 hg104 hP hS (lv_sub hl [0, 1] rfl)
  exact hL26 (201) y20 y14 g18 g19 (0 : Int32) E12 _ _ _ i21 i15 (iv_w ln_0 (by decide)) (hf17) (by have h9 := ln_0; omega) hI hKp fy20 fy14 hg18 hg19 hP hS (lv_sub hl [0, 1] rfl)
