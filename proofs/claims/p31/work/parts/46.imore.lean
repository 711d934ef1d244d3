set_option maxRecDepth 100000 in
theorem zh_dX12_redress_0_0 : zc cX12_redress 0 [42, 180, 0, 10, 27, 28, 182, 0, 146, 153, 0, 15, 42, 180, 0, 10] = true := by decide +kernel
set_option maxRecDepth 100000 in
theorem zh_dX12_redress_16_16 : zc cX12_redress 16 [180, 0, 181, 16, 20, 161, 0, 5, 3, 172, 42, 180, 0, 10, 180, 0] = true := by decide +kernel
set_option maxRecDepth 100000 in
theorem zh_dX12_redress_30_32 : zc cX12_redress 32 [127, 27, 182, 0, 138, 192, 0, 130, 78, 45, 180, 0, 184, 28, 46, 2] = true := by decide +kernel
set_option maxRecDepth 100000 in
theorem zh_dX12_redress_48_48 : zc cX12_redress 48 [159, 0, 5, 3, 172, 45, 180, 0, 184, 28, 42, 180, 0, 10, 180, 0] = true := by decide +kernel
set_option maxRecDepth 100000 in
theorem zh_dX12_redress_62_64 : zc cX12_redress 64 [55, 79, 42, 180, 0, 10, 89, 180, 0, 181, 4, 96, 181, 0, 181, 4] = true := by decide +kernel
set_option maxRecDepth 100000 in
theorem zh_dX12_redress_80_80 : zc cX12_redress 80 [172] = true := by decide +kernel
set_option maxRecDepth 100000 in
theorem zh_dX13_redress_0_0 : zc cX13_redress 0 [42, 3, 181, 0, 228, 42, 180, 1, 179, 16, 20, 159, 0, 25, 42, 27] = true := by decide +kernel
set_option maxRecDepth 100000 in
theorem zh_dX13_redress_16_16 : zc cX13_redress 16 [28, 182, 1, 146, 153, 0, 16, 42, 27, 28, 42, 180, 0, 232, 182, 1] = true := by decide +kernel
set_option maxRecDepth 100000 in
theorem zh_dX13_redress_30_32 : zc cX13_redress 32 [182, 153, 0, 5, 3, 172, 42, 180, 0, 98, 42, 180, 1, 179, 27, 79] = true := by decide +kernel
set_option maxRecDepth 100000 in
theorem zh_dX13_redress_48_48 : zc cX13_redress 48 [42, 180, 0, 101, 42, 180, 1, 179, 28, 79, 42, 180, 0, 104, 42, 180] = true := by decide +kernel
set_option maxRecDepth 100000 in
theorem zh_dX13_redress_63_64 : zc cX13_redress 64 [1, 179, 42, 180, 0, 232, 79, 42, 89, 180, 1, 179, 4, 96, 181, 1] = true := by decide +kernel
set_option maxRecDepth 100000 in
theorem zh_dX13_redress_78_80 : zc cX13_redress 80 [179, 4, 172] = true := by decide +kernel
theorem dX12_redress_0 : decode cX12_redress 0 = .ok (.aload_n 0, 1) := zo_42 (zi_at zh_dX12_redress_0_0 0 rfl)
theorem dX12_redress_1 : decode cX12_redress 1 = .ok (.getfield 10, 3) := zo_180 (zi_at zh_dX12_redress_0_0 1 rfl) (zi_at zh_dX12_redress_0_0 2 rfl) (zi_at zh_dX12_redress_0_0 3 rfl) rfl
theorem dX12_redress_4 : decode cX12_redress 4 = .ok (.iload_n 1, 1) := zo_27 (zi_at zh_dX12_redress_0_0 4 rfl)
theorem dX12_redress_5 : decode cX12_redress 5 = .ok (.iload_n 2, 1) := zo_28 (zi_at zh_dX12_redress_0_0 5 rfl)
theorem dX12_redress_6 : decode cX12_redress 6 = .ok (.invokevirtual 146, 3) := zo_182 (zi_at zh_dX12_redress_0_0 6 rfl) (zi_at zh_dX12_redress_0_0 7 rfl) (zi_at zh_dX12_redress_0_0 8 rfl) rfl
theorem dX12_redress_9 : decode cX12_redress 9 = .ok (.ifCond .eq 15, 3) := zo_153 (zi_at zh_dX12_redress_0_0 9 rfl) (zi_at zh_dX12_redress_0_0 10 rfl) (zi_at zh_dX12_redress_0_0 11 rfl) rfl
theorem dX12_redress_12 : decode cX12_redress 12 = .ok (.aload_n 0, 1) := zo_42 (zi_at zh_dX12_redress_0_0 12 rfl)
theorem dX12_redress_13 : decode cX12_redress 13 = .ok (.getfield 10, 3) := zo_180 (zi_at zh_dX12_redress_0_0 13 rfl) (zi_at zh_dX12_redress_0_0 14 rfl) (zi_at zh_dX12_redress_0_0 15 rfl) rfl
theorem dX12_redress_16 : decode cX12_redress 16 = .ok (.getfield 181, 3) := zo_180 (zi_at zh_dX12_redress_16_16 0 rfl) (zi_at zh_dX12_redress_16_16 1 rfl) (zi_at zh_dX12_redress_16_16 2 rfl) rfl
theorem dX12_redress_19 : decode cX12_redress 19 = .ok (.bipush 20, 2) := zo_16 (zi_at zh_dX12_redress_16_16 3 rfl) (zi_at zh_dX12_redress_16_16 4 rfl) rfl
theorem dX12_redress_21 : decode cX12_redress 21 = .ok (.if_icmp .lt 5, 3) := zo_161 (zi_at zh_dX12_redress_16_16 5 rfl) (zi_at zh_dX12_redress_16_16 6 rfl) (zi_at zh_dX12_redress_16_16 7 rfl) rfl
theorem dX12_redress_24 : decode cX12_redress 24 = .ok (.iconst 0, 1) := zo_3 (zi_at zh_dX12_redress_16_16 8 rfl)
theorem dX12_redress_25 : decode cX12_redress 25 = .ok (.ireturn, 1) := zo_172 (zi_at zh_dX12_redress_16_16 9 rfl)
theorem dX12_redress_26 : decode cX12_redress 26 = .ok (.aload_n 0, 1) := zo_42 (zi_at zh_dX12_redress_16_16 10 rfl)
theorem dX12_redress_27 : decode cX12_redress 27 = .ok (.getfield 10, 3) := zo_180 (zi_at zh_dX12_redress_16_16 11 rfl) (zi_at zh_dX12_redress_16_16 12 rfl) (zi_at zh_dX12_redress_16_16 13 rfl) rfl
theorem dX12_redress_30 : decode cX12_redress 30 = .ok (.getfield 127, 3) := zo_180 (zi_at zh_dX12_redress_16_16 14 rfl) (zi_at zh_dX12_redress_16_16 15 rfl) (zi_at zh_dX12_redress_30_32 0 rfl) rfl
theorem dX12_redress_33 : decode cX12_redress 33 = .ok (.iload_n 1, 1) := zo_27 (zi_at zh_dX12_redress_30_32 1 rfl)
theorem dX12_redress_34 : decode cX12_redress 34 = .ok (.invokevirtual 138, 3) := zo_182 (zi_at zh_dX12_redress_30_32 2 rfl) (zi_at zh_dX12_redress_30_32 3 rfl) (zi_at zh_dX12_redress_30_32 4 rfl) rfl
theorem dX12_redress_37 : decode cX12_redress 37 = .ok (.checkcast 130, 3) := zo_192 (zi_at zh_dX12_redress_30_32 5 rfl) (zi_at zh_dX12_redress_30_32 6 rfl) (zi_at zh_dX12_redress_30_32 7 rfl) rfl
theorem dX12_redress_40 : decode cX12_redress 40 = .ok (.astore_n 3, 1) := zo_78 (zi_at zh_dX12_redress_30_32 8 rfl)
theorem dX12_redress_41 : decode cX12_redress 41 = .ok (.aload_n 3, 1) := zo_45 (zi_at zh_dX12_redress_30_32 9 rfl)
theorem dX12_redress_42 : decode cX12_redress 42 = .ok (.getfield 184, 3) := zo_180 (zi_at zh_dX12_redress_30_32 10 rfl) (zi_at zh_dX12_redress_30_32 11 rfl) (zi_at zh_dX12_redress_30_32 12 rfl) rfl
theorem dX12_redress_45 : decode cX12_redress 45 = .ok (.iload_n 2, 1) := zo_28 (zi_at zh_dX12_redress_30_32 13 rfl)
theorem dX12_redress_46 : decode cX12_redress 46 = .ok (.iaload, 1) := zo_46 (zi_at zh_dX12_redress_30_32 14 rfl)
theorem dX12_redress_47 : decode cX12_redress 47 = .ok (.iconst (-1), 1) := zo_2 (zi_at zh_dX12_redress_30_32 15 rfl)
theorem dX12_redress_48 : decode cX12_redress 48 = .ok (.if_icmp .eq 5, 3) := zo_159 (zi_at zh_dX12_redress_48_48 0 rfl) (zi_at zh_dX12_redress_48_48 1 rfl) (zi_at zh_dX12_redress_48_48 2 rfl) rfl
theorem dX12_redress_51 : decode cX12_redress 51 = .ok (.iconst 0, 1) := zo_3 (zi_at zh_dX12_redress_48_48 3 rfl)
theorem dX12_redress_52 : decode cX12_redress 52 = .ok (.ireturn, 1) := zo_172 (zi_at zh_dX12_redress_48_48 4 rfl)
theorem dX12_redress_53 : decode cX12_redress 53 = .ok (.aload_n 3, 1) := zo_45 (zi_at zh_dX12_redress_48_48 5 rfl)
theorem dX12_redress_54 : decode cX12_redress 54 = .ok (.getfield 184, 3) := zo_180 (zi_at zh_dX12_redress_48_48 6 rfl) (zi_at zh_dX12_redress_48_48 7 rfl) (zi_at zh_dX12_redress_48_48 8 rfl) rfl
theorem dX12_redress_57 : decode cX12_redress 57 = .ok (.iload_n 2, 1) := zo_28 (zi_at zh_dX12_redress_48_48 9 rfl)
theorem dX12_redress_58 : decode cX12_redress 58 = .ok (.aload_n 0, 1) := zo_42 (zi_at zh_dX12_redress_48_48 10 rfl)
theorem dX12_redress_59 : decode cX12_redress 59 = .ok (.getfield 10, 3) := zo_180 (zi_at zh_dX12_redress_48_48 11 rfl) (zi_at zh_dX12_redress_48_48 12 rfl) (zi_at zh_dX12_redress_48_48 13 rfl) rfl
theorem dX12_redress_62 : decode cX12_redress 62 = .ok (.getfield 55, 3) := zo_180 (zi_at zh_dX12_redress_48_48 14 rfl) (zi_at zh_dX12_redress_48_48 15 rfl) (zi_at zh_dX12_redress_62_64 0 rfl) rfl
theorem dX12_redress_65 : decode cX12_redress 65 = .ok (.iastore, 1) := zo_79 (zi_at zh_dX12_redress_62_64 1 rfl)
theorem dX12_redress_66 : decode cX12_redress 66 = .ok (.aload_n 0, 1) := zo_42 (zi_at zh_dX12_redress_62_64 2 rfl)
theorem dX12_redress_67 : decode cX12_redress 67 = .ok (.getfield 10, 3) := zo_180 (zi_at zh_dX12_redress_62_64 3 rfl) (zi_at zh_dX12_redress_62_64 4 rfl) (zi_at zh_dX12_redress_62_64 5 rfl) rfl
theorem dX12_redress_70 : decode cX12_redress 70 = .ok (.dup, 1) := zo_89 (zi_at zh_dX12_redress_62_64 6 rfl)
theorem dX12_redress_71 : decode cX12_redress 71 = .ok (.getfield 181, 3) := zo_180 (zi_at zh_dX12_redress_62_64 7 rfl) (zi_at zh_dX12_redress_62_64 8 rfl) (zi_at zh_dX12_redress_62_64 9 rfl) rfl
theorem dX12_redress_74 : decode cX12_redress 74 = .ok (.iconst 1, 1) := zo_4 (zi_at zh_dX12_redress_62_64 10 rfl)
theorem dX12_redress_75 : decode cX12_redress 75 = .ok (.iadd, 1) := zo_96 (zi_at zh_dX12_redress_62_64 11 rfl)
theorem dX12_redress_76 : decode cX12_redress 76 = .ok (.putfield 181, 3) := zo_181 (zi_at zh_dX12_redress_62_64 12 rfl) (zi_at zh_dX12_redress_62_64 13 rfl) (zi_at zh_dX12_redress_62_64 14 rfl) rfl
theorem dX12_redress_79 : decode cX12_redress 79 = .ok (.iconst 1, 1) := zo_4 (zi_at zh_dX12_redress_62_64 15 rfl)
theorem dX12_redress_80 : decode cX12_redress 80 = .ok (.ireturn, 1) := zo_172 (zi_at zh_dX12_redress_80_80 0 rfl)
theorem dX13_redress_0 : decode cX13_redress 0 = .ok (.aload_n 0, 1) := zo_42 (zi_at zh_dX13_redress_0_0 0 rfl)
theorem dX13_redress_1 : decode cX13_redress 1 = .ok (.iconst 0, 1) := zo_3 (zi_at zh_dX13_redress_0_0 1 rfl)
theorem dX13_redress_2 : decode cX13_redress 2 = .ok (.putfield 228, 3) := zo_181 (zi_at zh_dX13_redress_0_0 2 rfl) (zi_at zh_dX13_redress_0_0 3 rfl) (zi_at zh_dX13_redress_0_0 4 rfl) rfl
theorem dX13_redress_5 : decode cX13_redress 5 = .ok (.aload_n 0, 1) := zo_42 (zi_at zh_dX13_redress_0_0 5 rfl)
theorem dX13_redress_6 : decode cX13_redress 6 = .ok (.getfield 435, 3) := zo_180 (zi_at zh_dX13_redress_0_0 6 rfl) (zi_at zh_dX13_redress_0_0 7 rfl) (zi_at zh_dX13_redress_0_0 8 rfl) rfl
theorem dX13_redress_9 : decode cX13_redress 9 = .ok (.bipush 20, 2) := zo_16 (zi_at zh_dX13_redress_0_0 9 rfl) (zi_at zh_dX13_redress_0_0 10 rfl) rfl
theorem dX13_redress_11 : decode cX13_redress 11 = .ok (.if_icmp .eq 25, 3) := zo_159 (zi_at zh_dX13_redress_0_0 11 rfl) (zi_at zh_dX13_redress_0_0 12 rfl) (zi_at zh_dX13_redress_0_0 13 rfl) rfl
theorem dX13_redress_14 : decode cX13_redress 14 = .ok (.aload_n 0, 1) := zo_42 (zi_at zh_dX13_redress_0_0 14 rfl)
theorem dX13_redress_15 : decode cX13_redress 15 = .ok (.iload_n 1, 1) := zo_27 (zi_at zh_dX13_redress_0_0 15 rfl)
theorem dX13_redress_16 : decode cX13_redress 16 = .ok (.iload_n 2, 1) := zo_28 (zi_at zh_dX13_redress_16_16 0 rfl)
theorem dX13_redress_17 : decode cX13_redress 17 = .ok (.invokevirtual 402, 3) := zo_182 (zi_at zh_dX13_redress_16_16 1 rfl) (zi_at zh_dX13_redress_16_16 2 rfl) (zi_at zh_dX13_redress_16_16 3 rfl) rfl
theorem dX13_redress_20 : decode cX13_redress 20 = .ok (.ifCond .eq 16, 3) := zo_153 (zi_at zh_dX13_redress_16_16 4 rfl) (zi_at zh_dX13_redress_16_16 5 rfl) (zi_at zh_dX13_redress_16_16 6 rfl) rfl
theorem dX13_redress_23 : decode cX13_redress 23 = .ok (.aload_n 0, 1) := zo_42 (zi_at zh_dX13_redress_16_16 7 rfl)
theorem dX13_redress_24 : decode cX13_redress 24 = .ok (.iload_n 1, 1) := zo_27 (zi_at zh_dX13_redress_16_16 8 rfl)
theorem dX13_redress_25 : decode cX13_redress 25 = .ok (.iload_n 2, 1) := zo_28 (zi_at zh_dX13_redress_16_16 9 rfl)
theorem dX13_redress_26 : decode cX13_redress 26 = .ok (.aload_n 0, 1) := zo_42 (zi_at zh_dX13_redress_16_16 10 rfl)
theorem dX13_redress_27 : decode cX13_redress 27 = .ok (.getfield 232, 3) := zo_180 (zi_at zh_dX13_redress_16_16 11 rfl) (zi_at zh_dX13_redress_16_16 12 rfl) (zi_at zh_dX13_redress_16_16 13 rfl) rfl
theorem dX13_redress_30 : decode cX13_redress 30 = .ok (.invokevirtual 438, 3) := zo_182 (zi_at zh_dX13_redress_16_16 14 rfl) (zi_at zh_dX13_redress_16_16 15 rfl) (zi_at zh_dX13_redress_30_32 0 rfl) rfl
theorem dX13_redress_33 : decode cX13_redress 33 = .ok (.ifCond .eq 5, 3) := zo_153 (zi_at zh_dX13_redress_30_32 1 rfl) (zi_at zh_dX13_redress_30_32 2 rfl) (zi_at zh_dX13_redress_30_32 3 rfl) rfl
theorem dX13_redress_36 : decode cX13_redress 36 = .ok (.iconst 0, 1) := zo_3 (zi_at zh_dX13_redress_30_32 4 rfl)
theorem dX13_redress_37 : decode cX13_redress 37 = .ok (.ireturn, 1) := zo_172 (zi_at zh_dX13_redress_30_32 5 rfl)
theorem dX13_redress_38 : decode cX13_redress 38 = .ok (.aload_n 0, 1) := zo_42 (zi_at zh_dX13_redress_30_32 6 rfl)
theorem dX13_redress_39 : decode cX13_redress 39 = .ok (.getfield 98, 3) := zo_180 (zi_at zh_dX13_redress_30_32 7 rfl) (zi_at zh_dX13_redress_30_32 8 rfl) (zi_at zh_dX13_redress_30_32 9 rfl) rfl
theorem dX13_redress_42 : decode cX13_redress 42 = .ok (.aload_n 0, 1) := zo_42 (zi_at zh_dX13_redress_30_32 10 rfl)
theorem dX13_redress_43 : decode cX13_redress 43 = .ok (.getfield 435, 3) := zo_180 (zi_at zh_dX13_redress_30_32 11 rfl) (zi_at zh_dX13_redress_30_32 12 rfl) (zi_at zh_dX13_redress_30_32 13 rfl) rfl
theorem dX13_redress_46 : decode cX13_redress 46 = .ok (.iload_n 1, 1) := zo_27 (zi_at zh_dX13_redress_30_32 14 rfl)
theorem dX13_redress_47 : decode cX13_redress 47 = .ok (.iastore, 1) := zo_79 (zi_at zh_dX13_redress_30_32 15 rfl)
theorem dX13_redress_48 : decode cX13_redress 48 = .ok (.aload_n 0, 1) := zo_42 (zi_at zh_dX13_redress_48_48 0 rfl)
theorem dX13_redress_49 : decode cX13_redress 49 = .ok (.getfield 101, 3) := zo_180 (zi_at zh_dX13_redress_48_48 1 rfl) (zi_at zh_dX13_redress_48_48 2 rfl) (zi_at zh_dX13_redress_48_48 3 rfl) rfl
theorem dX13_redress_52 : decode cX13_redress 52 = .ok (.aload_n 0, 1) := zo_42 (zi_at zh_dX13_redress_48_48 4 rfl)
theorem dX13_redress_53 : decode cX13_redress 53 = .ok (.getfield 435, 3) := zo_180 (zi_at zh_dX13_redress_48_48 5 rfl) (zi_at zh_dX13_redress_48_48 6 rfl) (zi_at zh_dX13_redress_48_48 7 rfl) rfl
theorem dX13_redress_56 : decode cX13_redress 56 = .ok (.iload_n 2, 1) := zo_28 (zi_at zh_dX13_redress_48_48 8 rfl)
theorem dX13_redress_57 : decode cX13_redress 57 = .ok (.iastore, 1) := zo_79 (zi_at zh_dX13_redress_48_48 9 rfl)
theorem dX13_redress_58 : decode cX13_redress 58 = .ok (.aload_n 0, 1) := zo_42 (zi_at zh_dX13_redress_48_48 10 rfl)
theorem dX13_redress_59 : decode cX13_redress 59 = .ok (.getfield 104, 3) := zo_180 (zi_at zh_dX13_redress_48_48 11 rfl) (zi_at zh_dX13_redress_48_48 12 rfl) (zi_at zh_dX13_redress_48_48 13 rfl) rfl
theorem dX13_redress_62 : decode cX13_redress 62 = .ok (.aload_n 0, 1) := zo_42 (zi_at zh_dX13_redress_48_48 14 rfl)
theorem dX13_redress_63 : decode cX13_redress 63 = .ok (.getfield 435, 3) := zo_180 (zi_at zh_dX13_redress_48_48 15 rfl) (zi_at zh_dX13_redress_63_64 0 rfl) (zi_at zh_dX13_redress_63_64 1 rfl) rfl
theorem dX13_redress_66 : decode cX13_redress 66 = .ok (.aload_n 0, 1) := zo_42 (zi_at zh_dX13_redress_63_64 2 rfl)
theorem dX13_redress_67 : decode cX13_redress 67 = .ok (.getfield 232, 3) := zo_180 (zi_at zh_dX13_redress_63_64 3 rfl) (zi_at zh_dX13_redress_63_64 4 rfl) (zi_at zh_dX13_redress_63_64 5 rfl) rfl
theorem dX13_redress_70 : decode cX13_redress 70 = .ok (.iastore, 1) := zo_79 (zi_at zh_dX13_redress_63_64 6 rfl)
theorem dX13_redress_71 : decode cX13_redress 71 = .ok (.aload_n 0, 1) := zo_42 (zi_at zh_dX13_redress_63_64 7 rfl)
theorem dX13_redress_72 : decode cX13_redress 72 = .ok (.dup, 1) := zo_89 (zi_at zh_dX13_redress_63_64 8 rfl)
theorem dX13_redress_73 : decode cX13_redress 73 = .ok (.getfield 435, 3) := zo_180 (zi_at zh_dX13_redress_63_64 9 rfl) (zi_at zh_dX13_redress_63_64 10 rfl) (zi_at zh_dX13_redress_63_64 11 rfl) rfl
theorem dX13_redress_76 : decode cX13_redress 76 = .ok (.iconst 1, 1) := zo_4 (zi_at zh_dX13_redress_63_64 12 rfl)
theorem dX13_redress_77 : decode cX13_redress 77 = .ok (.iadd, 1) := zo_96 (zi_at zh_dX13_redress_63_64 13 rfl)
theorem dX13_redress_78 : decode cX13_redress 78 = .ok (.putfield 435, 3) := zo_181 (zi_at zh_dX13_redress_63_64 14 rfl) (zi_at zh_dX13_redress_63_64 15 rfl) (zi_at zh_dX13_redress_78_80 0 rfl) rfl
theorem dX13_redress_81 : decode cX13_redress 81 = .ok (.iconst 1, 1) := zo_4 (zi_at zh_dX13_redress_78_80 1 rfl)
theorem dX13_redress_82 : decode cX13_redress 82 = .ok (.ireturn, 1) := zo_172 (zi_at zh_dX13_redress_78_80 2 rfl)
theorem hz_yX13_hasRedress_3 : yX13_hasRedress.cls ≠ "java/lang/invoke/MethodHandle" ∧ yX13_hasRedress.cls ≠ "java/lang/invoke/VarHandle" ∧ (parseMethodDescriptor yX13_hasRedress.desc).map (fun d => d.parameters.length) = some 3 := by decide +kernel

def v_redressX : List Cond := .code yX13_redress cX13_redress 3 (some .boolean) :: vA
abbrev rm_redressX : Room := { frames := 2, cells := 0, slots := 0, locals := 80 }
def w_redressX : Nat → Nat → Bool := wl [29, 30, 31] [(0, 0), (0, 48)]
set_option maxHeartbeats 4000000 in
set_option maxRecDepth 100000 in
theorem q_redressX (l : Launch) (dC : Nat → ClassId) (dI : Nat → Nat → Nat) (cT : Nat → ClassId) (ad : Nat → Nat) (E : Nat → va_E) (sz : Nat) (a0 : Int32) (a1 : Int32) (hI0 : IX cT shM spM 72 ad E)  : Met l yX13_redress v_redressX rm_redressX (va_Pc [.ref (ad 0), .int a0, .int a1] (HW dC dI (TYM cT) 72 ad E sz)) (va_Qi (S := Nat → va_E) (fun r u => IX cT shM spM 72 ad u ∧ Kp w_redressX E u ∧ ((r = 1 ∧ (((0 ≤ a0.toInt ∧ a0.toInt < (xi (E 0) 46).toInt) ∧ (0 ≤ a1.toInt ∧ a1.toInt < (xi (E 0) 8).toInt) ∧ (xi (E 21) (16 * a0.toInt + a1.toInt).toNat).toInt ≤ (xi (E 0) 1).toInt) ∧ (xi (E 0) 48).toInt < 20) ∧ ((∀ k : Nat, (k : Int) < (xi (E 0) 48).toInt → ¬ ((xi (E 29) k).toInt = a0.toInt ∧ (xi (E 30) k).toInt = a1.toInt ∧ (xi (E 31) k).toInt ≤ (xi (E 0) 1).toInt))) ∧ ((xi (u 0) 48).toInt = (xi (E 0) 48).toInt + 1) ∧ (xi (u 29) = upd (xi (E 29)) (xi (E 0) 48).toNatClampNeg a0 ∧ xi (u 30) = upd (xi (E 30)) (xi (E 0) 48).toNatClampNeg a1 ∧ xi (u 31) = upd (xi (E 31)) (xi (E 0) 48).toNatClampNeg (xi (E 0) 1))) ∨ (r = 0 ∧ (¬ (((0 ≤ a0.toInt ∧ a0.toInt < (xi (E 0) 46).toInt) ∧ (0 ≤ a1.toInt ∧ a1.toInt < (xi (E 0) 8).toInt) ∧ (xi (E 21) (16 * a0.toInt + a1.toInt).toNat).toInt ≤ (xi (E 0) 1).toInt) ∧ (xi (E 0) 48).toInt < 20 ∧ (∀ k : Nat, (k : Int) < (xi (E 0) 48).toInt → ¬ ((xi (E 29) k).toInt = a0.toInt ∧ (xi (E 30) k).toInt = a1.toInt ∧ (xi (E 31) k).toInt ≤ (xi (E 0) 1).toInt)))) ∧ ((xi (u 0) 48).toInt = (xi (E 0) 48).toInt) ∧ (xi (u 29) = xi (E 29) ∧ xi (u 30) = xi (E 30) ∧ xi (u 31) = xi (E 31))))) (HB dC dI 72 ad) (va_A (WX 72 ad E) sz)) 0 0 (va_A (WX 72 ad E) sz) := by
  refine Met.ofW (cc := cX13_redress) (maxL := 3) (ret := (some .boolean)) (by decide) rfl ?_
  intro p e s m args below meth c s₁ B hml hv
  obtain ⟨hargs, hsz, hP, hK, hD0, hEV⟩ := hv
  subst hsz
  have hx := B.exec
  have hb := B.bytes
  have hr := B.returns
  have hts := atoms_spec (ws := v_redressX) B.pre
  have hown : s.vm.findClass RX13 = some m.cls := findClass_of_methodNamed B.named
  have hlocks := B.notSynchronized
  have hinX13 : ∀ w ∈ u_ws RX13 TX13 97, w ∈ v_redressX := fun w h => vA_in _ w (in_X13 w h)
  generalize hAe : va_A (WX 72 ad E) s.heap.size = A at hEV ⊢
  have hA : ∀ q : Nat, s.heap.size ≤ q → A q := fun q h => by rw [← hAe]; exact Or.inr h
  have hD : va_D A (WX 72 ad E) := by rw [← hAe]; exact hD0.self
  have hS : va_S A s.heap s.heap [] := va_S.rf
  have hI := hI0
  have hKp : Kp w_redressX E E := Kp.rf
  have hl := lv_entry ([.ref (ad 0), .int a0, .int a1]) (n := 3) (Nat.le_of_ble_eq_true rfl)
  obtain ⟨Q, hQ⟩ : ∃ Q, Q = MQ below (va_Qi (S := Nat → va_E) (fun r u => IX cT shM spM 72 ad u ∧ Kp w_redressX E u ∧ ((r = 1 ∧ (((0 ≤ a0.toInt ∧ a0.toInt < (xi (E 0) 46).toInt) ∧ (0 ≤ a1.toInt ∧ a1.toInt < (xi (E 0) 8).toInt) ∧ (xi (E 21) (16 * a0.toInt + a1.toInt).toNat).toInt ≤ (xi (E 0) 1).toInt) ∧ (xi (E 0) 48).toInt < 20) ∧ ((∀ k : Nat, (k : Int) < (xi (E 0) 48).toInt → ¬ ((xi (E 29) k).toInt = a0.toInt ∧ (xi (E 30) k).toInt = a1.toInt ∧ (xi (E 31) k).toInt ≤ (xi (E 0) 1).toInt))) ∧ ((xi (u 0) 48).toInt = (xi (E 0) 48).toInt + 1) ∧ (xi (u 29) = upd (xi (E 29)) (xi (E 0) 48).toNatClampNeg a0 ∧ xi (u 30) = upd (xi (E 30)) (xi (E 0) 48).toNatClampNeg a1 ∧ xi (u 31) = upd (xi (E 31)) (xi (E 0) 48).toNatClampNeg (xi (E 0) 1))) ∨ (r = 0 ∧ (¬ (((0 ≤ a0.toInt ∧ a0.toInt < (xi (E 0) 46).toInt) ∧ (0 ≤ a1.toInt ∧ a1.toInt < (xi (E 0) 8).toInt) ∧ (xi (E 21) (16 * a0.toInt + a1.toInt).toNat).toInt ≤ (xi (E 0) 1).toInt) ∧ (xi (E 0) 48).toInt < 20 ∧ (∀ k : Nat, (k : Int) < (xi (E 0) 48).toInt → ¬ ((xi (E 29) k).toInt = a0.toInt ∧ (xi (E 30) k).toInt = a1.toInt ∧ (xi (E 31) k).toInt ≤ (xi (E 0) 1).toInt)))) ∧ ((xi (u 0) 48).toInt = (xi (E 0) 48).toInt) ∧ (xi (u 29) = xi (E 29) ∧ xi (u 30) = xi (E 30) ∧ xi (u 31) = xi (E 31))))) (HB dC dI 72 ad) (A)) args s 0 0 (A) := ⟨_, rfl⟩
  rw [← hQ, show entryFrame m args 3 = _ from (congrArg (fun z => entryFrame m z 3) hargs).trans (lg_entry_eq _ _ _)]
  generalize (lg_sl ([.ref (ad 0), .int a0, .int a1]) ++ List.replicate (3 - (lg_sl ([.ref (ad 0), .int a0, .int a1])).length) Slot.unset).toArray = ls at hl ⊢
  have hl : lv_has ls 3 [(0, .ref (ad 0)), (1, .int a0), (2, .int a1)] := hl
  obtain ⟨y1, ey1⟩ : ∃ y, xi (E 0) 48 = y := ⟨_, rfl⟩
  have fy1 : xv (E 0) 48 = .int y1 := (hI.fi 0 (Nat.le_of_ble_eq_true rfl) rfl (Nat.le_of_ble_eq_true rfl) rfl).trans (congrArg Value.int ey1)
  have iy1 : 0 ≤ y1.toInt ∧ y1.toInt ≤ 20 := by rw [← ey1]; exact hI.iv 0 (Nat.le_of_ble_eq_true rfl) rfl (Nat.le_of_ble_eq_true rfl) rfl
  obtain ⟨g2, hg2⟩ : ∃ g, xi (E 29) = g := ⟨_, rfl⟩
  obtain ⟨g3, hg3⟩ : ∃ g, xi (E 30) = g := ⟨_, rfl⟩
  obtain ⟨g4, hg4⟩ : ∃ g, xi (E 31) = g := ⟨_, rfl⟩
  refine lv_aload_n hx hb dX13_redress_0 rfl (lv_at hl 0 rfl) ?_
  refine lv_iconst (v := 0) hx hb dX13_redress_1 (by decide) ?_
  refine th_put (ci := 14) (C := RX13) (T := TX13) (N := 97) (v := .int 0) (ty := .int) hx hb hts hinX13 tyX13 tyX13_ok nmX13 hown hK hP (WX_D hD) hS hI 0 (Nat.le_of_ble_eq_true rfl) rfl rfl 0 (Nat.le_of_ble_eq_true rfl) (hts _ (vA_in _ _ (in_24 _ (zs4 (zs4 (zs1 (zs1 (zs0)))))))) (fun _ h9 => h9) rfl (by decide +kernel) rfl rfl (okI rfl (iv_w ln_0 (by decide))) dX13_redress_2 (fun H locs E5 pw6 hI hP hS => ?_)
  have hKp := hKp.pw pw6 rfl
  refine lv_aload_n hx hb dX13_redress_5 rfl (lv_at hl 0 rfl) ?_
  refine th_get (ci := 14) (C := RX13) (T := TX13) (N := 97) (v := .int y1) hx hb hts hinX13 hown hK hP hI 0 (Nat.le_of_ble_eq_true rfl) rfl rfl 48 (Nat.le_of_ble_eq_true rfl) (hts _ (vA_in _ _ (in_30 _ (zs16 (zs4 (zs1 (zs0))))))) (fun _ h9 => h9) ((pw6.2 0 48 (fun q9 => absurd q9.2 (Nat.ne_of_beq_eq_false rfl))).trans fy1) dX13_redress_6 ?_
  refine lv_bipush (v := 20) hx hb dX13_redress_9 (by decide) ?_
  refine lv_icmp_eq (tgt := 36) hx hb dX13_redress_11 (by decide) (fun c7 => ?_) (fun c7 => ?_)
  · --11 taken
    have t8 : y1.toInt = 20 := ti_eq c7
    have i9 : 20 ≤ y1.toInt ∧ y1.toInt ≤ 20 := iv_eqi t8 iy1 (il_ 20) (by decide)
    refine lv_iconst (v := 0) hx hb dX13_redress_36 (by decide) ?_
    rw [hQ]
    exact W.zret (v := 0) hx hb hr rfl (fun t ht hW => ⟨⟨0, E5, rfl, ⟨hI, hKp, Or.inr (⟨rfl, fun g9 => by obtain ⟨g7, g8, -⟩ := g9; (try rw [ey1] at g8); omega, by have h8 := ln_0; (try rw [(show xi (E5 0) 48 = y1 from vi_e ((pw6.2 0 48 (fun q9 => absurd q9.2 (Nat.ne_of_beq_eq_false rfl))).trans fy1))]); (try rw [ey1]); all_goals omega, ⟨(show xi (E5 29) = g2 from ((pw6.ef 29 (Nat.ne_of_beq_eq_false rfl)).trans hg2)).trans (show xi (E 29) = g2 from hg2).symm, (show xi (E5 30) = g3 from ((pw6.ef 30 (Nat.ne_of_beq_eq_false rfl)).trans hg3)).trans (show xi (E 30) = g3 from hg3).symm, (show xi (E5 31) = g4 from ((pw6.ef 31 (Nat.ne_of_beq_eq_false rfl)).trans hg4)).trans (show xi (E 31) = g4 from hg4).symm⟩⟩)⟩, by show va_P (dC, dI) vwCl (WX 72 ad E5) t.heap; rw [ht]; exact hP⟩, hS.F ht⟩) hS.2.2 dX13_redress_37
  · --11 not
    have t10 : ¬ y1.toInt = 20 := ti_ne c7
    have i11 : 0 ≤ y1.toInt ∧ y1.toInt ≤ 19 := iv_ne_r t10 iy1 (il_ 20)
    refine lv_aload_n hx hb dX13_redress_14 rfl (lv_at hl 0 rfl) ?_
    refine lv_iload_n hx hb dX13_redress_15 rfl (lv_at hl 1 rfl) ?_
    refine lv_iload_n hx hb dX13_redress_16 rfl (lv_at hl 2 rfl) ?_
    refine th_ri (va_runV (As := [.int a0, .int a1]) (rest := []) ⟨hx, hb, hml, hown, hts⟩ (q_isEntry l dC dI cT ad E5 H.size a0 a1 hI) (cwV 2 hts (gi_V (in_33 _ (zs4 (zs4 (zs0)))) (in_33 _ (zs4 (zs4 (zs1 (zs0))))) (in_33 _ (zs4 (zs4 (zs1 (zs1 (zs0)))))) (in_24 _ (zs4 (zs4 (zs4 (zs1 (zs1 (zs1 (zs0)))))))) (in_32 _ (zs16 (zs4 (zs4 (zs0)))))) rfl rfl rfl ⟨rfl, hz_yX13_isEntry_2⟩ ⟨Nat.le_of_ble_eq_true rfl, Nat.le_of_ble_eq_true rfl⟩) ⟨HW_bl, va_recv hK hP (ci := 14) (q0 := 0) rfl (hI.ob 0 (Nat.le_of_ble_eq_true rfl) rfl), (HW_wi hP hK (WX_D hD) hS hA hEV)⟩ rfl rfl hl.1 rfl (lv_room (Nat.le_of_ble_eq_true rfl)) dX13_redress_17 ⟨Nat.le_of_ble_eq_true rfl, Nat.le_of_ble_eq_true rfl⟩) hS hP (fun r12 H locs hw hP hS => ?_)
    rcases hw with hw | hw
    · -- isEntry, case 0
      obtain ⟨rfl, f13, f14, f15⟩ := hw
      have i16 : 0 ≤ (xi (E 0) 46).toInt ∧ (xi (E 0) 46).toInt ≤ 20 := (show 0 ≤ (xi (E 0) 46).toInt ∧ (xi (E 0) 46).toInt ≤ 20 from hI0.iv 0 (Nat.le_of_ble_eq_true rfl) rfl (Nat.le_of_ble_eq_true rfl) rfl)
      have i17 : 0 ≤ (xi (E 0) 8).toInt ∧ (xi (E 0) 8).toInt ≤ 16 := (show 0 ≤ (xi (E 0) 8).toInt ∧ (xi (E 0) 8).toInt ≤ 16 from hI0.iv 0 (Nat.le_of_ble_eq_true rfl) rfl (Nat.le_of_ble_eq_true rfl) rfl)
      have i18 : 0 ≤ (xi (E 0) 1).toInt ∧ (xi (E 0) 1).toInt ≤ 400 := (show 0 ≤ (xi (E 0) 1).toInt ∧ (xi (E 0) 1).toInt ≤ 400 from hI0.iv 0 (Nat.le_of_ble_eq_true rfl) rfl (Nat.le_of_ble_eq_true rfl) rfl)
      try rw [hKp.ei 0 46 rfl] at f13
      try rw [hKp.ei 0 8 rfl] at f13
      try rw [hKp.ei 0 1 rfl] at f13
      try rw [hKp.ef 21 (fun _ => rfl)] at f13
      refine lv_if_eq (tgt := 36) hx hb dX13_redress_20 (by decide) (fun c19 => ?_) (fun c19 => ?_)
      · --20 taken
        exact absurd c19 (by decide)
      · --20 not
        refine lv_aload_n hx hb dX13_redress_23 rfl (lv_at hl 0 rfl) ?_
        refine lv_iload_n hx hb dX13_redress_24 rfl (lv_at hl 1 rfl) ?_
        refine lv_iload_n hx hb dX13_redress_25 rfl (lv_at hl 2 rfl) ?_
        refine lv_aload_n hx hb dX13_redress_26 rfl (lv_at hl 0 rfl) ?_
        refine th_get (ci := 14) (C := RX13) (T := TX13) (N := 97) (v := .int (xi (E 0) 1)) hx hb hts hinX13 hown hK hP hI 0 (Nat.le_of_ble_eq_true rfl) rfl rfl 1 (Nat.le_of_ble_eq_true rfl) (hts _ (vA_in _ _ (in_24 _ (zs16 (zs4 (zs4 (zs1 (zs1 (zs1 (zs0)))))))))) (fun _ h9 => h9) (th_v0 hKp hI0 0 (Nat.le_of_ble_eq_true rfl) rfl (Nat.le_of_ble_eq_true rfl) rfl rfl) dX13_redress_27 ?_
        refine th_ri (va_runV (As := [.int a0, .int a1, .int (xi (E 0) 1)]) (rest := []) ⟨hx, hb, hml, hown, hts⟩ (q_hasRedressX l dC dI cT ad E5 H.size a0 a1 (xi (E 0) 1) hI) (cwV 3 hts (gi_V (in_32 _ (zs16 (zs16 (zs4 (zs1 (zs1 (zs1 (zs0)))))))) (in_33 _ zs0) (in_33 _ (zs1 (zs0))) (in_24 _ (zs4 (zs4 (zs4 (zs1 (zs1 (zs1 (zs0)))))))) (in_32 _ zs0)) rfl rfl rfl ⟨rfl, hz_yX13_hasRedress_3⟩ ⟨Nat.le_of_ble_eq_true rfl, Nat.le_of_ble_eq_true rfl⟩) ⟨HW_bl, va_recv hK hP (ci := 14) (q0 := 0) rfl (hI.ob 0 (Nat.le_of_ble_eq_true rfl) rfl), (HW_wi hP hK (WX_D hD) hS hA hEV)⟩ rfl rfl hl.1 rfl (lv_room (Nat.le_of_ble_eq_true rfl)) dX13_redress_30 ⟨Nat.le_of_ble_eq_true rfl, Nat.le_of_ble_eq_true rfl⟩) hS hP (fun r20 H locs hw hP hS => ?_)
        rcases hw with hw | hw
        · -- hasRedressX, case 0
          obtain ⟨rfl, f21⟩ := hw
          try rw [(show xi (E5 0) 48 = y1 from vi_e ((pw6.2 0 48 (fun q9 => absurd q9.2 (Nat.ne_of_beq_eq_false rfl))).trans fy1))] at f21
          have hq29 : xi (E5 29) = xi (E 29) := (show xi (E5 29) = g2 from ((pw6.ef 29 (Nat.ne_of_beq_eq_false rfl)).trans hg2)).trans (show xi (E 29) = g2 from hg2).symm
          have hq30 : xi (E5 30) = xi (E 30) := (show xi (E5 30) = g3 from ((pw6.ef 30 (Nat.ne_of_beq_eq_false rfl)).trans hg3)).trans (show xi (E 30) = g3 from hg3).symm
          have hq31 : xi (E5 31) = xi (E 31) := (show xi (E5 31) = g4 from ((pw6.ef 31 (Nat.ne_of_beq_eq_false rfl)).trans hg4)).trans (show xi (E 31) = g4 from hg4).symm
          have hs48 : xi (E5 0) 48 = xi (E 0) 48 := (show xi (E5 0) 48 = y1 from vi_e ((pw6.2 0 48 (fun q9 => absurd q9.2 (Nat.ne_of_beq_eq_false rfl))).trans fy1)).trans ey1.symm
          refine lv_if_eq (tgt := 38) hx hb dX13_redress_33 (by decide) (fun c22 => ?_) (fun c22 => ?_)
          · --33 taken
            exact absurd c22 (by decide)
          · --33 not
            refine lv_iconst (v := 0) hx hb dX13_redress_36 (by decide) ?_
            rw [hQ]
            exact W.zret (v := 0) hx hb hr rfl (fun t ht hW => ⟨⟨0, E5, rfl, ⟨hI, hKp, Or.inr (⟨rfl, fun g9 => by have f9 : (∃ k : Nat, (k : Int) < (xi (E 0) 48).toInt ∧ (xi (E 29) k).toInt = a0.toInt ∧ (xi (E 30) k).toInt = a1.toInt ∧ (xi (E 31) k).toInt ≤ (xi (E 0) 1).toInt) := (by first | exact f21 | (rw [← hq29, ← hq30, ← hq31, ey1]; exact f21) | (rw [← hq29, ← hq30, ← hq31, ← hs48]; exact f21)); obtain ⟨k9, h8, h9⟩ := f9; exact g9.2.2 k9 h8 h9, by have h8 := ln_0; (try rw [(show xi (E5 0) 48 = y1 from vi_e ((pw6.2 0 48 (fun q9 => absurd q9.2 (Nat.ne_of_beq_eq_false rfl))).trans fy1))]); (try rw [ey1]); all_goals omega, ⟨(show xi (E5 29) = g2 from ((pw6.ef 29 (Nat.ne_of_beq_eq_false rfl)).trans hg2)).trans (show xi (E 29) = g2 from hg2).symm, (show xi (E5 30) = g3 from ((pw6.ef 30 (Nat.ne_of_beq_eq_false rfl)).trans hg3)).trans (show xi (E 30) = g3 from hg3).symm, (show xi (E5 31) = g4 from ((pw6.ef 31 (Nat.ne_of_beq_eq_false rfl)).trans hg4)).trans (show xi (E 31) = g4 from hg4).symm⟩⟩)⟩, by show va_P (dC, dI) vwCl (WX 72 ad E5) t.heap; rw [ht]; exact hP⟩, hS.F ht⟩) hS.2.2 dX13_redress_37
        · -- hasRedressX, case 1
          obtain ⟨rfl, f23⟩ := hw
          try rw [(show xi (E5 0) 48 = y1 from vi_e ((pw6.2 0 48 (fun q9 => absurd q9.2 (Nat.ne_of_beq_eq_false rfl))).trans fy1))] at f23
          have hq29 : xi (E5 29) = xi (E 29) := (show xi (E5 29) = g2 from ((pw6.ef 29 (Nat.ne_of_beq_eq_false rfl)).trans hg2)).trans (show xi (E 29) = g2 from hg2).symm
          have hq30 : xi (E5 30) = xi (E 30) := (show xi (E5 30) = g3 from ((pw6.ef 30 (Nat.ne_of_beq_eq_false rfl)).trans hg3)).trans (show xi (E 30) = g3 from hg3).symm
          have hq31 : xi (E5 31) = xi (E 31) := (show xi (E5 31) = g4 from ((pw6.ef 31 (Nat.ne_of_beq_eq_false rfl)).trans hg4)).trans (show xi (E 31) = g4 from hg4).symm
          have hs48 : xi (E5 0) 48 = xi (E 0) 48 := (show xi (E5 0) 48 = y1 from vi_e ((pw6.2 0 48 (fun q9 => absurd q9.2 (Nat.ne_of_beq_eq_false rfl))).trans fy1)).trans ey1.symm
          refine lv_if_eq (tgt := 38) hx hb dX13_redress_33 (by decide) (fun c24 => ?_) (fun c24 => ?_)
          · --33 taken
            refine lv_aload_n hx hb dX13_redress_38 rfl (lv_at hl 0 rfl) ?_
            refine th_get (ci := 14) (C := RX13) (T := TX13) (N := 97) (v := .ref (ad 29)) hx hb hts hinX13 hown hK hP hI 0 (Nat.le_of_ble_eq_true rfl) rfl rfl 43 (Nat.le_of_ble_eq_true rfl) (hts _ (vA_in _ _ (in_32 _ (zs1 (zs0))))) (fun _ h9 => h9) (hI.fr 0 (Nat.le_of_ble_eq_true rfl) rfl (Nat.le_of_ble_eq_true rfl) 29 rfl) dX13_redress_39 ?_
            refine lv_aload_n hx hb dX13_redress_42 rfl (lv_at hl 0 rfl) ?_
            refine th_get (ci := 14) (C := RX13) (T := TX13) (N := 97) (v := .int y1) hx hb hts hinX13 hown hK hP hI 0 (Nat.le_of_ble_eq_true rfl) rfl rfl 48 (Nat.le_of_ble_eq_true rfl) (hts _ (vA_in _ _ (in_30 _ (zs16 (zs4 (zs1 (zs0))))))) (fun _ h9 => h9) ((pw6.2 0 48 (fun q9 => absurd q9.2 (Nat.ne_of_beq_eq_false rfl))).trans fy1) dX13_redress_43 ?_
            refine lv_iload_n hx hb dX13_redress_46 rfl (lv_at hl 1 rfl) ?_
            have n25 : vp_in y1 20 := (iv_in (n := 20) i11 (by decide))
            refine th_iast hx hb hK hP (WX_D hD) hS hI 29 (Nat.le_of_ble_eq_true rfl) rfl rfl n25 (okI rfl f14) dX13_redress_47 (fun H locs E26 pw27 hI hP hS => ?_)
            have hKp := hKp.pw pw27 rfl
            obtain ⟨g28, eg28⟩ : ∃ z : Nat → Int32, z = upd g2 y1.toNatClampNeg a0 := ⟨_, rfl⟩
            have hg28 : xi (E26 29) = g28 := by rw [pw27.eu, ((pw6.ef 29 (Nat.ne_of_beq_eq_false rfl)).trans hg2), eg28]
            refine lv_aload_n hx hb dX13_redress_48 rfl (lv_at hl 0 rfl) ?_
            refine th_get (ci := 14) (C := RX13) (T := TX13) (N := 97) (v := .ref (ad 30)) hx hb hts hinX13 hown hK hP hI 0 (Nat.le_of_ble_eq_true rfl) rfl rfl 44 (Nat.le_of_ble_eq_true rfl) (hts _ (vA_in _ _ (in_32 _ (zs1 (zs1 (zs0)))))) (fun _ h9 => h9) (hI.fr 0 (Nat.le_of_ble_eq_true rfl) rfl (Nat.le_of_ble_eq_true rfl) 30 rfl) dX13_redress_49 ?_
            refine lv_aload_n hx hb dX13_redress_52 rfl (lv_at hl 0 rfl) ?_
            refine th_get (ci := 14) (C := RX13) (T := TX13) (N := 97) (v := .int y1) hx hb hts hinX13 hown hK hP hI 0 (Nat.le_of_ble_eq_true rfl) rfl rfl 48 (Nat.le_of_ble_eq_true rfl) (hts _ (vA_in _ _ (in_30 _ (zs16 (zs4 (zs1 (zs0))))))) (fun _ h9 => h9) ((pw27.2 0 48 (fun q9 => absurd q9.1 (Nat.ne_of_beq_eq_false rfl))).trans ((pw6.2 0 48 (fun q9 => absurd q9.2 (Nat.ne_of_beq_eq_false rfl))).trans fy1)) dX13_redress_53 ?_
            refine lv_iload_n hx hb dX13_redress_56 rfl (lv_at hl 2 rfl) ?_
            have n29 : vp_in y1 20 := (iv_in (n := 20) i11 (by decide))
            refine th_iast hx hb hK hP (WX_D hD) hS hI 30 (Nat.le_of_ble_eq_true rfl) rfl rfl n29 (okI rfl f15) dX13_redress_57 (fun H locs E30 pw31 hI hP hS => ?_)
            have hKp := hKp.pw pw31 rfl
            obtain ⟨g32, eg32⟩ : ∃ z : Nat → Int32, z = upd g3 y1.toNatClampNeg a1 := ⟨_, rfl⟩
            have hg32 : xi (E30 30) = g32 := by rw [pw31.eu, ((pw27.ef 30 (Nat.ne_of_beq_eq_false rfl)).trans ((pw6.ef 30 (Nat.ne_of_beq_eq_false rfl)).trans hg3)), eg32]
            refine lv_aload_n hx hb dX13_redress_58 rfl (lv_at hl 0 rfl) ?_
            refine th_get (ci := 14) (C := RX13) (T := TX13) (N := 97) (v := .ref (ad 31)) hx hb hts hinX13 hown hK hP hI 0 (Nat.le_of_ble_eq_true rfl) rfl rfl 45 (Nat.le_of_ble_eq_true rfl) (hts _ (vA_in _ _ (in_32 _ (zs1 (zs1 (zs1 (zs0))))))) (fun _ h9 => h9) (hI.fr 0 (Nat.le_of_ble_eq_true rfl) rfl (Nat.le_of_ble_eq_true rfl) 31 rfl) dX13_redress_59 ?_
            refine lv_aload_n hx hb dX13_redress_62 rfl (lv_at hl 0 rfl) ?_
            refine th_get (ci := 14) (C := RX13) (T := TX13) (N := 97) (v := .int y1) hx hb hts hinX13 hown hK hP hI 0 (Nat.le_of_ble_eq_true rfl) rfl rfl 48 (Nat.le_of_ble_eq_true rfl) (hts _ (vA_in _ _ (in_30 _ (zs16 (zs4 (zs1 (zs0))))))) (fun _ h9 => h9) ((pw31.2 0 48 (fun q9 => absurd q9.1 (Nat.ne_of_beq_eq_false rfl))).trans ((pw27.2 0 48 (fun q9 => absurd q9.1 (Nat.ne_of_beq_eq_false rfl))).trans ((pw6.2 0 48 (fun q9 => absurd q9.2 (Nat.ne_of_beq_eq_false rfl))).trans fy1))) dX13_redress_63 ?_
            refine lv_aload_n hx hb dX13_redress_66 rfl (lv_at hl 0 rfl) ?_
            refine th_get (ci := 14) (C := RX13) (T := TX13) (N := 97) (v := .int (xi (E 0) 1)) hx hb hts hinX13 hown hK hP hI 0 (Nat.le_of_ble_eq_true rfl) rfl rfl 1 (Nat.le_of_ble_eq_true rfl) (hts _ (vA_in _ _ (in_24 _ (zs16 (zs4 (zs4 (zs1 (zs1 (zs1 (zs0)))))))))) (fun _ h9 => h9) (th_v0 hKp hI0 0 (Nat.le_of_ble_eq_true rfl) rfl (Nat.le_of_ble_eq_true rfl) rfl rfl) dX13_redress_67 ?_
            have n33 : vp_in y1 20 := (iv_in (n := 20) i11 (by decide))
            refine th_iast hx hb hK hP (WX_D hD) hS hI 31 (Nat.le_of_ble_eq_true rfl) rfl rfl n33 (okI rfl i18) dX13_redress_70 (fun H locs E34 pw35 hI hP hS => ?_)
            have hKp := hKp.pw pw35 rfl
            obtain ⟨g36, eg36⟩ : ∃ z : Nat → Int32, z = upd g4 y1.toNatClampNeg (xi (E 0) 1) := ⟨_, rfl⟩
            have hg36 : xi (E34 31) = g36 := by rw [pw35.eu, ((pw31.ef 31 (Nat.ne_of_beq_eq_false rfl)).trans ((pw27.ef 31 (Nat.ne_of_beq_eq_false rfl)).trans ((pw6.ef 31 (Nat.ne_of_beq_eq_false rfl)).trans hg4))), eg36]
            refine lv_aload_n hx hb dX13_redress_71 rfl (lv_at hl 0 rfl) ?_
            refine lv_dup hx hb dX13_redress_72 rfl ?_
            refine th_get (ci := 14) (C := RX13) (T := TX13) (N := 97) (v := .int y1) hx hb hts hinX13 hown hK hP hI 0 (Nat.le_of_ble_eq_true rfl) rfl rfl 48 (Nat.le_of_ble_eq_true rfl) (hts _ (vA_in _ _ (in_30 _ (zs16 (zs4 (zs1 (zs0))))))) (fun _ h9 => h9) ((pw35.2 0 48 (fun q9 => absurd q9.1 (Nat.ne_of_beq_eq_false rfl))).trans ((pw31.2 0 48 (fun q9 => absurd q9.1 (Nat.ne_of_beq_eq_false rfl))).trans ((pw27.2 0 48 (fun q9 => absurd q9.1 (Nat.ne_of_beq_eq_false rfl))).trans ((pw6.2 0 48 (fun q9 => absurd q9.2 (Nat.ne_of_beq_eq_false rfl))).trans fy1)))) dX13_redress_73 ?_
            refine lv_iconst (v := 1) hx hb dX13_redress_76 (by decide) ?_
            refine lv_iadd hx hb dX13_redress_77 ?_
            refine lv_topi (fun y37 ey37 => ?_)
            obtain ⟨ty37, iy37⟩ := ti_add (e := 1) (f := 20) i11 ln_1 ey37 (by decide)
            have ty37 : y37.toInt = y1.toInt + 1 := ty37
            have iy37 : 1 ≤ y37.toInt ∧ y37.toInt ≤ 20 := iy37
            refine th_put (ci := 14) (C := RX13) (T := TX13) (N := 97) (v := .int y37) (ty := .int) hx hb hts hinX13 tyX13 tyX13_ok nmX13 hown hK hP (WX_D hD) hS hI 0 (Nat.le_of_ble_eq_true rfl) rfl rfl 48 (Nat.le_of_ble_eq_true rfl) (hts _ (vA_in _ _ (in_30 _ (zs16 (zs4 (zs1 (zs0))))))) (fun _ h9 => h9) rfl (by decide +kernel) rfl rfl (okI rfl (iv_w iy37 (by decide))) dX13_redress_78 (fun H locs E38 pw39 hI hP hS => ?_)
            have hKp := hKp.pw pw39 rfl
            refine lv_iconst (v := 1) hx hb dX13_redress_81 (by decide) ?_
            rw [hQ]
            exact W.zret (v := 1) hx hb hr rfl (fun t ht hW => ⟨⟨1, E38, rfl, ⟨hI, hKp, Or.inl ⟨rfl, by (try rw [ey1]); omega, by first | exact f23 | (rw [← hq29, ← hq30, ← hq31, ey1]; exact f23) | (rw [← hq29, ← hq30, ← hq31, ← hs48]; exact f23), by have h8 := ln_1; (try rw [(show xi (E38 0) 48 = y37 from vi_e pw39.1)]); (try rw [ey1]); all_goals omega, ⟨(show xi (E38 29) = g28 from ((pw39.ef 29 (Nat.ne_of_beq_eq_false rfl)).trans ((pw35.ef 29 (Nat.ne_of_beq_eq_false rfl)).trans ((pw31.ef 29 (Nat.ne_of_beq_eq_false rfl)).trans hg28)))).trans (by rw [eg28, show xi (E 29) = g2 from hg2, ey1]), (show xi (E38 30) = g32 from ((pw39.ef 30 (Nat.ne_of_beq_eq_false rfl)).trans ((pw35.ef 30 (Nat.ne_of_beq_eq_false rfl)).trans hg32))).trans (by rw [eg32, show xi (E 30) = g3 from hg3, ey1]), (show xi (E38 31) = g36 from ((pw39.ef 31 (Nat.ne_of_beq_eq_false rfl)).trans hg36)).trans (by rw [eg36, show xi (E 31) = g4 from hg4, ey1])⟩⟩⟩, by show va_P (dC, dI) vwCl (WX 72 ad E38) t.heap; rw [ht]; exact hP⟩, hS.F ht⟩) hS.2.2 dX13_redress_82
          · --33 not
            exact absurd c24 (by decide)
    · -- isEntry, case 1
      obtain ⟨rfl, f40⟩ := hw
      have i41 : 0 ≤ (xi (E 0) 46).toInt ∧ (xi (E 0) 46).toInt ≤ 20 := (show 0 ≤ (xi (E 0) 46).toInt ∧ (xi (E 0) 46).toInt ≤ 20 from hI0.iv 0 (Nat.le_of_ble_eq_true rfl) rfl (Nat.le_of_ble_eq_true rfl) rfl)
      have i42 : 0 ≤ (xi (E 0) 8).toInt ∧ (xi (E 0) 8).toInt ≤ 16 := (show 0 ≤ (xi (E 0) 8).toInt ∧ (xi (E 0) 8).toInt ≤ 16 from hI0.iv 0 (Nat.le_of_ble_eq_true rfl) rfl (Nat.le_of_ble_eq_true rfl) rfl)
      have i43 : 0 ≤ (xi (E 0) 1).toInt ∧ (xi (E 0) 1).toInt ≤ 400 := (show 0 ≤ (xi (E 0) 1).toInt ∧ (xi (E 0) 1).toInt ≤ 400 from hI0.iv 0 (Nat.le_of_ble_eq_true rfl) rfl (Nat.le_of_ble_eq_true rfl) rfl)
      try rw [hKp.ei 0 46 rfl] at f40
      try rw [hKp.ei 0 8 rfl] at f40
      try rw [hKp.ei 0 1 rfl] at f40
      try rw [hKp.ef 21 (fun _ => rfl)] at f40
      refine lv_if_eq (tgt := 36) hx hb dX13_redress_20 (by decide) (fun c44 => ?_) (fun c44 => ?_)
      · --20 taken
        refine lv_iconst (v := 0) hx hb dX13_redress_36 (by decide) ?_
        rw [hQ]
        exact W.zret (v := 0) hx hb hr rfl (fun t ht hW => ⟨⟨0, E5, rfl, ⟨hI, hKp, Or.inr (⟨rfl, fun g9 => by obtain ⟨g7, g8, -⟩ := g9; (try rw [ey1] at g8); omega, by have h8 := ln_0; (try rw [(show xi (E5 0) 48 = y1 from vi_e ((pw6.2 0 48 (fun q9 => absurd q9.2 (Nat.ne_of_beq_eq_false rfl))).trans fy1))]); (try rw [ey1]); all_goals omega, ⟨(show xi (E5 29) = g2 from ((pw6.ef 29 (Nat.ne_of_beq_eq_false rfl)).trans hg2)).trans (show xi (E 29) = g2 from hg2).symm, (show xi (E5 30) = g3 from ((pw6.ef 30 (Nat.ne_of_beq_eq_false rfl)).trans hg3)).trans (show xi (E 30) = g3 from hg3).symm, (show xi (E5 31) = g4 from ((pw6.ef 31 (Nat.ne_of_beq_eq_false rfl)).trans hg4)).trans (show xi (E 31) = g4 from hg4).symm⟩⟩)⟩, by show va_P (dC, dI) vwCl (WX 72 ad E5) t.heap; rw [ht]; exact hP⟩, hS.F ht⟩) hS.2.2 dX13_redress_37
      · --20 not
        exact absurd c44 (by decide)
def v_u_redressR : List Cond := .code yX12_redress cX12_redress 4 (some .boolean) :: vA
abbrev rm_u_redressR : Room := { frames := 4, cells := 0, slots := 0, locals := 160 }
set_option maxHeartbeats 4000000 in
set_option maxRecDepth 100000 in
theorem q_u_redressR (l : Launch) (dC : Nat → ClassId) (dI : Nat → Nat → Nat) (cT : Nat → ClassId) (cf : Nat → Nat) (hC : CF cf) (ad : Nat → Nat) (E : Nat → va_E) (sz : Nat) (a0 : Int32) (a1 : Int32) (hI0 : IXL cT (shC cf) (spC cf) (LC cf) ad E)  : Met l yX12_redress v_u_redressR rm_u_redressR (va_Pc [.ref (ad 0), .int a0, .int a1] (HWL dC dI (TYC cT) cf ad E sz)) (va_Qi (S := Nat → va_E) (fun r u => IXL cT (shC cf) (spC cf) (LC cf) ad u ∧ Kp (wl [64 * (a0.toNatClampNeg + 1) + 8] [(1, 2)]) E u ∧ ((r = 1 ∧ ((0 ≤ a0.toInt ∧ a0.toInt < ((cf 2 : Nat) : Int)) ∧ (0 ≤ a1.toInt ∧ a1.toInt < (xi (E 1) 1).toInt) ∧ (¬ (xi (E (64 * (a0.toNatClampNeg + 1) + 7)) a1.toNatClampNeg).toInt = -1 ∧ (xi (E (64 * (a0.toNatClampNeg + 1) + 7)) a1.toNatClampNeg).toInt ≤ (xi (E 1) 0).toInt) ∧ (xi (E 1) 2).toInt < 20 ∧ (xi (E (64 * (a0.toNatClampNeg + 1) + 8)) a1.toNatClampNeg).toInt = -1) ∧ (xi (u (64 * (a0.toNatClampNeg + 1) + 8)) = upd (xi (E (64 * (a0.toNatClampNeg + 1) + 8))) a1.toNatClampNeg (xi (E 1) 0)) ∧ ((xi (u 1) 2).toInt = (xi (E 1) 2).toInt + 1)) ∨ (r = 0 ∧ (¬ ((0 ≤ a0.toInt ∧ a0.toInt < ((cf 2 : Nat) : Int)) ∧ (0 ≤ a1.toInt ∧ a1.toInt < (xi (E 1) 1).toInt) ∧ (¬ (xi (E (64 * (a0.toNatClampNeg + 1) + 7)) a1.toNatClampNeg).toInt = -1 ∧ (xi (E (64 * (a0.toNatClampNeg + 1) + 7)) a1.toNatClampNeg).toInt ≤ (xi (E 1) 0).toInt) ∧ (xi (E 1) 2).toInt < 20 ∧ (xi (E (64 * (a0.toNatClampNeg + 1) + 8)) a1.toNatClampNeg).toInt = -1)) ∧ (xi (u (64 * (a0.toNatClampNeg + 1) + 8)) = xi (E (64 * (a0.toNatClampNeg + 1) + 8))) ∧ ((xi (u 1) 2).toInt = (xi (E 1) 2).toInt)))) (HBL dC dI (LC cf) ad) (va_A (WL (LC cf) ad E) sz)) 0 0 (va_A (WL (LC cf) ad E) sz) := by
  obtain ⟨⟨hc0, hc1, hc2, hc3, hc4, hc5⟩, hcr⟩ := id hC
  refine Met.ofW (cc := cX12_redress) (maxL := 4) (ret := (some .boolean)) (by decide) rfl ?_
  intro p e s m args below meth c s₁ B hml hv
  obtain ⟨hargs, hsz, hP, hK, hD0, hEV⟩ := hv
  subst hsz
  have hx := B.exec
  have hb := B.bytes
  have hr := B.returns
  have hts := atoms_spec (ws := v_u_redressR) B.pre
  have hown : s.vm.findClass RX12 = some m.cls := findClass_of_methodNamed B.named
  have hlocks := B.notSynchronized
  have hinX0 : ∀ w ∈ u_ws RX0 TX0 11, w ∈ v_u_redressR := fun w h => vA_in _ w (in_X0 w h)
  have hinX12 : ∀ w ∈ u_ws RX12 TX12 6, w ∈ v_u_redressR := fun w h => vA_in _ w (in_X12 w h)
  have hinX5 : ∀ w ∈ u_ws RX5 TX5 12, w ∈ v_u_redressR := fun w h => vA_in _ w (in_X5 w h)
  generalize hAe : va_A (WL (LC cf) ad E) s.heap.size = A at hEV ⊢
  have hA : ∀ q : Nat, s.heap.size ≤ q → A q := fun q h => by rw [← hAe]; exact Or.inr h
  have hD : va_D A (WL (LC cf) ad E) := by rw [← hAe]; exact hD0.self
  have hS : va_S A s.heap s.heap [] := va_S.rf
  have hI := hI0
  have hKp : Kp (wl [64 * (a0.toNatClampNeg + 1) + 8] [(1, 2)]) E E := Kp.rf
  have hl := lv_entry ([.ref (ad 0), .int a0, .int a1]) (n := 4) (Nat.le_of_ble_eq_true rfl)
  obtain ⟨Q, hQ⟩ : ∃ Q, Q = MQ below (va_Qi (S := Nat → va_E) (fun r u => IXL cT (shC cf) (spC cf) (LC cf) ad u ∧ Kp (wl [64 * (a0.toNatClampNeg + 1) + 8] [(1, 2)]) E u ∧ ((r = 1 ∧ ((0 ≤ a0.toInt ∧ a0.toInt < ((cf 2 : Nat) : Int)) ∧ (0 ≤ a1.toInt ∧ a1.toInt < (xi (E 1) 1).toInt) ∧ (¬ (xi (E (64 * (a0.toNatClampNeg + 1) + 7)) a1.toNatClampNeg).toInt = -1 ∧ (xi (E (64 * (a0.toNatClampNeg + 1) + 7)) a1.toNatClampNeg).toInt ≤ (xi (E 1) 0).toInt) ∧ (xi (E 1) 2).toInt < 20 ∧ (xi (E (64 * (a0.toNatClampNeg + 1) + 8)) a1.toNatClampNeg).toInt = -1) ∧ (xi (u (64 * (a0.toNatClampNeg + 1) + 8)) = upd (xi (E (64 * (a0.toNatClampNeg + 1) + 8))) a1.toNatClampNeg (xi (E 1) 0)) ∧ ((xi (u 1) 2).toInt = (xi (E 1) 2).toInt + 1)) ∨ (r = 0 ∧ (¬ ((0 ≤ a0.toInt ∧ a0.toInt < ((cf 2 : Nat) : Int)) ∧ (0 ≤ a1.toInt ∧ a1.toInt < (xi (E 1) 1).toInt) ∧ (¬ (xi (E (64 * (a0.toNatClampNeg + 1) + 7)) a1.toNatClampNeg).toInt = -1 ∧ (xi (E (64 * (a0.toNatClampNeg + 1) + 7)) a1.toNatClampNeg).toInt ≤ (xi (E 1) 0).toInt) ∧ (xi (E 1) 2).toInt < 20 ∧ (xi (E (64 * (a0.toNatClampNeg + 1) + 8)) a1.toNatClampNeg).toInt = -1)) ∧ (xi (u (64 * (a0.toNatClampNeg + 1) + 8)) = xi (E (64 * (a0.toNatClampNeg + 1) + 8))) ∧ ((xi (u 1) 2).toInt = (xi (E 1) 2).toInt)))) (HBL dC dI (LC cf) ad) (A)) args s 0 0 (A) := ⟨_, rfl⟩
  rw [← hQ, show entryFrame m args 4 = _ from (congrArg (fun z => entryFrame m z 4) hargs).trans (lg_entry_eq _ _ _)]
  generalize (lg_sl ([.ref (ad 0), .int a0, .int a1]) ++ List.replicate (4 - (lg_sl ([.ref (ad 0), .int a0, .int a1])).length) Slot.unset).toArray = ls at hl ⊢
  have hl : lv_has ls 4 [(0, .ref (ad 0)), (1, .int a0), (2, .int a1)] := hl
  obtain ⟨y1, ey1⟩ : ∃ y, xi (E 1) 2 = y := ⟨_, rfl⟩
  have fy1 : xv (E 1) 2 = .int y1 := (hI.fi 1 (mF 1 rfl) rfl (Nat.le_of_ble_eq_true rfl) rfl).trans (congrArg Value.int ey1)
  have i2 : 0 ≤ y1.toInt ∧ y1.toInt ≤ 20 := by rw [← ey1]; exact hI.iv 1 (mF 1 rfl) rfl (Nat.le_of_ble_eq_true rfl) rfl
  refine lv_aload_n hx hb dX12_redress_0 rfl (lv_at hl 0 rfl) ?_
  refine th_getL (ci := 13) (C := RX12) (T := TX12) (N := 6) (v := .ref (ad 1)) hx hb hts hinX12 hown hK hP hI 0 (mF 0 rfl) rfl rfl 0 (Nat.le_of_ble_eq_true rfl) (hts _ (vA_in _ _ (in_10 _ (zs16 (zs1 (zs0)))))) (fun _ h9 => h9) (hI.fr 0 (mF 0 rfl) rfl (Nat.le_of_ble_eq_true rfl) 1 rfl) dX12_redress_1 ?_
  refine lv_iload_n hx hb dX12_redress_4 rfl (lv_at hl 1 rfl) ?_
  refine lv_iload_n hx hb dX12_redress_5 rfl (lv_at hl 2 rfl) ?_
  refine th_riL (va_runV (As := [.int a0, .int a1]) (rest := []) ⟨hx, hb, hml, hown, hts⟩ (q_isEnteredC l dC dI cT cf hC ad E s.heap.size a0 a1 hI) (cwV 2 hts (gi_V (in_18 _ (zs1 (zs0))) (in_18 _ (zs1 (zs1 (zs0)))) (in_18 _ (zs1 (zs1 (zs1 (zs0))))) (in_5 _ (zs4 (zs1 (zs1 (zs0))))) (in_6 _ (zs4 (zs4 (zs1 (zs1 (zs0))))))) rfl rfl rfl ⟨rfl, hz_yX0_isEntered_2⟩ ⟨Nat.le_of_ble_eq_true rfl, Nat.le_of_ble_eq_true rfl⟩) ⟨HWL_bl, va_recv hK hP (ci := 1) (q0 := posL 1 (LC cf)) rfl (hI.ob 1 (mF 1 rfl) rfl), (HWL_wi hP hK (WL_D hD) hS hA hEV)⟩ rfl rfl hl.1 rfl (lv_room (Nat.le_of_ble_eq_true rfl)) dX12_redress_6 ⟨Nat.le_of_ble_eq_true rfl, Nat.le_of_ble_eq_true rfl⟩) hS hP (fun r3 H locs hw hP hS => ?_)
  rcases hw with hw | hw
  · -- isEnteredC, case 0
    obtain ⟨rfl, f4, f5, f6⟩ := hw
    have i7 : 0 ≤ (xi (E 1) 1).toInt ∧ (xi (E 1) 1).toInt ≤ 16 := hI0.iv 1 (mF 1 rfl) rfl (Nat.le_of_ble_eq_true rfl) rfl
    have i8 : 0 ≤ (xi (E 1) 0).toInt ∧ (xi (E 1) 0).toInt ≤ 400 := hI0.iv 1 (mF 1 rfl) rfl (Nat.le_of_ble_eq_true rfl) rfl
    refine lv_if_eq (tgt := 24) hx hb dX12_redress_9 (by decide) (fun c9 => ?_) (fun c9 => ?_)
    · --9 taken
      exact absurd c9 (by decide)
    · --9 not
      refine lv_aload_n hx hb dX12_redress_12 rfl (lv_at hl 0 rfl) ?_
      refine th_getL (ci := 13) (C := RX12) (T := TX12) (N := 6) (v := .ref (ad 1)) hx hb hts hinX12 hown hK hP hI 0 (mF 0 rfl) rfl rfl 0 (Nat.le_of_ble_eq_true rfl) (hts _ (vA_in _ _ (in_10 _ (zs16 (zs1 (zs0)))))) (fun _ h9 => h9) (hI.fr 0 (mF 0 rfl) rfl (Nat.le_of_ble_eq_true rfl) 1 rfl) dX12_redress_13 ?_
      refine th_getL (ci := 1) (C := RX0) (T := TX0) (N := 11) (v := .int y1) hx hb hts hinX0 hown hK hP hI 1 (mF 1 rfl) rfl rfl 2 (Nat.le_of_ble_eq_true rfl) (hts _ (vA_in _ _ (in_14 _ (zs4 (zs4 (zs4 (zs1 (zs0)))))))) (fun _ h9 => h9) fy1 dX12_redress_16 ?_
      refine lv_bipush (v := 20) hx hb dX12_redress_19 (by decide) ?_
      refine lv_icmp_lt (tgt := 26) hx hb dX12_redress_21 (by decide) (fun c10 => ?_) (fun c10 => ?_)
      · --21 taken
        have t11 : y1.toInt < 20 := ti_lt c10
        have i12 : 0 ≤ y1.toInt ∧ y1.toInt ≤ 19 := iv_lt_l t11 i2 (il_ 20) (by decide)
        refine lv_aload_n hx hb dX12_redress_26 rfl (lv_at hl 0 rfl) ?_
        refine th_getL (ci := 13) (C := RX12) (T := TX12) (N := 6) (v := .ref (ad 1)) hx hb hts hinX12 hown hK hP hI 0 (mF 0 rfl) rfl rfl 0 (Nat.le_of_ble_eq_true rfl) (hts _ (vA_in _ _ (in_10 _ (zs16 (zs1 (zs0)))))) (fun _ h9 => h9) (hI.fr 0 (mF 0 rfl) rfl (Nat.le_of_ble_eq_true rfl) 1 rfl) dX12_redress_27 ?_
        refine th_getL (ci := 1) (C := RX0) (T := TX0) (N := 11) (v := .ref (ad 9)) hx hb hts hinX0 hown hK hP hI 1 (mF 1 rfl) rfl rfl 5 (Nat.le_of_ble_eq_true rfl) (hts _ (vA_in _ _ (in_14 _ (zs4 (zs1 (zs1 (zs1 (zs0)))))))) (fun _ h9 => h9) (hI.fr 1 (mF 1 rfl) rfl (Nat.le_of_ble_eq_true rfl) 9 rfl) dX12_redress_30 ?_
        refine lv_iload_n hx hb dX12_redress_33 rfl (lv_at hl 1 rfl) ?_
        refine th_rrL (va_runV (As := [.int a0]) (rest := []) ⟨hx, hb, hml, hown, hts⟩ (q_get2 l dC dI cT cf hC ad E H.size a0 hI (by omega)) (cwV 1 hts (gi_V (in_14 _ (zs16 (zs4 (zs4 (zs0))))) (in_4 _ (zs16 (zs16 (zs4 (zs1 (zs1 (zs0))))))) (in_4 _ (zs16 (zs16 (zs4 (zs1 (zs1 (zs1 (zs0)))))))) (in_3 _ (zs16 (zs1 (zs1 (zs0))))) (in_3 _ (zs16 (zs16 (zs4 (zs1 (zs1 (zs1 (zs0))))))))) rfl rfl rfl ⟨rfl, hz_yJx4a65c_get_915e3_1⟩ ⟨Nat.le_of_ble_eq_true rfl, Nat.le_of_ble_eq_true rfl⟩) ⟨HWL_bl, va_recv hK hP (ci := 0) (q0 := posL 9 (LC cf)) rfl (hI.ob 9 (mF 9 rfl) rfl), (HWL_wi hP hK (WL_D hD) hS hA hEV)⟩ rfl rfl hl.1 rfl (lv_room (Nat.le_of_ble_eq_true rfl)) dX12_redress_34 ⟨Nat.le_of_ble_eq_true rfl, Nat.le_of_ble_eq_true rfl⟩) hS hP (fun r13 H locs hw hP hS => ?_)
        obtain rfl := hw
        have lv14 : a0.toNatClampNeg < cf 2 := by rw [tn_]; omega
        refine va_castS (cC := dC 6) hx hb hown (hts _ (vA_in _ _ (in_17 _ (zs16 (zs16 (zs4 (zs1 (zs1 (zs0))))))))) (hK.1 6 _ rfl).2 (va_recv hK hP (ci := 6) (q0 := posL (64 * (a0.toNatClampNeg + 1) + 6) (LC cf)) rfl (hI.ob (64 * (a0.toNatClampNeg + 1) + 6) (mP 6 a0.toNatClampNeg (by decide) lv14 (kl_le hC 2 (by decide))) (shC_p 6 a0.toNatClampNeg (by decide)))) dX12_redress_37 ?_
        refine lv_astore_n (lv' := [(3, .ref (ad (64 * (a0.toNatClampNeg + 1) + 6))), (0, .ref (ad 0)), (1, .int a0), (2, .int a1)]) hx hb dX12_redress_40 rfl hl (by decide) rfl (fun ls hl => ?_)
        refine lv_aload_n hx hb dX12_redress_41 rfl (lv_at hl 0 rfl) ?_
        refine th_getL (ci := 6) (C := RX5) (T := TX5) (N := 12) (v := .ref (ad (64 * (a0.toNatClampNeg + 1) + 8))) hx hb hts hinX5 hown hK hP hI (64 * (a0.toNatClampNeg + 1) + 6) (mP 6 a0.toNatClampNeg (by decide) lv14 (kl_le hC 2 (by decide))) (shC_p 6 a0.toNatClampNeg (by decide)) rfl 8 (Nat.le_of_ble_eq_true rfl) (hts _ (vA_in _ _ (in_22 _ (zs16 (zs1 (zs1 (zs0))))))) (fun _ h9 => h9) (hI.fr (64 * (a0.toNatClampNeg + 1) + 6) (mP 6 a0.toNatClampNeg (by decide) lv14 (kl_le hC 2 (by decide))) (shC_p 6 a0.toNatClampNeg (by decide)) (Nat.le_of_ble_eq_true rfl) (64 * (a0.toNatClampNeg + 1) + 8) (spC_p 6 a0.toNatClampNeg (by decide) 8)) dX12_redress_42 ?_
        refine lv_iload_n hx hb dX12_redress_45 rfl (lv_at hl 3 rfl) ?_
        have n16 : vp_in a1 16 := (iv_in (n := 16) f6 (by decide))
        refine th_ialdL hx hb hK hP hI (64 * (a0.toNatClampNeg + 1) + 8) (mP 8 a0.toNatClampNeg (by decide) lv14 (kl_le hC 2 (by decide))) (shC_p 8 a0.toNatClampNeg (by decide)) rfl n16 dX12_redress_46 (fun y15 ey15 => ?_)
        have iy15 : -1 ≤ y15.toInt ∧ y15.toInt ≤ 400 := hI.el (64 * (a0.toNatClampNeg + 1) + 8) (mP 8 a0.toNatClampNeg (by decide) lv14 (kl_le hC 2 (by decide))) (shC_p 8 a0.toNatClampNeg (by decide)) n16 (fun j9 => spC_p 8 a0.toNatClampNeg (by decide) j9) ey15
        refine lv_iconst (v := -1) hx hb dX12_redress_47 (by decide) ?_
        refine lv_icmp_eq (tgt := 53) hx hb dX12_redress_48 (by decide) (fun c17 => ?_) (fun c17 => ?_)
        · --48 taken
          have t18 : y15.toInt = -1 := ti_eq c17
          have i19 : -1 ≤ y15.toInt ∧ y15.toInt ≤ -1 := iv_eqi t18 iy15 (il_ (-1)) (by decide)
          refine lv_aload_n hx hb dX12_redress_53 rfl (lv_at hl 0 rfl) ?_
          refine th_getL (ci := 6) (C := RX5) (T := TX5) (N := 12) (v := .ref (ad (64 * (a0.toNatClampNeg + 1) + 8))) hx hb hts hinX5 hown hK hP hI (64 * (a0.toNatClampNeg + 1) + 6) (mP 6 a0.toNatClampNeg (by decide) lv14 (kl_le hC 2 (by decide))) (shC_p 6 a0.toNatClampNeg (by decide)) rfl 8 (Nat.le_of_ble_eq_true rfl) (hts _ (vA_in _ _ (in_22 _ (zs16 (zs1 (zs1 (zs0))))))) (fun _ h9 => h9) (hI.fr (64 * (a0.toNatClampNeg + 1) + 6) (mP 6 a0.toNatClampNeg (by decide) lv14 (kl_le hC 2 (by decide))) (shC_p 6 a0.toNatClampNeg (by decide)) (Nat.le_of_ble_eq_true rfl) (64 * (a0.toNatClampNeg + 1) + 8) (spC_p 6 a0.toNatClampNeg (by decide) 8)) dX12_redress_54 ?_
          refine lv_iload_n hx hb dX12_redress_57 rfl (lv_at hl 3 rfl) ?_
          refine lv_aload_n hx hb dX12_redress_58 rfl (lv_at hl 1 rfl) ?_
          refine th_getL (ci := 13) (C := RX12) (T := TX12) (N := 6) (v := .ref (ad 1)) hx hb hts hinX12 hown hK hP hI 0 (mF 0 rfl) rfl rfl 0 (Nat.le_of_ble_eq_true rfl) (hts _ (vA_in _ _ (in_10 _ (zs16 (zs1 (zs0)))))) (fun _ h9 => h9) (hI.fr 0 (mF 0 rfl) rfl (Nat.le_of_ble_eq_true rfl) 1 rfl) dX12_redress_59 ?_
          refine th_getL (ci := 1) (C := RX0) (T := TX0) (N := 11) (v := .int (xi (E 1) 0)) hx hb hts hinX0 hown hK hP hI 1 (mF 1 rfl) rfl rfl 0 (Nat.le_of_ble_eq_true rfl) (hts _ (vA_in _ _ (in_10 _ (zs16 (zs4 (zs4 (zs1 (zs1 (zs0))))))))) (fun _ h9 => h9) (th_v0L hKp hI0 1 (mF 1 rfl) rfl (Nat.le_of_ble_eq_true rfl) rfl rfl) dX12_redress_62 ?_
          have n20 : vp_in a1 16 := (iv_in (n := 16) f6 (by decide))
          refine th_iastL hx hb hK hP (WL_D hD) hS hI (64 * (a0.toNatClampNeg + 1) + 8) (mP 8 a0.toNatClampNeg (by decide) lv14 (kl_le hC 2 (by decide))) (shC_p 8 a0.toNatClampNeg (by decide)) rfl n20 (okI (spC_p 8 a0.toNatClampNeg (by decide) _) (iv_w i8 (by decide))) dX12_redress_65 (fun H locs E21 pw22 hI hP hS => ?_)
          have hKp := hKp.pw pw22 (by simp [wl])
          refine lv_aload_n hx hb dX12_redress_66 rfl (lv_at hl 1 rfl) ?_
          refine th_getL (ci := 13) (C := RX12) (T := TX12) (N := 6) (v := .ref (ad 1)) hx hb hts hinX12 hown hK hP hI 0 (mF 0 rfl) rfl rfl 0 (Nat.le_of_ble_eq_true rfl) (hts _ (vA_in _ _ (in_10 _ (zs16 (zs1 (zs0)))))) (fun _ h9 => h9) (hI.fr 0 (mF 0 rfl) rfl (Nat.le_of_ble_eq_true rfl) 1 rfl) dX12_redress_67 ?_
          refine lv_dup hx hb dX12_redress_70 rfl ?_
          refine th_getL (ci := 1) (C := RX0) (T := TX0) (N := 11) (v := .int y1) hx hb hts hinX0 hown hK hP hI 1 (mF 1 rfl) rfl rfl 2 (Nat.le_of_ble_eq_true rfl) (hts _ (vA_in _ _ (in_14 _ (zs4 (zs4 (zs4 (zs1 (zs0)))))))) (fun _ h9 => h9) ((pw22.2 1 2 (fun q9 => absurd q9.1 (by omega))).trans fy1) dX12_redress_71 ?_
          refine lv_iconst (v := 1) hx hb dX12_redress_74 (by decide) ?_
          refine lv_iadd hx hb dX12_redress_75 ?_
          refine lv_topi (fun y23 ey23 => ?_)
          obtain ⟨ty23, iy23⟩ := ti_add (e := 1) (f := 20) i12 ln_1 ey23 (by decide)
          have ty23 : y23.toInt = y1.toInt + 1 := ty23
          have iy23 : 1 ≤ y23.toInt ∧ y23.toInt ≤ 20 := iy23
          refine th_putL (ci := 1) (C := RX0) (T := TX0) (N := 11) (v := .int y23) (ty := .int) hx hb hts hinX0 tyX0 tyX0_ok nmX0 hown hK hP (WL_D hD) hS hI 1 (mF 1 rfl) rfl rfl 2 (Nat.le_of_ble_eq_true rfl) (hts _ (vA_in _ _ (in_14 _ (zs4 (zs4 (zs4 (zs1 (zs0)))))))) (fun _ h9 => h9) rfl (by decide +kernel) rfl rfl (okI rfl (iv_w iy23 (by decide))) dX12_redress_76 (fun H locs E24 pw25 hI hP hS => ?_)
          have hKp := hKp.pw pw25 rfl
          refine lv_iconst (v := 1) hx hb dX12_redress_79 (by decide) ?_
          rw [hQ]
          exact W.zret (v := 1) hx hb hr rfl (fun t ht hW => ⟨⟨1, E24, rfl, ⟨hI, hKp, Or.inl ⟨rfl, by have gy15 := congrArg Int32.toInt ey15; have h8 := ln_m1; (try rw [ey1]); omega, (pw25.ef (64 * (a0.toNatClampNeg + 1) + 8) (by omega)).trans pw22.eu, by have h8 := ln_1; (try rw [(show xi (E24 1) 2 = y23 from vi_e pw25.1)]); (try rw [ey1]); all_goals omega⟩⟩, by show va_P (dC, dI) vwCl (WL (LC cf) ad E24) t.heap; rw [ht]; exact hP⟩, hS.F ht⟩) hS.2.2 dX12_redress_80
        · --48 not
          have t26 : ¬ y15.toInt = -1 := ti_ne c17
          have i27 : 0 ≤ y15.toInt ∧ y15.toInt ≤ 400 := iv_ne_l t26 iy15 (il_ (-1))
          refine lv_iconst (v := 0) hx hb dX12_redress_51 (by decide) ?_
          rw [hQ]
          exact W.zret (v := 0) hx hb hr rfl (fun t ht hW => ⟨⟨0, E, rfl, ⟨hI, hKp, Or.inr (⟨rfl, by have gy15 := congrArg Int32.toInt ey15; have h8 := ln_m1; (try rw [ey1]); omega, rfl, by have h8 := ln_0; (try rw [(show xi (E 1) 2 = y1 from vi_e fy1)]); (try rw [ey1]); all_goals omega⟩)⟩, by show va_P (dC, dI) vwCl (WL (LC cf) ad E) t.heap; rw [ht]; exact hP⟩, hS.F ht⟩) hS.2.2 dX12_redress_52
      · --21 not
        have t28 : (20 : Int) ≤ y1.toInt := ti_nlt c10
        have i29 : 20 ≤ y1.toInt ∧ y1.toInt ≤ 20 := iv_le_r t28 (il_ 20) i2 (by decide)
        refine lv_iconst (v := 0) hx hb dX12_redress_24 (by decide) ?_
        rw [hQ]
        exact W.zret (v := 0) hx hb hr rfl (fun t ht hW => ⟨⟨0, E, rfl, ⟨hI, hKp, Or.inr (⟨rfl, by have h8 := ln_m1; (try rw [ey1]); omega, rfl, by have h8 := ln_0; (try rw [(show xi (E 1) 2 = y1 from vi_e fy1)]); (try rw [ey1]); all_goals omega⟩)⟩, by show va_P (dC, dI) vwCl (WL (LC cf) ad E) t.heap; rw [ht]; exact hP⟩, hS.F ht⟩) hS.2.2 dX12_redress_25
  · -- isEnteredC, case 1
    obtain ⟨rfl, f30⟩ := hw
    have i31 : 0 ≤ (xi (E 1) 1).toInt ∧ (xi (E 1) 1).toInt ≤ 16 := hI0.iv 1 (mF 1 rfl) rfl (Nat.le_of_ble_eq_true rfl) rfl
    have i32 : 0 ≤ (xi (E 1) 0).toInt ∧ (xi (E 1) 0).toInt ≤ 400 := hI0.iv 1 (mF 1 rfl) rfl (Nat.le_of_ble_eq_true rfl) rfl
    refine lv_if_eq (tgt := 24) hx hb dX12_redress_9 (by decide) (fun c33 => ?_) (fun c33 => ?_)
    · --9 taken
      refine lv_iconst (v := 0) hx hb dX12_redress_24 (by decide) ?_
      rw [hQ]
      exact W.zret (v := 0) hx hb hr rfl (fun t ht hW => ⟨⟨0, E, rfl, ⟨hI, hKp, Or.inr (⟨rfl, by have h8 := ln_m1; (try rw [ey1]); omega, rfl, by have h8 := ln_0; (try rw [(show xi (E 1) 2 = y1 from vi_e fy1)]); (try rw [ey1]); all_goals omega⟩)⟩, by show va_P (dC, dI) vwCl (WL (LC cf) ad E) t.heap; rw [ht]; exact hP⟩, hS.F ht⟩) hS.2.2 dX12_redress_25
    · --9 not
      exact absurd c33 (by decide)
