set_option maxRecDepth 100000 in
theorem zh_dX10_put_0_0 : zc cX10_put 0 [16, 24, 61, 28, 155, 0, 53, 27, 28, 124, 17, 0, 255, 126, 62, 29] = true := by decide +kernel
set_option maxRecDepth 100000 in
theorem zh_dX10_put_16_16 : zc cX10_put 16 [153, 0, 35, 42, 180, 0, 27, 42, 180, 0, 9, 190, 162, 0, 23, 42] = true := by decide +kernel
set_option maxRecDepth 100000 in
theorem zh_dX10_put_32_32 : zc cX10_put 32 [180, 0, 9, 42, 180, 0, 27, 29, 79, 42, 89, 180, 0, 27, 4, 96] = true := by decide +kernel
set_option maxRecDepth 100000 in
theorem zh_dX10_put_48_48 : zc cX10_put 48 [181, 0, 27, 132, 2, 248, 167, 255, 205, 177] = true := by decide +kernel
set_option maxRecDepth 100000 in
theorem zh_dX12_feed_0_0 : zc cX12_feed 0 [27, 184, 0, 99, 28, 184, 0, 99, 96, 29, 184, 0, 99, 96, 21, 4] = true := by decide +kernel
set_option maxRecDepth 100000 in
theorem zh_dX12_feed_16_16 : zc cX12_feed 16 [184, 0, 99, 96, 21, 5, 184, 0, 99, 96, 54, 6, 42, 180, 0, 19] = true := by decide +kernel
set_option maxRecDepth 100000 in
theorem zh_dX12_feed_32_32 : zc cX12_feed 32 [180, 0, 103, 21, 6, 96, 17, 0, 200, 164, 0, 5, 2, 172, 42, 180] = true := by decide +kernel
set_option maxRecDepth 100000 in
theorem zh_dX12_feed_47_48 : zc cX12_feed 48 [0, 19, 27, 182, 0, 106, 42, 180, 0, 19, 28, 182, 0, 106, 42, 180] = true := by decide +kernel
set_option maxRecDepth 100000 in
theorem zh_dX12_feed_63_64 : zc cX12_feed 64 [0, 19, 29, 182, 0, 106, 42, 180, 0, 19, 21, 4, 182, 0, 106, 42] = true := by decide +kernel
set_option maxRecDepth 100000 in
theorem zh_dX12_feed_80_80 : zc cX12_feed 80 [180, 0, 19, 21, 5, 182, 0, 106, 42, 180, 0, 19, 180, 0, 103, 172] = true := by decide +kernel
set_option maxRecDepth 100000 in
theorem zh_dX12_end_0_0 : zc cX12_end 0 [27, 3, 42, 180, 0, 19, 180, 0, 103, 184, 0, 59, 154, 0, 5, 3] = true := by decide +kernel
set_option maxRecDepth 100000 in
theorem zh_dX12_end_16_16 : zc cX12_end 16 [172, 42, 180, 0, 19, 27, 181, 0, 103, 4, 172] = true := by decide +kernel
set_option maxRecDepth 100000 in
theorem zh_dX12_fault_0_0 : zc cX12_fault 0 [42, 180, 0, 19, 182, 0, 110, 172] = true := by decide +kernel
set_option maxRecDepth 100000 in
theorem zh_dX12_bytesIn_0_0 : zc cX12_bytesIn 0 [3, 60, 16, 24, 61, 28, 155, 0, 22, 26, 28, 124, 17, 0, 255, 126] = true := by decide +kernel
set_option maxRecDepth 100000 in
theorem zh_dX12_bytesIn_16_16 : zc cX12_bytesIn 16 [153, 0, 6, 132, 1, 1, 132, 2, 248, 167, 255, 236, 27, 172] = true := by decide +kernel
theorem dX10_put_0 : decode cX10_put 0 = .ok (.bipush 24, 2) := zo_16 (zi_at zh_dX10_put_0_0 0 rfl) (zi_at zh_dX10_put_0_0 1 rfl) rfl
theorem dX10_put_2 : decode cX10_put 2 = .ok (.istore_n 2, 1) := zo_61 (zi_at zh_dX10_put_0_0 2 rfl)
theorem dX10_put_3 : decode cX10_put 3 = .ok (.iload_n 2, 1) := zo_28 (zi_at zh_dX10_put_0_0 3 rfl)
theorem dX10_put_4 : decode cX10_put 4 = .ok (.ifCond .lt 53, 3) := zo_155 (zi_at zh_dX10_put_0_0 4 rfl) (zi_at zh_dX10_put_0_0 5 rfl) (zi_at zh_dX10_put_0_0 6 rfl) rfl
theorem dX10_put_7 : decode cX10_put 7 = .ok (.iload_n 1, 1) := zo_27 (zi_at zh_dX10_put_0_0 7 rfl)
theorem dX10_put_8 : decode cX10_put 8 = .ok (.iload_n 2, 1) := zo_28 (zi_at zh_dX10_put_0_0 8 rfl)
theorem dX10_put_9 : decode cX10_put 9 = .ok (.iushr, 1) := zo_124 (zi_at zh_dX10_put_0_0 9 rfl)
theorem dX10_put_10 : decode cX10_put 10 = .ok (.sipush 255, 3) := zo_17 (zi_at zh_dX10_put_0_0 10 rfl) (zi_at zh_dX10_put_0_0 11 rfl) (zi_at zh_dX10_put_0_0 12 rfl) rfl
theorem dX10_put_13 : decode cX10_put 13 = .ok (.iand, 1) := zo_126 (zi_at zh_dX10_put_0_0 13 rfl)
theorem dX10_put_14 : decode cX10_put 14 = .ok (.istore_n 3, 1) := zo_62 (zi_at zh_dX10_put_0_0 14 rfl)
theorem dX10_put_15 : decode cX10_put 15 = .ok (.iload_n 3, 1) := zo_29 (zi_at zh_dX10_put_0_0 15 rfl)
theorem dX10_put_16 : decode cX10_put 16 = .ok (.ifCond .eq 35, 3) := zo_153 (zi_at zh_dX10_put_16_16 0 rfl) (zi_at zh_dX10_put_16_16 1 rfl) (zi_at zh_dX10_put_16_16 2 rfl) rfl
theorem dX10_put_19 : decode cX10_put 19 = .ok (.aload_n 0, 1) := zo_42 (zi_at zh_dX10_put_16_16 3 rfl)
theorem dX10_put_20 : decode cX10_put 20 = .ok (.getfield 27, 3) := zo_180 (zi_at zh_dX10_put_16_16 4 rfl) (zi_at zh_dX10_put_16_16 5 rfl) (zi_at zh_dX10_put_16_16 6 rfl) rfl
theorem dX10_put_23 : decode cX10_put 23 = .ok (.aload_n 0, 1) := zo_42 (zi_at zh_dX10_put_16_16 7 rfl)
theorem dX10_put_24 : decode cX10_put 24 = .ok (.getfield 9, 3) := zo_180 (zi_at zh_dX10_put_16_16 8 rfl) (zi_at zh_dX10_put_16_16 9 rfl) (zi_at zh_dX10_put_16_16 10 rfl) rfl
theorem dX10_put_27 : decode cX10_put 27 = .ok (.arraylength, 1) := zo_190 (zi_at zh_dX10_put_16_16 11 rfl)
theorem dX10_put_28 : decode cX10_put 28 = .ok (.if_icmp .ge 23, 3) := zo_162 (zi_at zh_dX10_put_16_16 12 rfl) (zi_at zh_dX10_put_16_16 13 rfl) (zi_at zh_dX10_put_16_16 14 rfl) rfl
theorem dX10_put_31 : decode cX10_put 31 = .ok (.aload_n 0, 1) := zo_42 (zi_at zh_dX10_put_16_16 15 rfl)
theorem dX10_put_32 : decode cX10_put 32 = .ok (.getfield 9, 3) := zo_180 (zi_at zh_dX10_put_32_32 0 rfl) (zi_at zh_dX10_put_32_32 1 rfl) (zi_at zh_dX10_put_32_32 2 rfl) rfl
theorem dX10_put_35 : decode cX10_put 35 = .ok (.aload_n 0, 1) := zo_42 (zi_at zh_dX10_put_32_32 3 rfl)
theorem dX10_put_36 : decode cX10_put 36 = .ok (.getfield 27, 3) := zo_180 (zi_at zh_dX10_put_32_32 4 rfl) (zi_at zh_dX10_put_32_32 5 rfl) (zi_at zh_dX10_put_32_32 6 rfl) rfl
theorem dX10_put_39 : decode cX10_put 39 = .ok (.iload_n 3, 1) := zo_29 (zi_at zh_dX10_put_32_32 7 rfl)
theorem dX10_put_40 : decode cX10_put 40 = .ok (.iastore, 1) := zo_79 (zi_at zh_dX10_put_32_32 8 rfl)
theorem dX10_put_41 : decode cX10_put 41 = .ok (.aload_n 0, 1) := zo_42 (zi_at zh_dX10_put_32_32 9 rfl)
theorem dX10_put_42 : decode cX10_put 42 = .ok (.dup, 1) := zo_89 (zi_at zh_dX10_put_32_32 10 rfl)
theorem dX10_put_43 : decode cX10_put 43 = .ok (.getfield 27, 3) := zo_180 (zi_at zh_dX10_put_32_32 11 rfl) (zi_at zh_dX10_put_32_32 12 rfl) (zi_at zh_dX10_put_32_32 13 rfl) rfl
theorem dX10_put_46 : decode cX10_put 46 = .ok (.iconst 1, 1) := zo_4 (zi_at zh_dX10_put_32_32 14 rfl)
theorem dX10_put_47 : decode cX10_put 47 = .ok (.iadd, 1) := zo_96 (zi_at zh_dX10_put_32_32 15 rfl)
theorem dX10_put_48 : decode cX10_put 48 = .ok (.putfield 27, 3) := zo_181 (zi_at zh_dX10_put_48_48 0 rfl) (zi_at zh_dX10_put_48_48 1 rfl) (zi_at zh_dX10_put_48_48 2 rfl) rfl
theorem dX10_put_51 : decode cX10_put 51 = .ok (.iinc 2 (-8), 3) := zo_132 (zi_at zh_dX10_put_48_48 3 rfl) (zi_at zh_dX10_put_48_48 4 rfl) (zi_at zh_dX10_put_48_48 5 rfl) rfl
theorem dX10_put_54 : decode cX10_put 54 = .ok (.goto (-51), 3) := zo_167 (zi_at zh_dX10_put_48_48 6 rfl) (zi_at zh_dX10_put_48_48 7 rfl) (zi_at zh_dX10_put_48_48 8 rfl) rfl
theorem dX10_put_57 : decode cX10_put 57 = .ok (.return_, 1) := zo_177 (zi_at zh_dX10_put_48_48 9 rfl)
theorem dX12_feed_0 : decode cX12_feed 0 = .ok (.iload_n 1, 1) := zo_27 (zi_at zh_dX12_feed_0_0 0 rfl)
theorem dX12_feed_1 : decode cX12_feed 1 = .ok (.invokestatic 99, 3) := zo_184 (zi_at zh_dX12_feed_0_0 1 rfl) (zi_at zh_dX12_feed_0_0 2 rfl) (zi_at zh_dX12_feed_0_0 3 rfl) rfl
theorem dX12_feed_4 : decode cX12_feed 4 = .ok (.iload_n 2, 1) := zo_28 (zi_at zh_dX12_feed_0_0 4 rfl)
theorem dX12_feed_5 : decode cX12_feed 5 = .ok (.invokestatic 99, 3) := zo_184 (zi_at zh_dX12_feed_0_0 5 rfl) (zi_at zh_dX12_feed_0_0 6 rfl) (zi_at zh_dX12_feed_0_0 7 rfl) rfl
theorem dX12_feed_8 : decode cX12_feed 8 = .ok (.iadd, 1) := zo_96 (zi_at zh_dX12_feed_0_0 8 rfl)
theorem dX12_feed_9 : decode cX12_feed 9 = .ok (.iload_n 3, 1) := zo_29 (zi_at zh_dX12_feed_0_0 9 rfl)
theorem dX12_feed_10 : decode cX12_feed 10 = .ok (.invokestatic 99, 3) := zo_184 (zi_at zh_dX12_feed_0_0 10 rfl) (zi_at zh_dX12_feed_0_0 11 rfl) (zi_at zh_dX12_feed_0_0 12 rfl) rfl
theorem dX12_feed_13 : decode cX12_feed 13 = .ok (.iadd, 1) := zo_96 (zi_at zh_dX12_feed_0_0 13 rfl)
theorem dX12_feed_14 : decode cX12_feed 14 = .ok (.iload 4, 2) := zo_21 (zi_at zh_dX12_feed_0_0 14 rfl) (zi_at zh_dX12_feed_0_0 15 rfl)
theorem dX12_feed_16 : decode cX12_feed 16 = .ok (.invokestatic 99, 3) := zo_184 (zi_at zh_dX12_feed_16_16 0 rfl) (zi_at zh_dX12_feed_16_16 1 rfl) (zi_at zh_dX12_feed_16_16 2 rfl) rfl
theorem dX12_feed_19 : decode cX12_feed 19 = .ok (.iadd, 1) := zo_96 (zi_at zh_dX12_feed_16_16 3 rfl)
theorem dX12_feed_20 : decode cX12_feed 20 = .ok (.iload 5, 2) := zo_21 (zi_at zh_dX12_feed_16_16 4 rfl) (zi_at zh_dX12_feed_16_16 5 rfl)
theorem dX12_feed_22 : decode cX12_feed 22 = .ok (.invokestatic 99, 3) := zo_184 (zi_at zh_dX12_feed_16_16 6 rfl) (zi_at zh_dX12_feed_16_16 7 rfl) (zi_at zh_dX12_feed_16_16 8 rfl) rfl
theorem dX12_feed_25 : decode cX12_feed 25 = .ok (.iadd, 1) := zo_96 (zi_at zh_dX12_feed_16_16 9 rfl)
theorem dX12_feed_26 : decode cX12_feed 26 = .ok (.istore 6, 2) := zo_54 (zi_at zh_dX12_feed_16_16 10 rfl) (zi_at zh_dX12_feed_16_16 11 rfl)
theorem dX12_feed_28 : decode cX12_feed 28 = .ok (.aload_n 0, 1) := zo_42 (zi_at zh_dX12_feed_16_16 12 rfl)
theorem dX12_feed_29 : decode cX12_feed 29 = .ok (.getfield 19, 3) := zo_180 (zi_at zh_dX12_feed_16_16 13 rfl) (zi_at zh_dX12_feed_16_16 14 rfl) (zi_at zh_dX12_feed_16_16 15 rfl) rfl
theorem dX12_feed_32 : decode cX12_feed 32 = .ok (.getfield 103, 3) := zo_180 (zi_at zh_dX12_feed_32_32 0 rfl) (zi_at zh_dX12_feed_32_32 1 rfl) (zi_at zh_dX12_feed_32_32 2 rfl) rfl
theorem dX12_feed_35 : decode cX12_feed 35 = .ok (.iload 6, 2) := zo_21 (zi_at zh_dX12_feed_32_32 3 rfl) (zi_at zh_dX12_feed_32_32 4 rfl)
theorem dX12_feed_37 : decode cX12_feed 37 = .ok (.iadd, 1) := zo_96 (zi_at zh_dX12_feed_32_32 5 rfl)
theorem dX12_feed_38 : decode cX12_feed 38 = .ok (.sipush 200, 3) := zo_17 (zi_at zh_dX12_feed_32_32 6 rfl) (zi_at zh_dX12_feed_32_32 7 rfl) (zi_at zh_dX12_feed_32_32 8 rfl) rfl
theorem dX12_feed_41 : decode cX12_feed 41 = .ok (.if_icmp .le 5, 3) := zo_164 (zi_at zh_dX12_feed_32_32 9 rfl) (zi_at zh_dX12_feed_32_32 10 rfl) (zi_at zh_dX12_feed_32_32 11 rfl) rfl
theorem dX12_feed_44 : decode cX12_feed 44 = .ok (.iconst (-1), 1) := zo_2 (zi_at zh_dX12_feed_32_32 12 rfl)
theorem dX12_feed_45 : decode cX12_feed 45 = .ok (.ireturn, 1) := zo_172 (zi_at zh_dX12_feed_32_32 13 rfl)
theorem dX12_feed_46 : decode cX12_feed 46 = .ok (.aload_n 0, 1) := zo_42 (zi_at zh_dX12_feed_32_32 14 rfl)
theorem dX12_feed_47 : decode cX12_feed 47 = .ok (.getfield 19, 3) := zo_180 (zi_at zh_dX12_feed_32_32 15 rfl) (zi_at zh_dX12_feed_47_48 0 rfl) (zi_at zh_dX12_feed_47_48 1 rfl) rfl
theorem dX12_feed_50 : decode cX12_feed 50 = .ok (.iload_n 1, 1) := zo_27 (zi_at zh_dX12_feed_47_48 2 rfl)
theorem dX12_feed_51 : decode cX12_feed 51 = .ok (.invokevirtual 106, 3) := zo_182 (zi_at zh_dX12_feed_47_48 3 rfl) (zi_at zh_dX12_feed_47_48 4 rfl) (zi_at zh_dX12_feed_47_48 5 rfl) rfl
theorem dX12_feed_54 : decode cX12_feed 54 = .ok (.aload_n 0, 1) := zo_42 (zi_at zh_dX12_feed_47_48 6 rfl)
theorem dX12_feed_55 : decode cX12_feed 55 = .ok (.getfield 19, 3) := zo_180 (zi_at zh_dX12_feed_47_48 7 rfl) (zi_at zh_dX12_feed_47_48 8 rfl) (zi_at zh_dX12_feed_47_48 9 rfl) rfl
theorem dX12_feed_58 : decode cX12_feed 58 = .ok (.iload_n 2, 1) := zo_28 (zi_at zh_dX12_feed_47_48 10 rfl)
theorem dX12_feed_59 : decode cX12_feed 59 = .ok (.invokevirtual 106, 3) := zo_182 (zi_at zh_dX12_feed_47_48 11 rfl) (zi_at zh_dX12_feed_47_48 12 rfl) (zi_at zh_dX12_feed_47_48 13 rfl) rfl
theorem dX12_feed_62 : decode cX12_feed 62 = .ok (.aload_n 0, 1) := zo_42 (zi_at zh_dX12_feed_47_48 14 rfl)
theorem dX12_feed_63 : decode cX12_feed 63 = .ok (.getfield 19, 3) := zo_180 (zi_at zh_dX12_feed_47_48 15 rfl) (zi_at zh_dX12_feed_63_64 0 rfl) (zi_at zh_dX12_feed_63_64 1 rfl) rfl
theorem dX12_feed_66 : decode cX12_feed 66 = .ok (.iload_n 3, 1) := zo_29 (zi_at zh_dX12_feed_63_64 2 rfl)
theorem dX12_feed_67 : decode cX12_feed 67 = .ok (.invokevirtual 106, 3) := zo_182 (zi_at zh_dX12_feed_63_64 3 rfl) (zi_at zh_dX12_feed_63_64 4 rfl) (zi_at zh_dX12_feed_63_64 5 rfl) rfl
theorem dX12_feed_70 : decode cX12_feed 70 = .ok (.aload_n 0, 1) := zo_42 (zi_at zh_dX12_feed_63_64 6 rfl)
theorem dX12_feed_71 : decode cX12_feed 71 = .ok (.getfield 19, 3) := zo_180 (zi_at zh_dX12_feed_63_64 7 rfl) (zi_at zh_dX12_feed_63_64 8 rfl) (zi_at zh_dX12_feed_63_64 9 rfl) rfl
theorem dX12_feed_74 : decode cX12_feed 74 = .ok (.iload 4, 2) := zo_21 (zi_at zh_dX12_feed_63_64 10 rfl) (zi_at zh_dX12_feed_63_64 11 rfl)
theorem dX12_feed_76 : decode cX12_feed 76 = .ok (.invokevirtual 106, 3) := zo_182 (zi_at zh_dX12_feed_63_64 12 rfl) (zi_at zh_dX12_feed_63_64 13 rfl) (zi_at zh_dX12_feed_63_64 14 rfl) rfl
theorem dX12_feed_79 : decode cX12_feed 79 = .ok (.aload_n 0, 1) := zo_42 (zi_at zh_dX12_feed_63_64 15 rfl)
theorem dX12_feed_80 : decode cX12_feed 80 = .ok (.getfield 19, 3) := zo_180 (zi_at zh_dX12_feed_80_80 0 rfl) (zi_at zh_dX12_feed_80_80 1 rfl) (zi_at zh_dX12_feed_80_80 2 rfl) rfl
theorem dX12_feed_83 : decode cX12_feed 83 = .ok (.iload 5, 2) := zo_21 (zi_at zh_dX12_feed_80_80 3 rfl) (zi_at zh_dX12_feed_80_80 4 rfl)
theorem dX12_feed_85 : decode cX12_feed 85 = .ok (.invokevirtual 106, 3) := zo_182 (zi_at zh_dX12_feed_80_80 5 rfl) (zi_at zh_dX12_feed_80_80 6 rfl) (zi_at zh_dX12_feed_80_80 7 rfl) rfl
theorem dX12_feed_88 : decode cX12_feed 88 = .ok (.aload_n 0, 1) := zo_42 (zi_at zh_dX12_feed_80_80 8 rfl)
theorem dX12_feed_89 : decode cX12_feed 89 = .ok (.getfield 19, 3) := zo_180 (zi_at zh_dX12_feed_80_80 9 rfl) (zi_at zh_dX12_feed_80_80 10 rfl) (zi_at zh_dX12_feed_80_80 11 rfl) rfl
theorem dX12_feed_92 : decode cX12_feed 92 = .ok (.getfield 103, 3) := zo_180 (zi_at zh_dX12_feed_80_80 12 rfl) (zi_at zh_dX12_feed_80_80 13 rfl) (zi_at zh_dX12_feed_80_80 14 rfl) rfl
theorem dX12_feed_95 : decode cX12_feed 95 = .ok (.ireturn, 1) := zo_172 (zi_at zh_dX12_feed_80_80 15 rfl)
theorem dX12_end_0 : decode cX12_end 0 = .ok (.iload_n 1, 1) := zo_27 (zi_at zh_dX12_end_0_0 0 rfl)
theorem dX12_end_1 : decode cX12_end 1 = .ok (.iconst 0, 1) := zo_3 (zi_at zh_dX12_end_0_0 1 rfl)
theorem dX12_end_2 : decode cX12_end 2 = .ok (.aload_n 0, 1) := zo_42 (zi_at zh_dX12_end_0_0 2 rfl)
theorem dX12_end_3 : decode cX12_end 3 = .ok (.getfield 19, 3) := zo_180 (zi_at zh_dX12_end_0_0 3 rfl) (zi_at zh_dX12_end_0_0 4 rfl) (zi_at zh_dX12_end_0_0 5 rfl) rfl
theorem dX12_end_6 : decode cX12_end 6 = .ok (.getfield 103, 3) := zo_180 (zi_at zh_dX12_end_0_0 6 rfl) (zi_at zh_dX12_end_0_0 7 rfl) (zi_at zh_dX12_end_0_0 8 rfl) rfl
theorem dX12_end_9 : decode cX12_end 9 = .ok (.invokestatic 59, 3) := zo_184 (zi_at zh_dX12_end_0_0 9 rfl) (zi_at zh_dX12_end_0_0 10 rfl) (zi_at zh_dX12_end_0_0 11 rfl) rfl
theorem dX12_end_12 : decode cX12_end 12 = .ok (.ifCond .ne 5, 3) := zo_154 (zi_at zh_dX12_end_0_0 12 rfl) (zi_at zh_dX12_end_0_0 13 rfl) (zi_at zh_dX12_end_0_0 14 rfl) rfl
theorem dX12_end_15 : decode cX12_end 15 = .ok (.iconst 0, 1) := zo_3 (zi_at zh_dX12_end_0_0 15 rfl)
theorem dX12_end_16 : decode cX12_end 16 = .ok (.ireturn, 1) := zo_172 (zi_at zh_dX12_end_16_16 0 rfl)
theorem dX12_end_17 : decode cX12_end 17 = .ok (.aload_n 0, 1) := zo_42 (zi_at zh_dX12_end_16_16 1 rfl)
theorem dX12_end_18 : decode cX12_end 18 = .ok (.getfield 19, 3) := zo_180 (zi_at zh_dX12_end_16_16 2 rfl) (zi_at zh_dX12_end_16_16 3 rfl) (zi_at zh_dX12_end_16_16 4 rfl) rfl
theorem dX12_end_21 : decode cX12_end 21 = .ok (.iload_n 1, 1) := zo_27 (zi_at zh_dX12_end_16_16 5 rfl)
theorem dX12_end_22 : decode cX12_end 22 = .ok (.putfield 103, 3) := zo_181 (zi_at zh_dX12_end_16_16 6 rfl) (zi_at zh_dX12_end_16_16 7 rfl) (zi_at zh_dX12_end_16_16 8 rfl) rfl
theorem dX12_end_25 : decode cX12_end 25 = .ok (.iconst 1, 1) := zo_4 (zi_at zh_dX12_end_16_16 9 rfl)
theorem dX12_end_26 : decode cX12_end 26 = .ok (.ireturn, 1) := zo_172 (zi_at zh_dX12_end_16_16 10 rfl)
theorem dX12_fault_0 : decode cX12_fault 0 = .ok (.aload_n 0, 1) := zo_42 (zi_at zh_dX12_fault_0_0 0 rfl)
theorem dX12_fault_1 : decode cX12_fault 1 = .ok (.getfield 19, 3) := zo_180 (zi_at zh_dX12_fault_0_0 1 rfl) (zi_at zh_dX12_fault_0_0 2 rfl) (zi_at zh_dX12_fault_0_0 3 rfl) rfl
theorem dX12_fault_4 : decode cX12_fault 4 = .ok (.invokevirtual 110, 3) := zo_182 (zi_at zh_dX12_fault_0_0 4 rfl) (zi_at zh_dX12_fault_0_0 5 rfl) (zi_at zh_dX12_fault_0_0 6 rfl) rfl
theorem dX12_fault_7 : decode cX12_fault 7 = .ok (.ireturn, 1) := zo_172 (zi_at zh_dX12_fault_0_0 7 rfl)
theorem dX12_bytesIn_0 : decode cX12_bytesIn 0 = .ok (.iconst 0, 1) := zo_3 (zi_at zh_dX12_bytesIn_0_0 0 rfl)
theorem dX12_bytesIn_1 : decode cX12_bytesIn 1 = .ok (.istore_n 1, 1) := zo_60 (zi_at zh_dX12_bytesIn_0_0 1 rfl)
theorem dX12_bytesIn_2 : decode cX12_bytesIn 2 = .ok (.bipush 24, 2) := zo_16 (zi_at zh_dX12_bytesIn_0_0 2 rfl) (zi_at zh_dX12_bytesIn_0_0 3 rfl) rfl
theorem dX12_bytesIn_4 : decode cX12_bytesIn 4 = .ok (.istore_n 2, 1) := zo_61 (zi_at zh_dX12_bytesIn_0_0 4 rfl)
theorem dX12_bytesIn_5 : decode cX12_bytesIn 5 = .ok (.iload_n 2, 1) := zo_28 (zi_at zh_dX12_bytesIn_0_0 5 rfl)
theorem dX12_bytesIn_6 : decode cX12_bytesIn 6 = .ok (.ifCond .lt 22, 3) := zo_155 (zi_at zh_dX12_bytesIn_0_0 6 rfl) (zi_at zh_dX12_bytesIn_0_0 7 rfl) (zi_at zh_dX12_bytesIn_0_0 8 rfl) rfl
theorem dX12_bytesIn_9 : decode cX12_bytesIn 9 = .ok (.iload_n 0, 1) := zo_26 (zi_at zh_dX12_bytesIn_0_0 9 rfl)
theorem dX12_bytesIn_10 : decode cX12_bytesIn 10 = .ok (.iload_n 2, 1) := zo_28 (zi_at zh_dX12_bytesIn_0_0 10 rfl)
theorem dX12_bytesIn_11 : decode cX12_bytesIn 11 = .ok (.iushr, 1) := zo_124 (zi_at zh_dX12_bytesIn_0_0 11 rfl)
theorem dX12_bytesIn_12 : decode cX12_bytesIn 12 = .ok (.sipush 255, 3) := zo_17 (zi_at zh_dX12_bytesIn_0_0 12 rfl) (zi_at zh_dX12_bytesIn_0_0 13 rfl) (zi_at zh_dX12_bytesIn_0_0 14 rfl) rfl
theorem dX12_bytesIn_15 : decode cX12_bytesIn 15 = .ok (.iand, 1) := zo_126 (zi_at zh_dX12_bytesIn_0_0 15 rfl)
theorem dX12_bytesIn_16 : decode cX12_bytesIn 16 = .ok (.ifCond .eq 6, 3) := zo_153 (zi_at zh_dX12_bytesIn_16_16 0 rfl) (zi_at zh_dX12_bytesIn_16_16 1 rfl) (zi_at zh_dX12_bytesIn_16_16 2 rfl) rfl
theorem dX12_bytesIn_19 : decode cX12_bytesIn 19 = .ok (.iinc 1 1, 3) := zo_132 (zi_at zh_dX12_bytesIn_16_16 3 rfl) (zi_at zh_dX12_bytesIn_16_16 4 rfl) (zi_at zh_dX12_bytesIn_16_16 5 rfl) rfl
theorem dX12_bytesIn_22 : decode cX12_bytesIn 22 = .ok (.iinc 2 (-8), 3) := zo_132 (zi_at zh_dX12_bytesIn_16_16 6 rfl) (zi_at zh_dX12_bytesIn_16_16 7 rfl) (zi_at zh_dX12_bytesIn_16_16 8 rfl) rfl
theorem dX12_bytesIn_25 : decode cX12_bytesIn 25 = .ok (.goto (-20), 3) := zo_167 (zi_at zh_dX12_bytesIn_16_16 9 rfl) (zi_at zh_dX12_bytesIn_16_16 10 rfl) (zi_at zh_dX12_bytesIn_16_16 11 rfl) rfl
theorem dX12_bytesIn_28 : decode cX12_bytesIn 28 = .ok (.iload_n 1, 1) := zo_27 (zi_at zh_dX12_bytesIn_16_16 12 rfl)
theorem dX12_bytesIn_29 : decode cX12_bytesIn 29 = .ok (.ireturn, 1) := zo_172 (zi_at zh_dX12_bytesIn_16_16 13 rfl)
theorem hz_yX12_bytesIn_1 : yX12_bytesIn.cls ≠ "java/lang/invoke/MethodHandle" ∧ yX12_bytesIn.cls ≠ "java/lang/invoke/VarHandle" ∧ (parseMethodDescriptor yX12_bytesIn.desc).map (fun d => d.parameters.length) = some 1 := by decide +kernel
theorem hz_yX10_put_1 : yX10_put.cls ≠ "java/lang/invoke/MethodHandle" ∧ yX10_put.cls ≠ "java/lang/invoke/VarHandle" ∧ (parseMethodDescriptor yX10_put.desc).map (fun d => d.parameters.length) = some 1 := by decide +kernel
theorem hz_yX10_read_0 : yX10_read.cls ≠ "java/lang/invoke/MethodHandle" ∧ yX10_read.cls ≠ "java/lang/invoke/VarHandle" ∧ (parseMethodDescriptor yX10_read.desc).map (fun d => d.parameters.length) = some 0 := by decide +kernel

def v_cbytesInX : List Cond := .code yX12_bytesIn cX12_bytesIn 3 (some .int) :: vA
abbrev rm_cbytesInX : Room := { frames := 0, cells := 0, slots := 0, locals := 0 }
set_option maxHeartbeats 4000000 in
set_option maxRecDepth 100000 in
theorem q_cbytesInX (l : Launch) (a0 : Int32)  : Met l yX12_bytesIn v_cbytesInX rm_cbytesInX (va_Pc [.int a0] (fun _ => True)) (va_Qi (S := Unit) (fun r _ => (0 ≤ r.toInt ∧ r.toInt ≤ 4) ∧ (r.toInt = (nbN a0 : Int))) (fun _ _ => True) (fun _ => False)) 0 0 (fun _ => False) := by
  refine Met.ofW (cc := cX12_bytesIn) (maxL := 3) (ret := (some .int)) (by decide) rfl ?_
  intro p e s m args below meth c s₁ B hml hv
  obtain ⟨hargs, -⟩ := hv
  have hx := B.exec
  have hb := B.bytes
  have hr := B.returns
  have hts := atoms_spec (ws := v_cbytesInX) B.pre
  have hown : s.vm.findClass RX12 = some m.cls := findClass_of_methodNamed B.named
  have hlocks := B.notSynchronized
  have hS : va_S (fun _ : Nat => False) s.heap s.heap [] := va_S.rf
  have hl := lv_entry ([.int a0]) (n := 3) (Nat.le_of_ble_eq_true rfl)
  obtain ⟨Q, hQ⟩ : ∃ Q, Q = MQ below (va_Qi (S := Unit) (fun r _ => (0 ≤ r.toInt ∧ r.toInt ≤ 4) ∧ (r.toInt = (nbN a0 : Int))) (fun _ _ => True) (fun _ => False)) args s 0 0 (fun _ => False) := ⟨_, rfl⟩
  rw [← hQ, show entryFrame m args 3 = _ from (congrArg (fun z => entryFrame m z 3) hargs).trans (lg_entry_eq _ _ _)]
  generalize (lg_sl ([.int a0]) ++ List.replicate (3 - (lg_sl ([.int a0])).length) Slot.unset).toArray = ls at hl ⊢
  have hl : lv_has ls 3 [(0, .int a0)] := hl
  have hnb : nbN a0 = bN (ub_by a0 24) + bN (ub_by a0 16) + bN (ub_by a0 8) + bN (ub_by a0 0) := rfl
  have hb24 := bN_le (ub_by a0 24)
  have hb16 := bN_le (ub_by a0 16)
  have hb8 := bN_le (ub_by a0 8)
  have hb0 := bN_le (ub_by a0 0)
  refine lv_iconst (v := 0) hx hb dX12_bytesIn_0 (by decide) ?_
  refine lv_istore_n (lv' := [(1, .int 0), (0, .int a0)]) hx hb dX12_bytesIn_1 rfl hl (by decide) rfl (fun ls hl => ?_)
  refine lv_bipush (v := 24) hx hb dX12_bytesIn_2 (by decide) ?_
  refine lv_istore_n (lv' := [(2, .int 24), (1, .int 0), (0, .int a0)]) hx hb dX12_bytesIn_4 rfl hl (by decide) rfl (fun ls hl => ?_)
  refine lv_iload_n hx hb dX12_bytesIn_5 rfl (lv_at hl 0 rfl) ?_
  refine lv_if_lt (tgt := 28) hx hb dX12_bytesIn_6 (by decide) (fun c1 => ?_) (fun c1 => ?_)
  · --6 taken
    exact absurd c1 (by decide)
  · --6 not
    refine lv_iload_n hx hb dX12_bytesIn_9 rfl (lv_at hl 2 rfl) ?_
    refine lv_iload_n hx hb dX12_bytesIn_10 rfl (lv_at hl 0 rfl) ?_
    refine lv_iushr hx hb dX12_bytesIn_11 rfl ?_
    refine lv_topi (fun y2 ey2 => ?_)
    refine lv_sipush (v := 255) hx hb dX12_bytesIn_12 (by decide) ?_
    refine lv_iand hx hb dX12_bytesIn_15 ?_
    refine lv_topi (fun y3 ey3 => ?_)
    have iy3 : 0 ≤ y3.toInt ∧ y3.toInt ≤ 255 := ti_and (by decide) ey3
    refine lv_if_eq (tgt := 22) hx hb dX12_bytesIn_16 (by decide) (fun c4 => ?_) (fun c4 => ?_)
    · --16 taken
      have t5 : y3.toInt = 0 := ti_eq c4
      have i6 : 0 ≤ y3.toInt ∧ y3.toInt ≤ 0 := iv_eqi t5 iy3 (il_ 0) (by decide)
      have b24 : bN (ub_by a0 24) = 0 := bN_0 ((show ub_by a0 24 = y3 from by rw [ey3, ey2]; rfl).trans c4)
      refine lv_iinc (v := 16) (lv' := [(2, .int 16), (1, .int 0), (0, .int a0)]) hx hb dX12_bytesIn_22 hl (k := 0) rfl (by decide) (by decide) rfl (fun ls hl => ?_)
      refine lv_goto (tgt := 5) hx hb dX12_bytesIn_25 (by decide) ?_
      refine lv_iload_n hx hb dX12_bytesIn_5 rfl (lv_at hl 0 rfl) ?_
      refine lv_if_lt (tgt := 28) hx hb dX12_bytesIn_6 (by decide) (fun c7 => ?_) (fun c7 => ?_)
      · --6 taken
        exact absurd c7 (by decide)
      · --6 not
        refine lv_iload_n hx hb dX12_bytesIn_9 rfl (lv_at hl 2 rfl) ?_
        refine lv_iload_n hx hb dX12_bytesIn_10 rfl (lv_at hl 0 rfl) ?_
        refine lv_iushr hx hb dX12_bytesIn_11 rfl ?_
        refine lv_topi (fun y8 ey8 => ?_)
        refine lv_sipush (v := 255) hx hb dX12_bytesIn_12 (by decide) ?_
        refine lv_iand hx hb dX12_bytesIn_15 ?_
        refine lv_topi (fun y9 ey9 => ?_)
        have iy9 : 0 ≤ y9.toInt ∧ y9.toInt ≤ 255 := ti_and (by decide) ey9
        refine lv_if_eq (tgt := 22) hx hb dX12_bytesIn_16 (by decide) (fun c10 => ?_) (fun c10 => ?_)
        · --16 taken
          have t11 : y9.toInt = 0 := ti_eq c10
          have i12 : 0 ≤ y9.toInt ∧ y9.toInt ≤ 0 := iv_eqi t11 iy9 (il_ 0) (by decide)
          have b16 : bN (ub_by a0 16) = 0 := bN_0 ((show ub_by a0 16 = y9 from by rw [ey9, ey8]; rfl).trans c10)
          refine lv_iinc (v := 8) (lv' := [(2, .int 8), (1, .int 0), (0, .int a0)]) hx hb dX12_bytesIn_22 hl (k := 0) rfl (by decide) (by decide) rfl (fun ls hl => ?_)
          refine lv_goto (tgt := 5) hx hb dX12_bytesIn_25 (by decide) ?_
          refine lv_iload_n hx hb dX12_bytesIn_5 rfl (lv_at hl 0 rfl) ?_
          refine lv_if_lt (tgt := 28) hx hb dX12_bytesIn_6 (by decide) (fun c13 => ?_) (fun c13 => ?_)
          · --6 taken
            exact absurd c13 (by decide)
          · --6 not
            refine lv_iload_n hx hb dX12_bytesIn_9 rfl (lv_at hl 2 rfl) ?_
            refine lv_iload_n hx hb dX12_bytesIn_10 rfl (lv_at hl 0 rfl) ?_
            refine lv_iushr hx hb dX12_bytesIn_11 rfl ?_
            refine lv_topi (fun y14 ey14 => ?_)
            refine lv_sipush (v := 255) hx hb dX12_bytesIn_12 (by decide) ?_
            refine lv_iand hx hb dX12_bytesIn_15 ?_
            refine lv_topi (fun y15 ey15 => ?_)
            have iy15 : 0 ≤ y15.toInt ∧ y15.toInt ≤ 255 := ti_and (by decide) ey15
            refine lv_if_eq (tgt := 22) hx hb dX12_bytesIn_16 (by decide) (fun c16 => ?_) (fun c16 => ?_)
            · --16 taken
              have t17 : y15.toInt = 0 := ti_eq c16
              have i18 : 0 ≤ y15.toInt ∧ y15.toInt ≤ 0 := iv_eqi t17 iy15 (il_ 0) (by decide)
              have b8 : bN (ub_by a0 8) = 0 := bN_0 ((show ub_by a0 8 = y15 from by rw [ey15, ey14]; rfl).trans c16)
              refine lv_iinc (v := 0) (lv' := [(2, .int 0), (1, .int 0), (0, .int a0)]) hx hb dX12_bytesIn_22 hl (k := 0) rfl (by decide) (by decide) rfl (fun ls hl => ?_)
              refine lv_goto (tgt := 5) hx hb dX12_bytesIn_25 (by decide) ?_
              refine lv_iload_n hx hb dX12_bytesIn_5 rfl (lv_at hl 0 rfl) ?_
              refine lv_if_lt (tgt := 28) hx hb dX12_bytesIn_6 (by decide) (fun c19 => ?_) (fun c19 => ?_)
              · --6 taken
                exact absurd c19 (by decide)
              · --6 not
                refine lv_iload_n hx hb dX12_bytesIn_9 rfl (lv_at hl 2 rfl) ?_
                refine lv_iload_n hx hb dX12_bytesIn_10 rfl (lv_at hl 0 rfl) ?_
                refine lv_iushr hx hb dX12_bytesIn_11 rfl ?_
                refine lv_topi (fun y20 ey20 => ?_)
                refine lv_sipush (v := 255) hx hb dX12_bytesIn_12 (by decide) ?_
                refine lv_iand hx hb dX12_bytesIn_15 ?_
                refine lv_topi (fun y21 ey21 => ?_)
                have iy21 : 0 ≤ y21.toInt ∧ y21.toInt ≤ 255 := ti_and (by decide) ey21
                refine lv_if_eq (tgt := 22) hx hb dX12_bytesIn_16 (by decide) (fun c22 => ?_) (fun c22 => ?_)
                · --16 taken
                  have t23 : y21.toInt = 0 := ti_eq c22
                  have i24 : 0 ≤ y21.toInt ∧ y21.toInt ≤ 0 := iv_eqi t23 iy21 (il_ 0) (by decide)
                  have b0 : bN (ub_by a0 0) = 0 := bN_0 ((show ub_by a0 0 = y21 from by rw [ey21, ey20]; rfl).trans c22)
                  refine lv_iinc (v := -8) (lv' := [(2, .int (-8)), (1, .int 0), (0, .int a0)]) hx hb dX12_bytesIn_22 hl (k := 0) rfl (by decide) (by decide) rfl (fun ls hl => ?_)
                  refine lv_goto (tgt := 5) hx hb dX12_bytesIn_25 (by decide) ?_
                  refine lv_iload_n hx hb dX12_bytesIn_5 rfl (lv_at hl 0 rfl) ?_
                  refine lv_if_lt (tgt := 28) hx hb dX12_bytesIn_6 (by decide) (fun c25 => ?_) (fun c25 => ?_)
                  · --6 taken
                    refine lv_iload_n hx hb dX12_bytesIn_28 rfl (lv_at hl 1 rfl) ?_
                    rw [hQ]
                    exact W.iret (v := 0) hx hb hr (fun t ht hW => ⟨⟨0, (), rfl, ⟨(iv_w ln_0 (by decide)), by have h9 := ln_0; omega⟩, trivial⟩, hS.F ht⟩) hS.2.2 dX12_bytesIn_29
                  · --6 not
                    exact absurd c25 (by decide)
                · --16 not
                  have t26 : ¬ y21.toInt = 0 := ti_ne c22
                  have i27 : 1 ≤ y21.toInt ∧ y21.toInt ≤ 255 := iv_ne_l t26 iy21 (il_ 0)
                  have b0 : bN (ub_by a0 0) = 1 := bN_1 (fun q9 => c22 ((show ub_by a0 0 = y21 from by rw [ey21, ey20]; rfl).symm.trans q9))
                  refine lv_iinc (v := 1) (lv' := [(1, .int 1), (2, .int 0), (0, .int a0)]) hx hb dX12_bytesIn_19 hl (k := 1) rfl (by decide) (by decide) rfl (fun ls hl => ?_)
                  refine lv_iinc (v := -8) (lv' := [(2, .int (-8)), (1, .int 1), (0, .int a0)]) hx hb dX12_bytesIn_22 hl (k := 1) rfl (by decide) (by decide) rfl (fun ls hl => ?_)
                  refine lv_goto (tgt := 5) hx hb dX12_bytesIn_25 (by decide) ?_
                  refine lv_iload_n hx hb dX12_bytesIn_5 rfl (lv_at hl 0 rfl) ?_
                  refine lv_if_lt (tgt := 28) hx hb dX12_bytesIn_6 (by decide) (fun c28 => ?_) (fun c28 => ?_)
                  · --6 taken
                    refine lv_iload_n hx hb dX12_bytesIn_28 rfl (lv_at hl 1 rfl) ?_
                    rw [hQ]
                    exact W.iret (v := 1) hx hb hr (fun t ht hW => ⟨⟨1, (), rfl, ⟨(iv_w ln_1 (by decide)), by have h9 := ln_1; omega⟩, trivial⟩, hS.F ht⟩) hS.2.2 dX12_bytesIn_29
                  · --6 not
                    exact absurd c28 (by decide)
            · --16 not
              have t29 : ¬ y15.toInt = 0 := ti_ne c16
              have i30 : 1 ≤ y15.toInt ∧ y15.toInt ≤ 255 := iv_ne_l t29 iy15 (il_ 0)
              have b8 : bN (ub_by a0 8) = 1 := bN_1 (fun q9 => c16 ((show ub_by a0 8 = y15 from by rw [ey15, ey14]; rfl).symm.trans q9))
              refine lv_iinc (v := 1) (lv' := [(1, .int 1), (2, .int 8), (0, .int a0)]) hx hb dX12_bytesIn_19 hl (k := 1) rfl (by decide) (by decide) rfl (fun ls hl => ?_)
              refine lv_iinc (v := 0) (lv' := [(2, .int 0), (1, .int 1), (0, .int a0)]) hx hb dX12_bytesIn_22 hl (k := 1) rfl (by decide) (by decide) rfl (fun ls hl => ?_)
              refine lv_goto (tgt := 5) hx hb dX12_bytesIn_25 (by decide) ?_
              refine lv_iload_n hx hb dX12_bytesIn_5 rfl (lv_at hl 0 rfl) ?_
              refine lv_if_lt (tgt := 28) hx hb dX12_bytesIn_6 (by decide) (fun c31 => ?_) (fun c31 => ?_)
              · --6 taken
                exact absurd c31 (by decide)
              · --6 not
                refine lv_iload_n hx hb dX12_bytesIn_9 rfl (lv_at hl 2 rfl) ?_
                refine lv_iload_n hx hb dX12_bytesIn_10 rfl (lv_at hl 0 rfl) ?_
                refine lv_iushr hx hb dX12_bytesIn_11 rfl ?_
                refine lv_topi (fun y32 ey32 => ?_)
                refine lv_sipush (v := 255) hx hb dX12_bytesIn_12 (by decide) ?_
                refine lv_iand hx hb dX12_bytesIn_15 ?_
                refine lv_topi (fun y33 ey33 => ?_)
                have iy33 : 0 ≤ y33.toInt ∧ y33.toInt ≤ 255 := ti_and (by decide) ey33
                refine lv_if_eq (tgt := 22) hx hb dX12_bytesIn_16 (by decide) (fun c34 => ?_) (fun c34 => ?_)
                · --16 taken
                  have t35 : y33.toInt = 0 := ti_eq c34
                  have i36 : 0 ≤ y33.toInt ∧ y33.toInt ≤ 0 := iv_eqi t35 iy33 (il_ 0) (by decide)
                  have b0 : bN (ub_by a0 0) = 0 := bN_0 ((show ub_by a0 0 = y33 from by rw [ey33, ey32]; rfl).trans c34)
                  refine lv_iinc (v := -8) (lv' := [(2, .int (-8)), (1, .int 1), (0, .int a0)]) hx hb dX12_bytesIn_22 hl (k := 0) rfl (by decide) (by decide) rfl (fun ls hl => ?_)
                  refine lv_goto (tgt := 5) hx hb dX12_bytesIn_25 (by decide) ?_
                  refine lv_iload_n hx hb dX12_bytesIn_5 rfl (lv_at hl 0 rfl) ?_
                  refine lv_if_lt (tgt := 28) hx hb dX12_bytesIn_6 (by decide) (fun c37 => ?_) (fun c37 => ?_)
                  · --6 taken
                    refine lv_iload_n hx hb dX12_bytesIn_28 rfl (lv_at hl 1 rfl) ?_
                    rw [hQ]
                    exact W.iret (v := 1) hx hb hr (fun t ht hW => ⟨⟨1, (), rfl, ⟨(iv_w ln_1 (by decide)), by have h9 := ln_1; omega⟩, trivial⟩, hS.F ht⟩) hS.2.2 dX12_bytesIn_29
                  · --6 not
                    exact absurd c37 (by decide)
                · --16 not
                  have t38 : ¬ y33.toInt = 0 := ti_ne c34
                  have i39 : 1 ≤ y33.toInt ∧ y33.toInt ≤ 255 := iv_ne_l t38 iy33 (il_ 0)
                  have b0 : bN (ub_by a0 0) = 1 := bN_1 (fun q9 => c34 ((show ub_by a0 0 = y33 from by rw [ey33, ey32]; rfl).symm.trans q9))
                  refine lv_iinc (v := 2) (lv' := [(1, .int 2), (2, .int 0), (0, .int a0)]) hx hb dX12_bytesIn_19 hl (k := 1) rfl (by decide) (by decide) rfl (fun ls hl => ?_)
                  refine lv_iinc (v := -8) (lv' := [(2, .int (-8)), (1, .int 2), (0, .int a0)]) hx hb dX12_bytesIn_22 hl (k := 1) rfl (by decide) (by decide) rfl (fun ls hl => ?_)
                  refine lv_goto (tgt := 5) hx hb dX12_bytesIn_25 (by decide) ?_
                  refine lv_iload_n hx hb dX12_bytesIn_5 rfl (lv_at hl 0 rfl) ?_
                  refine lv_if_lt (tgt := 28) hx hb dX12_bytesIn_6 (by decide) (fun c40 => ?_) (fun c40 => ?_)
                  · --6 taken
                    refine lv_iload_n hx hb dX12_bytesIn_28 rfl (lv_at hl 1 rfl) ?_
                    rw [hQ]
                    exact W.iret (v := 2) hx hb hr (fun t ht hW => ⟨⟨2, (), rfl, ⟨(iv_w ln_2 (by decide)), by have h9 := ln_2; omega⟩, trivial⟩, hS.F ht⟩) hS.2.2 dX12_bytesIn_29
                  · --6 not
                    exact absurd c40 (by decide)
        · --16 not
          have t41 : ¬ y9.toInt = 0 := ti_ne c10
          have i42 : 1 ≤ y9.toInt ∧ y9.toInt ≤ 255 := iv_ne_l t41 iy9 (il_ 0)
          have b16 : bN (ub_by a0 16) = 1 := bN_1 (fun q9 => c10 ((show ub_by a0 16 = y9 from by rw [ey9, ey8]; rfl).symm.trans q9))
          refine lv_iinc (v := 1) (lv' := [(1, .int 1), (2, .int 16), (0, .int a0)]) hx hb dX12_bytesIn_19 hl (k := 1) rfl (by decide) (by decide) rfl (fun ls hl => ?_)
          refine lv_iinc (v := 8) (lv' := [(2, .int 8), (1, .int 1), (0, .int a0)]) hx hb dX12_bytesIn_22 hl (k := 1) rfl (by decide) (by decide) rfl (fun ls hl => ?_)
          refine lv_goto (tgt := 5) hx hb dX12_bytesIn_25 (by decide) ?_
          refine lv_iload_n hx hb dX12_bytesIn_5 rfl (lv_at hl 0 rfl) ?_
          refine lv_if_lt (tgt := 28) hx hb dX12_bytesIn_6 (by decide) (fun c43 => ?_) (fun c43 => ?_)
          · --6 taken
            exact absurd c43 (by decide)
          · --6 not
            refine lv_iload_n hx hb dX12_bytesIn_9 rfl (lv_at hl 2 rfl) ?_
            refine lv_iload_n hx hb dX12_bytesIn_10 rfl (lv_at hl 0 rfl) ?_
            refine lv_iushr hx hb dX12_bytesIn_11 rfl ?_
            refine lv_topi (fun y44 ey44 => ?_)
            refine lv_sipush (v := 255) hx hb dX12_bytesIn_12 (by decide) ?_
            refine lv_iand hx hb dX12_bytesIn_15 ?_
            refine lv_topi (fun y45 ey45 => ?_)
            have iy45 : 0 ≤ y45.toInt ∧ y45.toInt ≤ 255 := ti_and (by decide) ey45
            refine lv_if_eq (tgt := 22) hx hb dX12_bytesIn_16 (by decide) (fun c46 => ?_) (fun c46 => ?_)
            · --16 taken
              have t47 : y45.toInt = 0 := ti_eq c46
              have i48 : 0 ≤ y45.toInt ∧ y45.toInt ≤ 0 := iv_eqi t47 iy45 (il_ 0) (by decide)
              have b8 : bN (ub_by a0 8) = 0 := bN_0 ((show ub_by a0 8 = y45 from by rw [ey45, ey44]; rfl).trans c46)
              refine lv_iinc (v := 0) (lv' := [(2, .int 0), (1, .int 1), (0, .int a0)]) hx hb dX12_bytesIn_22 hl (k := 0) rfl (by decide) (by decide) rfl (fun ls hl => ?_)
              refine lv_goto (tgt := 5) hx hb dX12_bytesIn_25 (by decide) ?_
              refine lv_iload_n hx hb dX12_bytesIn_5 rfl (lv_at hl 0 rfl) ?_
              refine lv_if_lt (tgt := 28) hx hb dX12_bytesIn_6 (by decide) (fun c49 => ?_) (fun c49 => ?_)
              · --6 taken
                exact absurd c49 (by decide)
              · --6 not
                refine lv_iload_n hx hb dX12_bytesIn_9 rfl (lv_at hl 2 rfl) ?_
                refine lv_iload_n hx hb dX12_bytesIn_10 rfl (lv_at hl 0 rfl) ?_
                refine lv_iushr hx hb dX12_bytesIn_11 rfl ?_
                refine lv_topi (fun y50 ey50 => ?_)
                refine lv_sipush (v := 255) hx hb dX12_bytesIn_12 (by decide) ?_
                refine lv_iand hx hb dX12_bytesIn_15 ?_
                refine lv_topi (fun y51 ey51 => ?_)
                have iy51 : 0 ≤ y51.toInt ∧ y51.toInt ≤ 255 := ti_and (by decide) ey51
                refine lv_if_eq (tgt := 22) hx hb dX12_bytesIn_16 (by decide) (fun c52 => ?_) (fun c52 => ?_)
                · --16 taken
                  have t53 : y51.toInt = 0 := ti_eq c52
                  have i54 : 0 ≤ y51.toInt ∧ y51.toInt ≤ 0 := iv_eqi t53 iy51 (il_ 0) (by decide)
                  have b0 : bN (ub_by a0 0) = 0 := bN_0 ((show ub_by a0 0 = y51 from by rw [ey51, ey50]; rfl).trans c52)
                  refine lv_iinc (v := -8) (lv' := [(2, .int (-8)), (1, .int 1), (0, .int a0)]) hx hb dX12_bytesIn_22 hl (k := 0) rfl (by decide) (by decide) rfl (fun ls hl => ?_)
                  refine lv_goto (tgt := 5) hx hb dX12_bytesIn_25 (by decide) ?_
                  refine lv_iload_n hx hb dX12_bytesIn_5 rfl (lv_at hl 0 rfl) ?_
                  refine lv_if_lt (tgt := 28) hx hb dX12_bytesIn_6 (by decide) (fun c55 => ?_) (fun c55 => ?_)
                  · --6 taken
                    refine lv_iload_n hx hb dX12_bytesIn_28 rfl (lv_at hl 1 rfl) ?_
                    rw [hQ]
                    exact W.iret (v := 1) hx hb hr (fun t ht hW => ⟨⟨1, (), rfl, ⟨(iv_w ln_1 (by decide)), by have h9 := ln_1; omega⟩, trivial⟩, hS.F ht⟩) hS.2.2 dX12_bytesIn_29
                  · --6 not
                    exact absurd c55 (by decide)
                · --16 not
                  have t56 : ¬ y51.toInt = 0 := ti_ne c52
                  have i57 : 1 ≤ y51.toInt ∧ y51.toInt ≤ 255 := iv_ne_l t56 iy51 (il_ 0)
                  have b0 : bN (ub_by a0 0) = 1 := bN_1 (fun q9 => c52 ((show ub_by a0 0 = y51 from by rw [ey51, ey50]; rfl).symm.trans q9))
                  refine lv_iinc (v := 2) (lv' := [(1, .int 2), (2, .int 0), (0, .int a0)]) hx hb dX12_bytesIn_19 hl (k := 1) rfl (by decide) (by decide) rfl (fun ls hl => ?_)
                  refine lv_iinc (v := -8) (lv' := [(2, .int (-8)), (1, .int 2), (0, .int a0)]) hx hb dX12_bytesIn_22 hl (k := 1) rfl (by decide) (by decide) rfl (fun ls hl => ?_)
                  refine lv_goto (tgt := 5) hx hb dX12_bytesIn_25 (by decide) ?_
                  refine lv_iload_n hx hb dX12_bytesIn_5 rfl (lv_at hl 0 rfl) ?_
                  refine lv_if_lt (tgt := 28) hx hb dX12_bytesIn_6 (by decide) (fun c58 => ?_) (fun c58 => ?_)
                  · --6 taken
                    refine lv_iload_n hx hb dX12_bytesIn_28 rfl (lv_at hl 1 rfl) ?_
                    rw [hQ]
                    exact W.iret (v := 2) hx hb hr (fun t ht hW => ⟨⟨2, (), rfl, ⟨(iv_w ln_2 (by decide)), by have h9 := ln_2; omega⟩, trivial⟩, hS.F ht⟩) hS.2.2 dX12_bytesIn_29
                  · --6 not
                    exact absurd c58 (by decide)
            · --16 not
              have t59 : ¬ y45.toInt = 0 := ti_ne c46
              have i60 : 1 ≤ y45.toInt ∧ y45.toInt ≤ 255 := iv_ne_l t59 iy45 (il_ 0)
              have b8 : bN (ub_by a0 8) = 1 := bN_1 (fun q9 => c46 ((show ub_by a0 8 = y45 from by rw [ey45, ey44]; rfl).symm.trans q9))
              refine lv_iinc (v := 2) (lv' := [(1, .int 2), (2, .int 8), (0, .int a0)]) hx hb dX12_bytesIn_19 hl (k := 1) rfl (by decide) (by decide) rfl (fun ls hl => ?_)
              refine lv_iinc (v := 0) (lv' := [(2, .int 0), (1, .int 2), (0, .int a0)]) hx hb dX12_bytesIn_22 hl (k := 1) rfl (by decide) (by decide) rfl (fun ls hl => ?_)
              refine lv_goto (tgt := 5) hx hb dX12_bytesIn_25 (by decide) ?_
              refine lv_iload_n hx hb dX12_bytesIn_5 rfl (lv_at hl 0 rfl) ?_
              refine lv_if_lt (tgt := 28) hx hb dX12_bytesIn_6 (by decide) (fun c61 => ?_) (fun c61 => ?_)
              · --6 taken
                exact absurd c61 (by decide)
              · --6 not
                refine lv_iload_n hx hb dX12_bytesIn_9 rfl (lv_at hl 2 rfl) ?_
                refine lv_iload_n hx hb dX12_bytesIn_10 rfl (lv_at hl 0 rfl) ?_
                refine lv_iushr hx hb dX12_bytesIn_11 rfl ?_
                refine lv_topi (fun y62 ey62 => ?_)
                refine lv_sipush (v := 255) hx hb dX12_bytesIn_12 (by decide) ?_
                refine lv_iand hx hb dX12_bytesIn_15 ?_
                refine lv_topi (fun y63 ey63 => ?_)
                have iy63 : 0 ≤ y63.toInt ∧ y63.toInt ≤ 255 := ti_and (by decide) ey63
                refine lv_if_eq (tgt := 22) hx hb dX12_bytesIn_16 (by decide) (fun c64 => ?_) (fun c64 => ?_)
                · --16 taken
                  have t65 : y63.toInt = 0 := ti_eq c64
                  have i66 : 0 ≤ y63.toInt ∧ y63.toInt ≤ 0 := iv_eqi t65 iy63 (il_ 0) (by decide)
                  have b0 : bN (ub_by a0 0) = 0 := bN_0 ((show ub_by a0 0 = y63 from by rw [ey63, ey62]; rfl).trans c64)
                  refine lv_iinc (v := -8) (lv' := [(2, .int (-8)), (1, .int 2), (0, .int a0)]) hx hb dX12_bytesIn_22 hl (k := 0) rfl (by decide) (by decide) rfl (fun ls hl => ?_)
                  refine lv_goto (tgt := 5) hx hb dX12_bytesIn_25 (by decide) ?_
                  refine lv_iload_n hx hb dX12_bytesIn_5 rfl (lv_at hl 0 rfl) ?_
                  refine lv_if_lt (tgt := 28) hx hb dX12_bytesIn_6 (by decide) (fun c67 => ?_) (fun c67 => ?_)
                  · --6 taken
                    refine lv_iload_n hx hb dX12_bytesIn_28 rfl (lv_at hl 1 rfl) ?_
                    rw [hQ]
                    exact W.iret (v := 2) hx hb hr (fun t ht hW => ⟨⟨2, (), rfl, ⟨(iv_w ln_2 (by decide)), by have h9 := ln_2; omega⟩, trivial⟩, hS.F ht⟩) hS.2.2 dX12_bytesIn_29
                  · --6 not
                    exact absurd c67 (by decide)
                · --16 not
                  have t68 : ¬ y63.toInt = 0 := ti_ne c64
                  have i69 : 1 ≤ y63.toInt ∧ y63.toInt ≤ 255 := iv_ne_l t68 iy63 (il_ 0)
                  have b0 : bN (ub_by a0 0) = 1 := bN_1 (fun q9 => c64 ((show ub_by a0 0 = y63 from by rw [ey63, ey62]; rfl).symm.trans q9))
                  refine lv_iinc (v := 3) (lv' := [(1, .int 3), (2, .int 0), (0, .int a0)]) hx hb dX12_bytesIn_19 hl (k := 1) rfl (by decide) (by decide) rfl (fun ls hl => ?_)
                  refine lv_iinc (v := -8) (lv' := [(2, .int (-8)), (1, .int 3), (0, .int a0)]) hx hb dX12_bytesIn_22 hl (k := 1) rfl (by decide) (by decide) rfl (fun ls hl => ?_)
                  refine lv_goto (tgt := 5) hx hb dX12_bytesIn_25 (by decide) ?_
                  refine lv_iload_n hx hb dX12_bytesIn_5 rfl (lv_at hl 0 rfl) ?_
                  refine lv_if_lt (tgt := 28) hx hb dX12_bytesIn_6 (by decide) (fun c70 => ?_) (fun c70 => ?_)
                  · --6 taken
                    refine lv_iload_n hx hb dX12_bytesIn_28 rfl (lv_at hl 1 rfl) ?_
                    rw [hQ]
                    exact W.iret (v := 3) hx hb hr (fun t ht hW => ⟨⟨3, (), rfl, ⟨(iv_w ln_3 (by decide)), by have h9 := ln_3; omega⟩, trivial⟩, hS.F ht⟩) hS.2.2 dX12_bytesIn_29
                  · --6 not
                    exact absurd c70 (by decide)
    · --16 not
      have t71 : ¬ y3.toInt = 0 := ti_ne c4
      have i72 : 1 ≤ y3.toInt ∧ y3.toInt ≤ 255 := iv_ne_l t71 iy3 (il_ 0)
      have b24 : bN (ub_by a0 24) = 1 := bN_1 (fun q9 => c4 ((show ub_by a0 24 = y3 from by rw [ey3, ey2]; rfl).symm.trans q9))
      refine lv_iinc (v := 1) (lv' := [(1, .int 1), (2, .int 24), (0, .int a0)]) hx hb dX12_bytesIn_19 hl (k := 1) rfl (by decide) (by decide) rfl (fun ls hl => ?_)
      refine lv_iinc (v := 16) (lv' := [(2, .int 16), (1, .int 1), (0, .int a0)]) hx hb dX12_bytesIn_22 hl (k := 1) rfl (by decide) (by decide) rfl (fun ls hl => ?_)
      refine lv_goto (tgt := 5) hx hb dX12_bytesIn_25 (by decide) ?_
      refine lv_iload_n hx hb dX12_bytesIn_5 rfl (lv_at hl 0 rfl) ?_
      refine lv_if_lt (tgt := 28) hx hb dX12_bytesIn_6 (by decide) (fun c73 => ?_) (fun c73 => ?_)
      · --6 taken
        exact absurd c73 (by decide)
      · --6 not
        refine lv_iload_n hx hb dX12_bytesIn_9 rfl (lv_at hl 2 rfl) ?_
        refine lv_iload_n hx hb dX12_bytesIn_10 rfl (lv_at hl 0 rfl) ?_
        refine lv_iushr hx hb dX12_bytesIn_11 rfl ?_
        refine lv_topi (fun y74 ey74 => ?_)
        refine lv_sipush (v := 255) hx hb dX12_bytesIn_12 (by decide) ?_
        refine lv_iand hx hb dX12_bytesIn_15 ?_
        refine lv_topi (fun y75 ey75 => ?_)
        have iy75 : 0 ≤ y75.toInt ∧ y75.toInt ≤ 255 := ti_and (by decide) ey75
        refine lv_if_eq (tgt := 22) hx hb dX12_bytesIn_16 (by decide) (fun c76 => ?_) (fun c76 => ?_)
        · --16 taken
          have t77 : y75.toInt = 0 := ti_eq c76
          have i78 : 0 ≤ y75.toInt ∧ y75.toInt ≤ 0 := iv_eqi t77 iy75 (il_ 0) (by decide)
          have b16 : bN (ub_by a0 16) = 0 := bN_0 ((show ub_by a0 16 = y75 from by rw [ey75, ey74]; rfl).trans c76)
          refine lv_iinc (v := 8) (lv' := [(2, .int 8), (1, .int 1), (0, .int a0)]) hx hb dX12_bytesIn_22 hl (k := 0) rfl (by decide) (by decide) rfl (fun ls hl => ?_)
          refine lv_goto (tgt := 5) hx hb dX12_bytesIn_25 (by decide) ?_
          refine lv_iload_n hx hb dX12_bytesIn_5 rfl (lv_at hl 0 rfl) ?_
          refine lv_if_lt (tgt := 28) hx hb dX12_bytesIn_6 (by decide) (fun c79 => ?_) (fun c79 => ?_)
          · --6 taken
            exact absurd c79 (by decide)
          · --6 not
            refine lv_iload_n hx hb dX12_bytesIn_9 rfl (lv_at hl 2 rfl) ?_
            refine lv_iload_n hx hb dX12_bytesIn_10 rfl (lv_at hl 0 rfl) ?_
            refine lv_iushr hx hb dX12_bytesIn_11 rfl ?_
            refine lv_topi (fun y80 ey80 => ?_)
            refine lv_sipush (v := 255) hx hb dX12_bytesIn_12 (by decide) ?_
            refine lv_iand hx hb dX12_bytesIn_15 ?_
            refine lv_topi (fun y81 ey81 => ?_)
            have iy81 : 0 ≤ y81.toInt ∧ y81.toInt ≤ 255 := ti_and (by decide) ey81
            refine lv_if_eq (tgt := 22) hx hb dX12_bytesIn_16 (by decide) (fun c82 => ?_) (fun c82 => ?_)
            · --16 taken
              have t83 : y81.toInt = 0 := ti_eq c82
              have i84 : 0 ≤ y81.toInt ∧ y81.toInt ≤ 0 := iv_eqi t83 iy81 (il_ 0) (by decide)
              have b8 : bN (ub_by a0 8) = 0 := bN_0 ((show ub_by a0 8 = y81 from by rw [ey81, ey80]; rfl).trans c82)
              refine lv_iinc (v := 0) (lv' := [(2, .int 0), (1, .int 1), (0, .int a0)]) hx hb dX12_bytesIn_22 hl (k := 0) rfl (by decide) (by decide) rfl (fun ls hl => ?_)
              refine lv_goto (tgt := 5) hx hb dX12_bytesIn_25 (by decide) ?_
              refine lv_iload_n hx hb dX12_bytesIn_5 rfl (lv_at hl 0 rfl) ?_
              refine lv_if_lt (tgt := 28) hx hb dX12_bytesIn_6 (by decide) (fun c85 => ?_) (fun c85 => ?_)
              · --6 taken
                exact absurd c85 (by decide)
              · --6 not
                refine lv_iload_n hx hb dX12_bytesIn_9 rfl (lv_at hl 2 rfl) ?_
                refine lv_iload_n hx hb dX12_bytesIn_10 rfl (lv_at hl 0 rfl) ?_
                refine lv_iushr hx hb dX12_bytesIn_11 rfl ?_
                refine lv_topi (fun y86 ey86 => ?_)
                refine lv_sipush (v := 255) hx hb dX12_bytesIn_12 (by decide) ?_
                refine lv_iand hx hb dX12_bytesIn_15 ?_
                refine lv_topi (fun y87 ey87 => ?_)
                have iy87 : 0 ≤ y87.toInt ∧ y87.toInt ≤ 255 := ti_and (by decide) ey87
                refine lv_if_eq (tgt := 22) hx hb dX12_bytesIn_16 (by decide) (fun c88 => ?_) (fun c88 => ?_)
                · --16 taken
                  have t89 : y87.toInt = 0 := ti_eq c88
                  have i90 : 0 ≤ y87.toInt ∧ y87.toInt ≤ 0 := iv_eqi t89 iy87 (il_ 0) (by decide)
                  have b0 : bN (ub_by a0 0) = 0 := bN_0 ((show ub_by a0 0 = y87 from by rw [ey87, ey86]; rfl).trans c88)
                  refine lv_iinc (v := -8) (lv' := [(2, .int (-8)), (1, .int 1), (0, .int a0)]) hx hb dX12_bytesIn_22 hl (k := 0) rfl (by decide) (by decide) rfl (fun ls hl => ?_)
                  refine lv_goto (tgt := 5) hx hb dX12_bytesIn_25 (by decide) ?_
                  refine lv_iload_n hx hb dX12_bytesIn_5 rfl (lv_at hl 0 rfl) ?_
                  refine lv_if_lt (tgt := 28) hx hb dX12_bytesIn_6 (by decide) (fun c91 => ?_) (fun c91 => ?_)
                  · --6 taken
                    refine lv_iload_n hx hb dX12_bytesIn_28 rfl (lv_at hl 1 rfl) ?_
                    rw [hQ]
                    exact W.iret (v := 1) hx hb hr (fun t ht hW => ⟨⟨1, (), rfl, ⟨(iv_w ln_1 (by decide)), by have h9 := ln_1; omega⟩, trivial⟩, hS.F ht⟩) hS.2.2 dX12_bytesIn_29
                  · --6 not
                    exact absurd c91 (by decide)
                · --16 not
                  have t92 : ¬ y87.toInt = 0 := ti_ne c88
                  have i93 : 1 ≤ y87.toInt ∧ y87.toInt ≤ 255 := iv_ne_l t92 iy87 (il_ 0)
                  have b0 : bN (ub_by a0 0) = 1 := bN_1 (fun q9 => c88 ((show ub_by a0 0 = y87 from by rw [ey87, ey86]; rfl).symm.trans q9))
                  refine lv_iinc (v := 2) (lv' := [(1, .int 2), (2, .int 0), (0, .int a0)]) hx hb dX12_bytesIn_19 hl (k := 1) rfl (by decide) (by decide) rfl (fun ls hl => ?_)
                  refine lv_iinc (v := -8) (lv' := [(2, .int (-8)), (1, .int 2), (0, .int a0)]) hx hb dX12_bytesIn_22 hl (k := 1) rfl (by decide) (by decide) rfl (fun ls hl => ?_)
                  refine lv_goto (tgt := 5) hx hb dX12_bytesIn_25 (by decide) ?_
                  refine lv_iload_n hx hb dX12_bytesIn_5 rfl (lv_at hl 0 rfl) ?_
                  refine lv_if_lt (tgt := 28) hx hb dX12_bytesIn_6 (by decide) (fun c94 => ?_) (fun c94 => ?_)
                  · --6 taken
                    refine lv_iload_n hx hb dX12_bytesIn_28 rfl (lv_at hl 1 rfl) ?_
                    rw [hQ]
                    exact W.iret (v := 2) hx hb hr (fun t ht hW => ⟨⟨2, (), rfl, ⟨(iv_w ln_2 (by decide)), by have h9 := ln_2; omega⟩, trivial⟩, hS.F ht⟩) hS.2.2 dX12_bytesIn_29
                  · --6 not
                    exact absurd c94 (by decide)
            · --16 not
              have t95 : ¬ y81.toInt = 0 := ti_ne c82
              have i96 : 1 ≤ y81.toInt ∧ y81.toInt ≤ 255 := iv_ne_l t95 iy81 (il_ 0)
              have b8 : bN (ub_by a0 8) = 1 := bN_1 (fun q9 => c82 ((show ub_by a0 8 = y81 from by rw [ey81, ey80]; rfl).symm.trans q9))
              refine lv_iinc (v := 2) (lv' := [(1, .int 2), (2, .int 8), (0, .int a0)]) hx hb dX12_bytesIn_19 hl (k := 1) rfl (by decide) (by decide) rfl (fun ls hl => ?_)
              refine lv_iinc (v := 0) (lv' := [(2, .int 0), (1, .int 2), (0, .int a0)]) hx hb dX12_bytesIn_22 hl (k := 1) rfl (by decide) (by decide) rfl (fun ls hl => ?_)
              refine lv_goto (tgt := 5) hx hb dX12_bytesIn_25 (by decide) ?_
              refine lv_iload_n hx hb dX12_bytesIn_5 rfl (lv_at hl 0 rfl) ?_
              refine lv_if_lt (tgt := 28) hx hb dX12_bytesIn_6 (by decide) (fun c97 => ?_) (fun c97 => ?_)
              · --6 taken
                exact absurd c97 (by decide)
              · --6 not
                refine lv_iload_n hx hb dX12_bytesIn_9 rfl (lv_at hl 2 rfl) ?_
                refine lv_iload_n hx hb dX12_bytesIn_10 rfl (lv_at hl 0 rfl) ?_
                refine lv_iushr hx hb dX12_bytesIn_11 rfl ?_
                refine lv_topi (fun y98 ey98 => ?_)
                refine lv_sipush (v := 255) hx hb dX12_bytesIn_12 (by decide) ?_
                refine lv_iand hx hb dX12_bytesIn_15 ?_
                refine lv_topi (fun y99 ey99 => ?_)
                have iy99 : 0 ≤ y99.toInt ∧ y99.toInt ≤ 255 := ti_and (by decide) ey99
                refine lv_if_eq (tgt := 22) hx hb dX12_bytesIn_16 (by decide) (fun c100 => ?_) (fun c100 => ?_)
                · --16 taken
                  have t101 : y99.toInt = 0 := ti_eq c100
                  have i102 : 0 ≤ y99.toInt ∧ y99.toInt ≤ 0 := iv_eqi t101 iy99 (il_ 0) (by decide)
                  have b0 : bN (ub_by a0 0) = 0 := bN_0 ((show ub_by a0 0 = y99 from by rw [ey99, ey98]; rfl).trans c100)
                  refine lv_iinc (v := -8) (lv' := [(2, .int (-8)), (1, .int 2), (0, .int a0)]) hx hb dX12_bytesIn_22 hl (k := 0) rfl (by decide) (by decide) rfl (fun ls hl => ?_)
                  refine lv_goto (tgt := 5) hx hb dX12_bytesIn_25 (by decide) ?_
                  refine lv_iload_n hx hb dX12_bytesIn_5 rfl (lv_at hl 0 rfl) ?_
                  refine lv_if_lt (tgt := 28) hx hb dX12_bytesIn_6 (by decide) (fun c103 => ?_) (fun c103 => ?_)
                  · --6 taken
                    refine lv_iload_n hx hb dX12_bytesIn_28 rfl (lv_at hl 1 rfl) ?_
                    rw [hQ]
                    exact W.iret (v := 2) hx hb hr (fun t ht hW => ⟨⟨2, (), rfl, ⟨(iv_w ln_2 (by decide)), by have h9 := ln_2; omega⟩, trivial⟩, hS.F ht⟩) hS.2.2 dX12_bytesIn_29
                  · --6 not
                    exact absurd c103 (by decide)
                · --16 not
                  have t104 : ¬ y99.toInt = 0 := ti_ne c100
                  have i105 : 1 ≤ y99.toInt ∧ y99.toInt ≤ 255 := iv_ne_l t104 iy99 (il_ 0)
                  have b0 : bN (ub_by a0 0) = 1 := bN_1 (fun q9 => c100 ((show ub_by a0 0 = y99 from by rw [ey99, ey98]; rfl).symm.trans q9))
                  refine lv_iinc (v := 3) (lv' := [(1, .int 3), (2, .int 0), (0, .int a0)]) hx hb dX12_bytesIn_19 hl (k := 1) rfl (by decide) (by decide) rfl (fun ls hl => ?_)
                  refine lv_iinc (v := -8) (lv' := [(2, .int (-8)), (1, .int 3), (0, .int a0)]) hx hb dX12_bytesIn_22 hl (k := 1) rfl (by decide) (by decide) rfl (fun ls hl => ?_)
                  refine lv_goto (tgt := 5) hx hb dX12_bytesIn_25 (by decide) ?_
                  refine lv_iload_n hx hb dX12_bytesIn_5 rfl (lv_at hl 0 rfl) ?_
                  refine lv_if_lt (tgt := 28) hx hb dX12_bytesIn_6 (by decide) (fun c106 => ?_) (fun c106 => ?_)
                  · --6 taken
                    refine lv_iload_n hx hb dX12_bytesIn_28 rfl (lv_at hl 1 rfl) ?_
                    rw [hQ]
                    exact W.iret (v := 3) hx hb hr (fun t ht hW => ⟨⟨3, (), rfl, ⟨(iv_w ln_3 (by decide)), by have h9 := ln_3; omega⟩, trivial⟩, hS.F ht⟩) hS.2.2 dX12_bytesIn_29
                  · --6 not
                    exact absurd c106 (by decide)
        · --16 not
          have t107 : ¬ y75.toInt = 0 := ti_ne c76
          have i108 : 1 ≤ y75.toInt ∧ y75.toInt ≤ 255 := iv_ne_l t107 iy75 (il_ 0)
          have b16 : bN (ub_by a0 16) = 1 := bN_1 (fun q9 => c76 ((show ub_by a0 16 = y75 from by rw [ey75, ey74]; rfl).symm.trans q9))
          refine lv_iinc (v := 2) (lv' := [(1, .int 2), (2, .int 16), (0, .int a0)]) hx hb dX12_bytesIn_19 hl (k := 1) rfl (by decide) (by decide) rfl (fun ls hl => ?_)
          refine lv_iinc (v := 8) (lv' := [(2, .int 8), (1, .int 2), (0, .int a0)]) hx hb dX12_bytesIn_22 hl (k := 1) rfl (by decide) (by decide) rfl (fun ls hl => ?_)
          refine lv_goto (tgt := 5) hx hb dX12_bytesIn_25 (by decide) ?_
          refine lv_iload_n hx hb dX12_bytesIn_5 rfl (lv_at hl 0 rfl) ?_
          refine lv_if_lt (tgt := 28) hx hb dX12_bytesIn_6 (by decide) (fun c109 => ?_) (fun c109 => ?_)
          · --6 taken
            exact absurd c109 (by decide)
          · --6 not
            refine lv_iload_n hx hb dX12_bytesIn_9 rfl (lv_at hl 2 rfl) ?_
            refine lv_iload_n hx hb dX12_bytesIn_10 rfl (lv_at hl 0 rfl) ?_
            refine lv_iushr hx hb dX12_bytesIn_11 rfl ?_
            refine lv_topi (fun y110 ey110 => ?_)
            refine lv_sipush (v := 255) hx hb dX12_bytesIn_12 (by decide) ?_
            refine lv_iand hx hb dX12_bytesIn_15 ?_
            refine lv_topi (fun y111 ey111 => ?_)
            have iy111 : 0 ≤ y111.toInt ∧ y111.toInt ≤ 255 := ti_and (by decide) ey111
            refine lv_if_eq (tgt := 22) hx hb dX12_bytesIn_16 (by decide) (fun c112 => ?_) (fun c112 => ?_)
            · --16 taken
              have t113 : y111.toInt = 0 := ti_eq c112
              have i114 : 0 ≤ y111.toInt ∧ y111.toInt ≤ 0 := iv_eqi t113 iy111 (il_ 0) (by decide)
              have b8 : bN (ub_by a0 8) = 0 := bN_0 ((show ub_by a0 8 = y111 from by rw [ey111, ey110]; rfl).trans c112)
              refine lv_iinc (v := 0) (lv' := [(2, .int 0), (1, .int 2), (0, .int a0)]) hx hb dX12_bytesIn_22 hl (k := 0) rfl (by decide) (by decide) rfl (fun ls hl => ?_)
              refine lv_goto (tgt := 5) hx hb dX12_bytesIn_25 (by decide) ?_
              refine lv_iload_n hx hb dX12_bytesIn_5 rfl (lv_at hl 0 rfl) ?_
              refine lv_if_lt (tgt := 28) hx hb dX12_bytesIn_6 (by decide) (fun c115 => ?_) (fun c115 => ?_)
              · --6 taken
                exact absurd c115 (by decide)
              · --6 not
                refine lv_iload_n hx hb dX12_bytesIn_9 rfl (lv_at hl 2 rfl) ?_
                refine lv_iload_n hx hb dX12_bytesIn_10 rfl (lv_at hl 0 rfl) ?_
                refine lv_iushr hx hb dX12_bytesIn_11 rfl ?_
                refine lv_topi (fun y116 ey116 => ?_)
                refine lv_sipush (v := 255) hx hb dX12_bytesIn_12 (by decide) ?_
                refine lv_iand hx hb dX12_bytesIn_15 ?_
                refine lv_topi (fun y117 ey117 => ?_)
                have iy117 : 0 ≤ y117.toInt ∧ y117.toInt ≤ 255 := ti_and (by decide) ey117
                refine lv_if_eq (tgt := 22) hx hb dX12_bytesIn_16 (by decide) (fun c118 => ?_) (fun c118 => ?_)
                · --16 taken
                  have t119 : y117.toInt = 0 := ti_eq c118
                  have i120 : 0 ≤ y117.toInt ∧ y117.toInt ≤ 0 := iv_eqi t119 iy117 (il_ 0) (by decide)
                  have b0 : bN (ub_by a0 0) = 0 := bN_0 ((show ub_by a0 0 = y117 from by rw [ey117, ey116]; rfl).trans c118)
                  refine lv_iinc (v := -8) (lv' := [(2, .int (-8)), (1, .int 2), (0, .int a0)]) hx hb dX12_bytesIn_22 hl (k := 0) rfl (by decide) (by decide) rfl (fun ls hl => ?_)
                  refine lv_goto (tgt := 5) hx hb dX12_bytesIn_25 (by decide) ?_
                  refine lv_iload_n hx hb dX12_bytesIn_5 rfl (lv_at hl 0 rfl) ?_
                  refine lv_if_lt (tgt := 28) hx hb dX12_bytesIn_6 (by decide) (fun c121 => ?_) (fun c121 => ?_)
                  · --6 taken
                    refine lv_iload_n hx hb dX12_bytesIn_28 rfl (lv_at hl 1 rfl) ?_
                    rw [hQ]
                    exact W.iret (v := 2) hx hb hr (fun t ht hW => ⟨⟨2, (), rfl, ⟨(iv_w ln_2 (by decide)), by have h9 := ln_2; omega⟩, trivial⟩, hS.F ht⟩) hS.2.2 dX12_bytesIn_29
                  · --6 not
                    exact absurd c121 (by decide)
                · --16 not
                  have t122 : ¬ y117.toInt = 0 := ti_ne c118
                  have i123 : 1 ≤ y117.toInt ∧ y117.toInt ≤ 255 := iv_ne_l t122 iy117 (il_ 0)
                  have b0 : bN (ub_by a0 0) = 1 := bN_1 (fun q9 => c118 ((show ub_by a0 0 = y117 from by rw [ey117, ey116]; rfl).symm.trans q9))
                  refine lv_iinc (v := 3) (lv' := [(1, .int 3), (2, .int 0), (0, .int a0)]) hx hb dX12_bytesIn_19 hl (k := 1) rfl (by decide) (by decide) rfl (fun ls hl => ?_)
                  refine lv_iinc (v := -8) (lv' := [(2, .int (-8)), (1, .int 3), (0, .int a0)]) hx hb dX12_bytesIn_22 hl (k := 1) rfl (by decide) (by decide) rfl (fun ls hl => ?_)
                  refine lv_goto (tgt := 5) hx hb dX12_bytesIn_25 (by decide) ?_
                  refine lv_iload_n hx hb dX12_bytesIn_5 rfl (lv_at hl 0 rfl) ?_
                  refine lv_if_lt (tgt := 28) hx hb dX12_bytesIn_6 (by decide) (fun c124 => ?_) (fun c124 => ?_)
                  · --6 taken
                    refine lv_iload_n hx hb dX12_bytesIn_28 rfl (lv_at hl 1 rfl) ?_
                    rw [hQ]
                    exact W.iret (v := 3) hx hb hr (fun t ht hW => ⟨⟨3, (), rfl, ⟨(iv_w ln_3 (by decide)), by have h9 := ln_3; omega⟩, trivial⟩, hS.F ht⟩) hS.2.2 dX12_bytesIn_29
                  · --6 not
                    exact absurd c124 (by decide)
            · --16 not
              have t125 : ¬ y111.toInt = 0 := ti_ne c112
              have i126 : 1 ≤ y111.toInt ∧ y111.toInt ≤ 255 := iv_ne_l t125 iy111 (il_ 0)
              have b8 : bN (ub_by a0 8) = 1 := bN_1 (fun q9 => c112 ((show ub_by a0 8 = y111 from by rw [ey111, ey110]; rfl).symm.trans q9))
              refine lv_iinc (v := 3) (lv' := [(1, .int 3), (2, .int 8), (0, .int a0)]) hx hb dX12_bytesIn_19 hl (k := 1) rfl (by decide) (by decide) rfl (fun ls hl => ?_)
              refine lv_iinc (v := 0) (lv' := [(2, .int 0), (1, .int 3), (0, .int a0)]) hx hb dX12_bytesIn_22 hl (k := 1) rfl (by decide) (by decide) rfl (fun ls hl => ?_)
              refine lv_goto (tgt := 5) hx hb dX12_bytesIn_25 (by decide) ?_
              refine lv_iload_n hx hb dX12_bytesIn_5 rfl (lv_at hl 0 rfl) ?_
              refine lv_if_lt (tgt := 28) hx hb dX12_bytesIn_6 (by decide) (fun c127 => ?_) (fun c127 => ?_)
              · --6 taken
                exact absurd c127 (by decide)
              · --6 not
                refine lv_iload_n hx hb dX12_bytesIn_9 rfl (lv_at hl 2 rfl) ?_
                refine lv_iload_n hx hb dX12_bytesIn_10 rfl (lv_at hl 0 rfl) ?_
                refine lv_iushr hx hb dX12_bytesIn_11 rfl ?_
                refine lv_topi (fun y128 ey128 => ?_)
                refine lv_sipush (v := 255) hx hb dX12_bytesIn_12 (by decide) ?_
                refine lv_iand hx hb dX12_bytesIn_15 ?_
                refine lv_topi (fun y129 ey129 => ?_)
                have iy129 : 0 ≤ y129.toInt ∧ y129.toInt ≤ 255 := ti_and (by decide) ey129
                refine lv_if_eq (tgt := 22) hx hb dX12_bytesIn_16 (by decide) (fun c130 => ?_) (fun c130 => ?_)
                · --16 taken
                  have t131 : y129.toInt = 0 := ti_eq c130
                  have i132 : 0 ≤ y129.toInt ∧ y129.toInt ≤ 0 := iv_eqi t131 iy129 (il_ 0) (by decide)
                  have b0 : bN (ub_by a0 0) = 0 := bN_0 ((show ub_by a0 0 = y129 from by rw [ey129, ey128]; rfl).trans c130)
                  refine lv_iinc (v := -8) (lv' := [(2, .int (-8)), (1, .int 3), (0, .int a0)]) hx hb dX12_bytesIn_22 hl (k := 0) rfl (by decide) (by decide) rfl (fun ls hl => ?_)
                  refine lv_goto (tgt := 5) hx hb dX12_bytesIn_25 (by decide) ?_
                  refine lv_iload_n hx hb dX12_bytesIn_5 rfl (lv_at hl 0 rfl) ?_
                  refine lv_if_lt (tgt := 28) hx hb dX12_bytesIn_6 (by decide) (fun c133 => ?_) (fun c133 => ?_)
                  · --6 taken
                    refine lv_iload_n hx hb dX12_bytesIn_28 rfl (lv_at hl 1 rfl) ?_
                    rw [hQ]
                    exact W.iret (v := 3) hx hb hr (fun t ht hW => ⟨⟨3, (), rfl, ⟨(iv_w ln_3 (by decide)), by have h9 := ln_3; omega⟩, trivial⟩, hS.F ht⟩) hS.2.2 dX12_bytesIn_29
                  · --6 not
                    exact absurd c133 (by decide)
                · --16 not
                  have t134 : ¬ y129.toInt = 0 := ti_ne c130
                  have i135 : 1 ≤ y129.toInt ∧ y129.toInt ≤ 255 := iv_ne_l t134 iy129 (il_ 0)
                  have b0 : bN (ub_by a0 0) = 1 := bN_1 (fun q9 => c130 ((show ub_by a0 0 = y129 from by rw [ey129, ey128]; rfl).symm.trans q9))
                  refine lv_iinc (v := 4) (lv' := [(1, .int 4), (2, .int 0), (0, .int a0)]) hx hb dX12_bytesIn_19 hl (k := 1) rfl (by decide) (by decide) rfl (fun ls hl => ?_)
                  refine lv_iinc (v := -8) (lv' := [(2, .int (-8)), (1, .int 4), (0, .int a0)]) hx hb dX12_bytesIn_22 hl (k := 1) rfl (by decide) (by decide) rfl (fun ls hl => ?_)
                  refine lv_goto (tgt := 5) hx hb dX12_bytesIn_25 (by decide) ?_
                  refine lv_iload_n hx hb dX12_bytesIn_5 rfl (lv_at hl 0 rfl) ?_
                  refine lv_if_lt (tgt := 28) hx hb dX12_bytesIn_6 (by decide) (fun c136 => ?_) (fun c136 => ?_)
                  · --6 taken
                    refine lv_iload_n hx hb dX12_bytesIn_28 rfl (lv_at hl 1 rfl) ?_
                    rw [hQ]
                    exact W.iret (v := 4) hx hb hr (fun t ht hW => ⟨⟨4, (), rfl, ⟨(iv_w ln_4 (by decide)), by have h9 := ln_4; omega⟩, trivial⟩, hS.F ht⟩) hS.2.2 dX12_bytesIn_29
                  · --6 not
                    exact absurd c136 (by decide)
def v_putX : List Cond := .code yX10_put cX10_put 4 none :: vA
abbrev rm_putX : Room := { frames := 0, cells := 0, slots := 0, locals := 0 }
def w_putX : Nat → Nat → Bool := wl [21] [(2, 1)]
set_option maxHeartbeats 4000000 in
set_option maxRecDepth 100000 in
theorem q_putX (l : Launch) (dC : Nat → ClassId) (dI : Nat → Nat → Nat) (cT : Nat → ClassId) (cf : Nat → Nat) (hC : CF cf) (ad : Nat → Nat) (E : Nat → va_E) (sz : Nat) (a0 : Int32) (hI0 : IXL cT (shC cf) (spC cf) (LC cf) ad E) (hh0 : (xi (E 2) 1).toInt + (nbN a0 : Int) ≤ 200) : Met l yX10_put v_putX rm_putX (va_Pc [.ref (ad 2), .int a0] (HWL dC dI (TYC cT) cf ad E sz)) (va_Qv (S := Nat → va_E) (fun u => IXL cT (shC cf) (spC cf) (LC cf) ad u ∧ Kp w_putX E u ∧ (((xi (u 2) 1).toInt = (xi (E 2) 1).toInt + (nbN a0 : Int)) ∧ (FedC (bys a0) E u))) (HBL dC dI (LC cf) ad) (va_A (WL (LC cf) ad E) sz)) 0 0 (va_A (WL (LC cf) ad E) sz) := by
  obtain ⟨⟨hc0, hc1, hc2, hc3, hc4, hc5⟩, hcr⟩ := id hC
  refine Met.ofW (cc := cX10_put) (maxL := 4) (ret := none) (by decide) rfl ?_
  intro p e s m args below meth c s₁ B hml hv
  obtain ⟨hargs, hsz, hP, hK, hD0, hEV⟩ := hv
  subst hsz
  have hx := B.exec
  have hb := B.bytes
  have hr := B.returns
  have hts := atoms_spec (ws := v_putX) B.pre
  have hown : s.vm.findClass RX10 = some m.cls := findClass_of_methodNamed B.named
  have hlocks := B.notSynchronized
  have hinX10 : ∀ w ∈ u_ws RX10 TX10 10, w ∈ v_putX := fun w h => vA_in _ w (in_X10 w h)
  generalize hAe : va_A (WL (LC cf) ad E) s.heap.size = A at hEV ⊢
  have hA : ∀ q : Nat, s.heap.size ≤ q → A q := fun q h => by rw [← hAe]; exact Or.inr h
  have hD : va_D A (WL (LC cf) ad E) := by rw [← hAe]; exact hD0.self
  have hS : va_S A s.heap s.heap [] := va_S.rf
  have hI := hI0
  have hKp : Kp w_putX E E := Kp.rf
  have hl := lv_entry ([.ref (ad 2), .int a0]) (n := 4) (Nat.le_of_ble_eq_true rfl)
  obtain ⟨Q, hQ⟩ : ∃ Q, Q = MQ below (va_Qv (S := Nat → va_E) (fun u => IXL cT (shC cf) (spC cf) (LC cf) ad u ∧ Kp w_putX E u ∧ (((xi (u 2) 1).toInt = (xi (E 2) 1).toInt + (nbN a0 : Int)) ∧ (FedC (bys a0) E u))) (HBL dC dI (LC cf) ad) (A)) args s 0 0 (A) := ⟨_, rfl⟩
  rw [← hQ, show entryFrame m args 4 = _ from (congrArg (fun z => entryFrame m z 4) hargs).trans (lg_entry_eq _ _ _)]
  generalize (lg_sl ([.ref (ad 2), .int a0]) ++ List.replicate (4 - (lg_sl ([.ref (ad 2), .int a0])).length) Slot.unset).toArray = ls at hl ⊢
  have hl : lv_has ls 4 [(0, .ref (ad 2)), (1, .int a0)] := hl
  have hnb : nbN a0 = bN (ub_by a0 24) + bN (ub_by a0 16) + bN (ub_by a0 8) + bN (ub_by a0 0) := rfl
  have hb24 := bN_le (ub_by a0 24)
  have hb16 := bN_le (ub_by a0 16)
  have hb8 := bN_le (ub_by a0 8)
  have hb0 := bN_le (ub_by a0 0)
  obtain ⟨y1, ey1⟩ : ∃ y, xi (E 2) 1 = y := ⟨_, rfl⟩
  have fy1 : xv (E 2) 1 = .int y1 := (hI.fi 2 (mF 2 rfl) rfl (Nat.le_of_ble_eq_true rfl) rfl).trans (congrArg Value.int ey1)
  have i2 : 0 ≤ y1.toInt ∧ y1.toInt ≤ 200 := by rw [← ey1]; exact hI.iv 2 (mF 2 rfl) rfl (Nat.le_of_ble_eq_true rfl) rfl
  rw [ey1] at hh0
  refine lv_bipush (v := 24) hx hb dX10_put_0 (by decide) ?_
  refine lv_istore_n (lv' := [(2, .int 24), (0, .ref (ad 2)), (1, .int a0)]) hx hb dX10_put_2 rfl hl (by decide) rfl (fun ls hl => ?_)
  refine lv_iload_n hx hb dX10_put_3 rfl (lv_at hl 0 rfl) ?_
  refine lv_if_lt (tgt := 57) hx hb dX10_put_4 (by decide) (fun c3 => ?_) (fun c3 => ?_)
  · --4 taken
    exact absurd c3 (by decide)
  · --4 not
    refine lv_iload_n hx hb dX10_put_7 rfl (lv_at hl 2 rfl) ?_
    refine lv_iload_n hx hb dX10_put_8 rfl (lv_at hl 0 rfl) ?_
    refine lv_iushr hx hb dX10_put_9 rfl ?_
    refine lv_topi (fun y4 ey4 => ?_)
    refine lv_sipush (v := 255) hx hb dX10_put_10 (by decide) ?_
    refine lv_iand hx hb dX10_put_13 ?_
    refine lv_topi (fun y5 ey5 => ?_)
    have iy5 : 0 ≤ y5.toInt ∧ y5.toInt ≤ 255 := ti_and (by decide) ey5
    refine lv_istore_n (lv' := [(3, .int y5), (2, .int 24), (0, .ref (ad 2)), (1, .int a0)]) hx hb dX10_put_14 rfl hl (by decide) rfl (fun ls hl => ?_)
    refine lv_iload_n hx hb dX10_put_15 rfl (lv_at hl 0 rfl) ?_
    refine lv_if_eq (tgt := 51) hx hb dX10_put_16 (by decide) (fun c6 => ?_) (fun c6 => ?_)
    · --16 taken
      have t7 : y5.toInt = 0 := ti_eq c6
      have i8 : 0 ≤ y5.toInt ∧ y5.toInt ≤ 0 := iv_eqi t7 iy5 (il_ 0) (by decide)
      have b24 : bN (ub_by a0 24) = 0 := bN_0 ((show ub_by a0 24 = y5 from by rw [ey5, ey4]; rfl).trans c6)
      have k9 : bysP a0 1 = bysP a0 0 := bysP_0 (k := 0) (show ub_by a0 24 = y5 from by rw [ey5, ey4]; rfl) c6
      refine lv_iinc (v := 16) (lv' := [(2, .int 16), (3, .int y5), (0, .ref (ad 2)), (1, .int a0)]) hx hb dX10_put_51 hl (k := 1) rfl (by decide) (by decide) rfl (fun ls hl => ?_)
      refine lv_goto (tgt := 3) hx hb dX10_put_54 (by decide) ?_
      refine lv_iload_n hx hb dX10_put_3 rfl (lv_at hl 0 rfl) ?_
      refine lv_if_lt (tgt := 57) hx hb dX10_put_4 (by decide) (fun c10 => ?_) (fun c10 => ?_)
      · --4 taken
        exact absurd c10 (by decide)
      · --4 not
        refine lv_iload_n hx hb dX10_put_7 rfl (lv_at hl 3 rfl) ?_
        refine lv_iload_n hx hb dX10_put_8 rfl (lv_at hl 0 rfl) ?_
        refine lv_iushr hx hb dX10_put_9 rfl ?_
        refine lv_topi (fun y11 ey11 => ?_)
        refine lv_sipush (v := 255) hx hb dX10_put_10 (by decide) ?_
        refine lv_iand hx hb dX10_put_13 ?_
        refine lv_topi (fun y12 ey12 => ?_)
        have iy12 : 0 ≤ y12.toInt ∧ y12.toInt ≤ 255 := ti_and (by decide) ey12
        refine lv_istore_n (lv' := [(3, .int y12), (2, .int 16), (0, .ref (ad 2)), (1, .int a0)]) hx hb dX10_put_14 rfl hl (by decide) rfl (fun ls hl => ?_)
        refine lv_iload_n hx hb dX10_put_15 rfl (lv_at hl 0 rfl) ?_
        refine lv_if_eq (tgt := 51) hx hb dX10_put_16 (by decide) (fun c13 => ?_) (fun c13 => ?_)
        · --16 taken
          have t14 : y12.toInt = 0 := ti_eq c13
          have i15 : 0 ≤ y12.toInt ∧ y12.toInt ≤ 0 := iv_eqi t14 iy12 (il_ 0) (by decide)
          have b16 : bN (ub_by a0 16) = 0 := bN_0 ((show ub_by a0 16 = y12 from by rw [ey12, ey11]; rfl).trans c13)
          have k16 : bysP a0 2 = bysP a0 1 := bysP_0 (k := 1) (show ub_by a0 16 = y12 from by rw [ey12, ey11]; rfl) c13
          refine lv_iinc (v := 8) (lv' := [(2, .int 8), (3, .int y12), (0, .ref (ad 2)), (1, .int a0)]) hx hb dX10_put_51 hl (k := 1) rfl (by decide) (by decide) rfl (fun ls hl => ?_)
          refine lv_goto (tgt := 3) hx hb dX10_put_54 (by decide) ?_
          refine lv_iload_n hx hb dX10_put_3 rfl (lv_at hl 0 rfl) ?_
          refine lv_if_lt (tgt := 57) hx hb dX10_put_4 (by decide) (fun c17 => ?_) (fun c17 => ?_)
          · --4 taken
            exact absurd c17 (by decide)
          · --4 not
            refine lv_iload_n hx hb dX10_put_7 rfl (lv_at hl 3 rfl) ?_
            refine lv_iload_n hx hb dX10_put_8 rfl (lv_at hl 0 rfl) ?_
            refine lv_iushr hx hb dX10_put_9 rfl ?_
            refine lv_topi (fun y18 ey18 => ?_)
            refine lv_sipush (v := 255) hx hb dX10_put_10 (by decide) ?_
            refine lv_iand hx hb dX10_put_13 ?_
            refine lv_topi (fun y19 ey19 => ?_)
            have iy19 : 0 ≤ y19.toInt ∧ y19.toInt ≤ 255 := ti_and (by decide) ey19
            refine lv_istore_n (lv' := [(3, .int y19), (2, .int 8), (0, .ref (ad 2)), (1, .int a0)]) hx hb dX10_put_14 rfl hl (by decide) rfl (fun ls hl => ?_)
            refine lv_iload_n hx hb dX10_put_15 rfl (lv_at hl 0 rfl) ?_
            refine lv_if_eq (tgt := 51) hx hb dX10_put_16 (by decide) (fun c20 => ?_) (fun c20 => ?_)
            · --16 taken
              have t21 : y19.toInt = 0 := ti_eq c20
              have i22 : 0 ≤ y19.toInt ∧ y19.toInt ≤ 0 := iv_eqi t21 iy19 (il_ 0) (by decide)
              have b8 : bN (ub_by a0 8) = 0 := bN_0 ((show ub_by a0 8 = y19 from by rw [ey19, ey18]; rfl).trans c20)
              have k23 : bysP a0 3 = bysP a0 2 := bysP_0 (k := 2) (show ub_by a0 8 = y19 from by rw [ey19, ey18]; rfl) c20
              refine lv_iinc (v := 0) (lv' := [(2, .int 0), (3, .int y19), (0, .ref (ad 2)), (1, .int a0)]) hx hb dX10_put_51 hl (k := 1) rfl (by decide) (by decide) rfl (fun ls hl => ?_)
              refine lv_goto (tgt := 3) hx hb dX10_put_54 (by decide) ?_
              refine lv_iload_n hx hb dX10_put_3 rfl (lv_at hl 0 rfl) ?_
              refine lv_if_lt (tgt := 57) hx hb dX10_put_4 (by decide) (fun c24 => ?_) (fun c24 => ?_)
              · --4 taken
                exact absurd c24 (by decide)
              · --4 not
                refine lv_iload_n hx hb dX10_put_7 rfl (lv_at hl 3 rfl) ?_
                refine lv_iload_n hx hb dX10_put_8 rfl (lv_at hl 0 rfl) ?_
                refine lv_iushr hx hb dX10_put_9 rfl ?_
                refine lv_topi (fun y25 ey25 => ?_)
                refine lv_sipush (v := 255) hx hb dX10_put_10 (by decide) ?_
                refine lv_iand hx hb dX10_put_13 ?_
                refine lv_topi (fun y26 ey26 => ?_)
                have iy26 : 0 ≤ y26.toInt ∧ y26.toInt ≤ 255 := ti_and (by decide) ey26
                refine lv_istore_n (lv' := [(3, .int y26), (2, .int 0), (0, .ref (ad 2)), (1, .int a0)]) hx hb dX10_put_14 rfl hl (by decide) rfl (fun ls hl => ?_)
                refine lv_iload_n hx hb dX10_put_15 rfl (lv_at hl 0 rfl) ?_
                refine lv_if_eq (tgt := 51) hx hb dX10_put_16 (by decide) (fun c27 => ?_) (fun c27 => ?_)
                · --16 taken
                  have t28 : y26.toInt = 0 := ti_eq c27
                  have i29 : 0 ≤ y26.toInt ∧ y26.toInt ≤ 0 := iv_eqi t28 iy26 (il_ 0) (by decide)
                  have b0 : bN (ub_by a0 0) = 0 := bN_0 ((show ub_by a0 0 = y26 from by rw [ey26, ey25]; rfl).trans c27)
                  have k30 : bysP a0 4 = bysP a0 3 := bysP_0 (k := 3) (show ub_by a0 0 = y26 from by rw [ey26, ey25]; rfl) c27
                  refine lv_iinc (v := -8) (lv' := [(2, .int (-8)), (3, .int y26), (0, .ref (ad 2)), (1, .int a0)]) hx hb dX10_put_51 hl (k := 1) rfl (by decide) (by decide) rfl (fun ls hl => ?_)
                  refine lv_goto (tgt := 3) hx hb dX10_put_54 (by decide) ?_
                  refine lv_iload_n hx hb dX10_put_3 rfl (lv_at hl 0 rfl) ?_
                  refine lv_if_lt (tgt := 57) hx hb dX10_put_4 (by decide) (fun c31 => ?_) (fun c31 => ?_)
                  · --4 taken
                    rw [hQ]
                    exact W.vret hx hb hr (fun t ht hW => ⟨⟨E, rfl, ⟨hI, hKp, ⟨by (try rw [(show xi (E 2) 1 = y1 from vi_e fy1)]); (try rw [ey1]); all_goals omega, by show FedC (bysP a0 4) _ _; rw [k30, k23, k16, k9]; exact Fed.rf⟩⟩, by show va_P (dC, dI) vwCl (WL (LC cf) ad E) t.heap; rw [ht]; exact hP⟩, hS.F ht⟩) hS.2.2 dX10_put_57
                  · --4 not
                    exact absurd c31 (by decide)
                · --16 not
                  have t32 : ¬ y26.toInt = 0 := ti_ne c27
                  have i33 : 1 ≤ y26.toInt ∧ y26.toInt ≤ 255 := iv_ne_l t32 iy26 (il_ 0)
                  have b0 : bN (ub_by a0 0) = 1 := bN_1 (fun q9 => c27 ((show ub_by a0 0 = y26 from by rw [ey26, ey25]; rfl).symm.trans q9))
                  refine lv_aload_n hx hb dX10_put_19 rfl (lv_at hl 2 rfl) ?_
                  refine th_getL (ci := 11) (C := RX10) (T := TX10) (N := 10) (v := .int y1) hx hb hts hinX10 hown hK hP hI 2 (mF 2 rfl) rfl rfl 1 (Nat.le_of_ble_eq_true rfl) (hts _ (vA_in _ _ (in_8 _ (zs16 (zs4 (zs0)))))) (fun _ h9 => h9) fy1 dX10_put_20 ?_
                  refine lv_aload_n hx hb dX10_put_23 rfl (lv_at hl 2 rfl) ?_
                  refine th_getL (ci := 11) (C := RX10) (T := TX10) (N := 10) (v := .ref (ad 21)) hx hb hts hinX10 hown hK hP hI 2 (mF 2 rfl) rfl rfl 0 (Nat.le_of_ble_eq_true rfl) (hts _ (vA_in _ _ (in_8 _ (zs16 (zs1 (zs0)))))) (fun _ h9 => h9) (hI.fr 2 (mF 2 rfl) rfl (Nat.le_of_ble_eq_true rfl) 21 rfl) dX10_put_24 ?_
                  refine va_alen (v := 200) hx hb hK hP (posL 21 (LC cf)) 0 (hI.ar 21 (mF 21 rfl) rfl) rfl rfl dX10_put_27 ?_
                  refine lv_icmp_ge (tgt := 51) hx hb dX10_put_28 (by decide) (fun c34 => ?_) (fun c34 => ?_)
                  · --28 taken
                    have t35 : (200 : Int) ≤ y1.toInt := ti_le c34
                    have i36 : 200 ≤ y1.toInt ∧ y1.toInt ≤ 200 := iv_le_r t35 (il_ 200) i2 (by decide)
                    exfalso
                    omega
                  · --28 not
                    have t37 : y1.toInt < 200 := ti_nle c34
                    have i38 : 0 ≤ y1.toInt ∧ y1.toInt ≤ 199 := iv_lt_l t37 i2 (il_ 200) (by decide)
                    refine lv_aload_n hx hb dX10_put_31 rfl (lv_at hl 2 rfl) ?_
                    refine th_getL (ci := 11) (C := RX10) (T := TX10) (N := 10) (v := .ref (ad 21)) hx hb hts hinX10 hown hK hP hI 2 (mF 2 rfl) rfl rfl 0 (Nat.le_of_ble_eq_true rfl) (hts _ (vA_in _ _ (in_8 _ (zs16 (zs1 (zs0)))))) (fun _ h9 => h9) (hI.fr 2 (mF 2 rfl) rfl (Nat.le_of_ble_eq_true rfl) 21 rfl) dX10_put_32 ?_
                    refine lv_aload_n hx hb dX10_put_35 rfl (lv_at hl 2 rfl) ?_
                    refine th_getL (ci := 11) (C := RX10) (T := TX10) (N := 10) (v := .int y1) hx hb hts hinX10 hown hK hP hI 2 (mF 2 rfl) rfl rfl 1 (Nat.le_of_ble_eq_true rfl) (hts _ (vA_in _ _ (in_8 _ (zs16 (zs4 (zs0)))))) (fun _ h9 => h9) fy1 dX10_put_36 ?_
                    refine lv_iload_n hx hb dX10_put_39 rfl (lv_at hl 0 rfl) ?_
                    have n39 : vp_in y1 200 := (iv_in (n := 200) i38 (by decide))
                    refine th_iastL hx hb hK hP (WL_D hD) hS hI 21 (mF 21 rfl) rfl rfl n39 (okI rfl (iv_w i33 (by decide))) dX10_put_40 (fun H locs E40 pw41 hI hP hS => ?_)
                    have hKp := hKp.pw pw41 rfl
                    refine lv_aload_n hx hb dX10_put_41 rfl (lv_at hl 2 rfl) ?_
                    refine lv_dup hx hb dX10_put_42 rfl ?_
                    refine th_getL (ci := 11) (C := RX10) (T := TX10) (N := 10) (v := .int y1) hx hb hts hinX10 hown hK hP hI 2 (mF 2 rfl) rfl rfl 1 (Nat.le_of_ble_eq_true rfl) (hts _ (vA_in _ _ (in_8 _ (zs16 (zs4 (zs0)))))) (fun _ h9 => h9) ((pw41.2 2 1 (fun q9 => absurd q9.1 (Nat.ne_of_beq_eq_false rfl))).trans fy1) dX10_put_43 ?_
                    refine lv_iconst (v := 1) hx hb dX10_put_46 (by decide) ?_
                    refine lv_iadd hx hb dX10_put_47 ?_
                    refine lv_topi (fun y42 ey42 => ?_)
                    obtain ⟨ty42, iy42⟩ := ti_add (e := 1) (f := 200) i38 ln_1 ey42 (by decide)
                    have ty42 : y42.toInt = y1.toInt + 1 := ty42
                    have iy42 : 1 ≤ y42.toInt ∧ y42.toInt ≤ 200 := iy42
                    refine th_putL (ci := 11) (C := RX10) (T := TX10) (N := 10) (v := .int y42) (ty := .int) hx hb hts hinX10 tyX10 tyX10_ok nmX10 hown hK hP (WL_D hD) hS hI 2 (mF 2 rfl) rfl rfl 1 (Nat.le_of_ble_eq_true rfl) (hts _ (vA_in _ _ (in_8 _ (zs16 (zs4 (zs0)))))) (fun _ h9 => h9) rfl (by decide +kernel) rfl rfl (okI rfl (iv_w iy42 (by decide))) dX10_put_48 (fun H locs E43 pw44 hI hP hS => ?_)
                    have hKp := hKp.pw pw44 rfl
                    have k45 := FedC.push pw41 pw44 (vi_e fy1) ty42 (by omega)
                    have k46 : bysP a0 4 = bysP a0 3 ++ [y26.toInt] := bysP_1 (k := 3) (show ub_by a0 0 = y26 from by rw [ey26, ey25]; rfl) c27
                    refine lv_iinc (v := -8) (lv' := [(2, .int (-8)), (3, .int y26), (0, .ref (ad 2)), (1, .int a0)]) hx hb dX10_put_51 hl (k := 1) rfl (by decide) (by decide) rfl (fun ls hl => ?_)
                    refine lv_goto (tgt := 3) hx hb dX10_put_54 (by decide) ?_
                    refine lv_iload_n hx hb dX10_put_3 rfl (lv_at hl 0 rfl) ?_
                    refine lv_if_lt (tgt := 57) hx hb dX10_put_4 (by decide) (fun c47 => ?_) (fun c47 => ?_)
                    · --4 taken
                      rw [hQ]
                      exact W.vret hx hb hr (fun t ht hW => ⟨⟨E43, rfl, ⟨hI, hKp, ⟨by (try rw [(show xi (E43 2) 1 = y42 from vi_e pw44.1)]); (try rw [ey1]); all_goals omega, by show FedC (bysP a0 4) _ _; rw [k46, k23, k16, k9]; exact (Fed.rf.tr k45)⟩⟩, by show va_P (dC, dI) vwCl (WL (LC cf) ad E43) t.heap; rw [ht]; exact hP⟩, hS.F ht⟩) hS.2.2 dX10_put_57
                    · --4 not
                      exact absurd c47 (by decide)
            · --16 not
              have t48 : ¬ y19.toInt = 0 := ti_ne c20
              have i49 : 1 ≤ y19.toInt ∧ y19.toInt ≤ 255 := iv_ne_l t48 iy19 (il_ 0)
              have b8 : bN (ub_by a0 8) = 1 := bN_1 (fun q9 => c20 ((show ub_by a0 8 = y19 from by rw [ey19, ey18]; rfl).symm.trans q9))
              refine lv_aload_n hx hb dX10_put_19 rfl (lv_at hl 2 rfl) ?_
              refine th_getL (ci := 11) (C := RX10) (T := TX10) (N := 10) (v := .int y1) hx hb hts hinX10 hown hK hP hI 2 (mF 2 rfl) rfl rfl 1 (Nat.le_of_ble_eq_true rfl) (hts _ (vA_in _ _ (in_8 _ (zs16 (zs4 (zs0)))))) (fun _ h9 => h9) fy1 dX10_put_20 ?_
              refine lv_aload_n hx hb dX10_put_23 rfl (lv_at hl 2 rfl) ?_
              refine th_getL (ci := 11) (C := RX10) (T := TX10) (N := 10) (v := .ref (ad 21)) hx hb hts hinX10 hown hK hP hI 2 (mF 2 rfl) rfl rfl 0 (Nat.le_of_ble_eq_true rfl) (hts _ (vA_in _ _ (in_8 _ (zs16 (zs1 (zs0)))))) (fun _ h9 => h9) (hI.fr 2 (mF 2 rfl) rfl (Nat.le_of_ble_eq_true rfl) 21 rfl) dX10_put_24 ?_
              refine va_alen (v := 200) hx hb hK hP (posL 21 (LC cf)) 0 (hI.ar 21 (mF 21 rfl) rfl) rfl rfl dX10_put_27 ?_
              refine lv_icmp_ge (tgt := 51) hx hb dX10_put_28 (by decide) (fun c50 => ?_) (fun c50 => ?_)
              · --28 taken
                have t51 : (200 : Int) ≤ y1.toInt := ti_le c50
                have i52 : 200 ≤ y1.toInt ∧ y1.toInt ≤ 200 := iv_le_r t51 (il_ 200) i2 (by decide)
                exfalso
                omega
              · --28 not
                have t53 : y1.toInt < 200 := ti_nle c50
                have i54 : 0 ≤ y1.toInt ∧ y1.toInt ≤ 199 := iv_lt_l t53 i2 (il_ 200) (by decide)
                refine lv_aload_n hx hb dX10_put_31 rfl (lv_at hl 2 rfl) ?_
                refine th_getL (ci := 11) (C := RX10) (T := TX10) (N := 10) (v := .ref (ad 21)) hx hb hts hinX10 hown hK hP hI 2 (mF 2 rfl) rfl rfl 0 (Nat.le_of_ble_eq_true rfl) (hts _ (vA_in _ _ (in_8 _ (zs16 (zs1 (zs0)))))) (fun _ h9 => h9) (hI.fr 2 (mF 2 rfl) rfl (Nat.le_of_ble_eq_true rfl) 21 rfl) dX10_put_32 ?_
                refine lv_aload_n hx hb dX10_put_35 rfl (lv_at hl 2 rfl) ?_
                refine th_getL (ci := 11) (C := RX10) (T := TX10) (N := 10) (v := .int y1) hx hb hts hinX10 hown hK hP hI 2 (mF 2 rfl) rfl rfl 1 (Nat.le_of_ble_eq_true rfl) (hts _ (vA_in _ _ (in_8 _ (zs16 (zs4 (zs0)))))) (fun _ h9 => h9) fy1 dX10_put_36 ?_
                refine lv_iload_n hx hb dX10_put_39 rfl (lv_at hl 0 rfl) ?_
                have n55 : vp_in y1 200 := (iv_in (n := 200) i54 (by decide))
                refine th_iastL hx hb hK hP (WL_D hD) hS hI 21 (mF 21 rfl) rfl rfl n55 (okI rfl (iv_w i49 (by decide))) dX10_put_40 (fun H locs E56 pw57 hI hP hS => ?_)
                have hKp := hKp.pw pw57 rfl
                refine lv_aload_n hx hb dX10_put_41 rfl (lv_at hl 2 rfl) ?_
                refine lv_dup hx hb dX10_put_42 rfl ?_
                refine th_getL (ci := 11) (C := RX10) (T := TX10) (N := 10) (v := .int y1) hx hb hts hinX10 hown hK hP hI 2 (mF 2 rfl) rfl rfl 1 (Nat.le_of_ble_eq_true rfl) (hts _ (vA_in _ _ (in_8 _ (zs16 (zs4 (zs0)))))) (fun _ h9 => h9) ((pw57.2 2 1 (fun q9 => absurd q9.1 (Nat.ne_of_beq_eq_false rfl))).trans fy1) dX10_put_43 ?_
                refine lv_iconst (v := 1) hx hb dX10_put_46 (by decide) ?_
                refine lv_iadd hx hb dX10_put_47 ?_
                refine lv_topi (fun y58 ey58 => ?_)
                obtain ⟨ty58, iy58⟩ := ti_add (e := 1) (f := 200) i54 ln_1 ey58 (by decide)
                have ty58 : y58.toInt = y1.toInt + 1 := ty58
                have iy58 : 1 ≤ y58.toInt ∧ y58.toInt ≤ 200 := iy58
                refine th_putL (ci := 11) (C := RX10) (T := TX10) (N := 10) (v := .int y58) (ty := .int) hx hb hts hinX10 tyX10 tyX10_ok nmX10 hown hK hP (WL_D hD) hS hI 2 (mF 2 rfl) rfl rfl 1 (Nat.le_of_ble_eq_true rfl) (hts _ (vA_in _ _ (in_8 _ (zs16 (zs4 (zs0)))))) (fun _ h9 => h9) rfl (by decide +kernel) rfl rfl (okI rfl (iv_w iy58 (by decide))) dX10_put_48 (fun H locs E59 pw60 hI hP hS => ?_)
                have hKp := hKp.pw pw60 rfl
                have k61 := FedC.push pw57 pw60 (vi_e fy1) ty58 (by omega)
                have k62 : bysP a0 3 = bysP a0 2 ++ [y19.toInt] := bysP_1 (k := 2) (show ub_by a0 8 = y19 from by rw [ey19, ey18]; rfl) c20
                refine lv_iinc (v := 0) (lv' := [(2, .int 0), (3, .int y19), (0, .ref (ad 2)), (1, .int a0)]) hx hb dX10_put_51 hl (k := 1) rfl (by decide) (by decide) rfl (fun ls hl => ?_)
                refine lv_goto (tgt := 3) hx hb dX10_put_54 (by decide) ?_
                refine lv_iload_n hx hb dX10_put_3 rfl (lv_at hl 0 rfl) ?_
                refine lv_if_lt (tgt := 57) hx hb dX10_put_4 (by decide) (fun c63 => ?_) (fun c63 => ?_)
                · --4 taken
                  exact absurd c63 (by decide)
                · --4 not
                  refine lv_iload_n hx hb dX10_put_7 rfl (lv_at hl 3 rfl) ?_
                  refine lv_iload_n hx hb dX10_put_8 rfl (lv_at hl 0 rfl) ?_
                  refine lv_iushr hx hb dX10_put_9 rfl ?_
                  refine lv_topi (fun y64 ey64 => ?_)
                  refine lv_sipush (v := 255) hx hb dX10_put_10 (by decide) ?_
                  refine lv_iand hx hb dX10_put_13 ?_
                  refine lv_topi (fun y65 ey65 => ?_)
                  have iy65 : 0 ≤ y65.toInt ∧ y65.toInt ≤ 255 := ti_and (by decide) ey65
                  refine lv_istore_n (lv' := [(3, .int y65), (2, .int 0), (0, .ref (ad 2)), (1, .int a0)]) hx hb dX10_put_14 rfl hl (by decide) rfl (fun ls hl => ?_)
                  refine lv_iload_n hx hb dX10_put_15 rfl (lv_at hl 0 rfl) ?_
                  refine lv_if_eq (tgt := 51) hx hb dX10_put_16 (by decide) (fun c66 => ?_) (fun c66 => ?_)
                  · --16 taken
                    have t67 : y65.toInt = 0 := ti_eq c66
                    have i68 : 0 ≤ y65.toInt ∧ y65.toInt ≤ 0 := iv_eqi t67 iy65 (il_ 0) (by decide)
                    have b0 : bN (ub_by a0 0) = 0 := bN_0 ((show ub_by a0 0 = y65 from by rw [ey65, ey64]; rfl).trans c66)
                    have k69 : bysP a0 4 = bysP a0 3 := bysP_0 (k := 3) (show ub_by a0 0 = y65 from by rw [ey65, ey64]; rfl) c66
                    refine lv_iinc (v := -8) (lv' := [(2, .int (-8)), (3, .int y65), (0, .ref (ad 2)), (1, .int a0)]) hx hb dX10_put_51 hl (k := 1) rfl (by decide) (by decide) rfl (fun ls hl => ?_)
                    refine lv_goto (tgt := 3) hx hb dX10_put_54 (by decide) ?_
                    refine lv_iload_n hx hb dX10_put_3 rfl (lv_at hl 0 rfl) ?_
                    refine lv_if_lt (tgt := 57) hx hb dX10_put_4 (by decide) (fun c70 => ?_) (fun c70 => ?_)
                    · --4 taken
                      rw [hQ]
                      exact W.vret hx hb hr (fun t ht hW => ⟨⟨E59, rfl, ⟨hI, hKp, ⟨by (try rw [(show xi (E59 2) 1 = y58 from vi_e pw60.1)]); (try rw [ey1]); all_goals omega, by show FedC (bysP a0 4) _ _; rw [k69, k62, k16, k9]; exact (Fed.rf.tr k61)⟩⟩, by show va_P (dC, dI) vwCl (WL (LC cf) ad E59) t.heap; rw [ht]; exact hP⟩, hS.F ht⟩) hS.2.2 dX10_put_57
                    · --4 not
                      exact absurd c70 (by decide)
                  · --16 not
                    have t71 : ¬ y65.toInt = 0 := ti_ne c66
                    have i72 : 1 ≤ y65.toInt ∧ y65.toInt ≤ 255 := iv_ne_l t71 iy65 (il_ 0)
                    have b0 : bN (ub_by a0 0) = 1 := bN_1 (fun q9 => c66 ((show ub_by a0 0 = y65 from by rw [ey65, ey64]; rfl).symm.trans q9))
                    refine lv_aload_n hx hb dX10_put_19 rfl (lv_at hl 2 rfl) ?_
                    refine th_getL (ci := 11) (C := RX10) (T := TX10) (N := 10) (v := .int y58) hx hb hts hinX10 hown hK hP hI 2 (mF 2 rfl) rfl rfl 1 (Nat.le_of_ble_eq_true rfl) (hts _ (vA_in _ _ (in_8 _ (zs16 (zs4 (zs0)))))) (fun _ h9 => h9) pw60.1 dX10_put_20 ?_
                    refine lv_aload_n hx hb dX10_put_23 rfl (lv_at hl 2 rfl) ?_
                    refine th_getL (ci := 11) (C := RX10) (T := TX10) (N := 10) (v := .ref (ad 21)) hx hb hts hinX10 hown hK hP hI 2 (mF 2 rfl) rfl rfl 0 (Nat.le_of_ble_eq_true rfl) (hts _ (vA_in _ _ (in_8 _ (zs16 (zs1 (zs0)))))) (fun _ h9 => h9) (hI.fr 2 (mF 2 rfl) rfl (Nat.le_of_ble_eq_true rfl) 21 rfl) dX10_put_24 ?_
                    refine va_alen (v := 200) hx hb hK hP (posL 21 (LC cf)) 0 (hI.ar 21 (mF 21 rfl) rfl) rfl rfl dX10_put_27 ?_
                    refine lv_icmp_ge (tgt := 51) hx hb dX10_put_28 (by decide) (fun c73 => ?_) (fun c73 => ?_)
                    · --28 taken
                      have t74 : (200 : Int) ≤ y58.toInt := ti_le c73
                      have i75 : 200 ≤ y58.toInt ∧ y58.toInt ≤ 200 := iv_le_r t74 (il_ 200) iy58 (by decide)
                      exfalso
                      omega
                    · --28 not
                      have t76 : y58.toInt < 200 := ti_nle c73
                      have i77 : 1 ≤ y58.toInt ∧ y58.toInt ≤ 199 := iv_lt_l t76 iy58 (il_ 200) (by decide)
                      refine lv_aload_n hx hb dX10_put_31 rfl (lv_at hl 2 rfl) ?_
                      refine th_getL (ci := 11) (C := RX10) (T := TX10) (N := 10) (v := .ref (ad 21)) hx hb hts hinX10 hown hK hP hI 2 (mF 2 rfl) rfl rfl 0 (Nat.le_of_ble_eq_true rfl) (hts _ (vA_in _ _ (in_8 _ (zs16 (zs1 (zs0)))))) (fun _ h9 => h9) (hI.fr 2 (mF 2 rfl) rfl (Nat.le_of_ble_eq_true rfl) 21 rfl) dX10_put_32 ?_
                      refine lv_aload_n hx hb dX10_put_35 rfl (lv_at hl 2 rfl) ?_
                      refine th_getL (ci := 11) (C := RX10) (T := TX10) (N := 10) (v := .int y58) hx hb hts hinX10 hown hK hP hI 2 (mF 2 rfl) rfl rfl 1 (Nat.le_of_ble_eq_true rfl) (hts _ (vA_in _ _ (in_8 _ (zs16 (zs4 (zs0)))))) (fun _ h9 => h9) pw60.1 dX10_put_36 ?_
                      refine lv_iload_n hx hb dX10_put_39 rfl (lv_at hl 0 rfl) ?_
                      have n78 : vp_in y58 200 := (iv_in (n := 200) i77 (by decide))
                      refine th_iastL hx hb hK hP (WL_D hD) hS hI 21 (mF 21 rfl) rfl rfl n78 (okI rfl (iv_w i72 (by decide))) dX10_put_40 (fun H locs E79 pw80 hI hP hS => ?_)
                      have hKp := hKp.pw pw80 rfl
                      refine lv_aload_n hx hb dX10_put_41 rfl (lv_at hl 2 rfl) ?_
                      refine lv_dup hx hb dX10_put_42 rfl ?_
                      refine th_getL (ci := 11) (C := RX10) (T := TX10) (N := 10) (v := .int y58) hx hb hts hinX10 hown hK hP hI 2 (mF 2 rfl) rfl rfl 1 (Nat.le_of_ble_eq_true rfl) (hts _ (vA_in _ _ (in_8 _ (zs16 (zs4 (zs0)))))) (fun _ h9 => h9) ((pw80.2 2 1 (fun q9 => absurd q9.1 (Nat.ne_of_beq_eq_false rfl))).trans pw60.1) dX10_put_43 ?_
                      refine lv_iconst (v := 1) hx hb dX10_put_46 (by decide) ?_
                      refine lv_iadd hx hb dX10_put_47 ?_
                      refine lv_topi (fun y81 ey81 => ?_)
                      obtain ⟨ty81, iy81⟩ := ti_add (e := 2) (f := 200) i77 ln_1 ey81 (by decide)
                      have ty81 : y81.toInt = y58.toInt + 1 := ty81
                      have iy81 : 2 ≤ y81.toInt ∧ y81.toInt ≤ 200 := iy81
                      refine th_putL (ci := 11) (C := RX10) (T := TX10) (N := 10) (v := .int y81) (ty := .int) hx hb hts hinX10 tyX10 tyX10_ok nmX10 hown hK hP (WL_D hD) hS hI 2 (mF 2 rfl) rfl rfl 1 (Nat.le_of_ble_eq_true rfl) (hts _ (vA_in _ _ (in_8 _ (zs16 (zs4 (zs0)))))) (fun _ h9 => h9) rfl (by decide +kernel) rfl rfl (okI rfl (iv_w iy81 (by decide))) dX10_put_48 (fun H locs E82 pw83 hI hP hS => ?_)
                      have hKp := hKp.pw pw83 rfl
                      have k84 := FedC.push pw80 pw83 (vi_e pw60.1) ty81 (by omega)
                      have k85 : bysP a0 4 = bysP a0 3 ++ [y65.toInt] := bysP_1 (k := 3) (show ub_by a0 0 = y65 from by rw [ey65, ey64]; rfl) c66
                      refine lv_iinc (v := -8) (lv' := [(2, .int (-8)), (3, .int y65), (0, .ref (ad 2)), (1, .int a0)]) hx hb dX10_put_51 hl (k := 1) rfl (by decide) (by decide) rfl (fun ls hl => ?_)
                      refine lv_goto (tgt := 3) hx hb dX10_put_54 (by decide) ?_
                      refine lv_iload_n hx hb dX10_put_3 rfl (lv_at hl 0 rfl) ?_
                      refine lv_if_lt (tgt := 57) hx hb dX10_put_4 (by decide) (fun c86 => ?_) (fun c86 => ?_)
                      · --4 taken
                        rw [hQ]
                        exact W.vret hx hb hr (fun t ht hW => ⟨⟨E82, rfl, ⟨hI, hKp, ⟨by (try rw [(show xi (E82 2) 1 = y81 from vi_e pw83.1)]); (try rw [ey1]); all_goals omega, by show FedC (bysP a0 4) _ _; rw [k85, k62, k16, k9]; exact ((Fed.rf.tr k61).tr k84)⟩⟩, by show va_P (dC, dI) vwCl (WL (LC cf) ad E82) t.heap; rw [ht]; exact hP⟩, hS.F ht⟩) hS.2.2 dX10_put_57
                      · --4 not
                        exact absurd c86 (by decide)
        · --16 not
          have t87 : ¬ y12.toInt = 0 := ti_ne c13
          have i88 : 1 ≤ y12.toInt ∧ y12.toInt ≤ 255 := iv_ne_l t87 iy12 (il_ 0)
          have b16 : bN (ub_by a0 16) = 1 := bN_1 (fun q9 => c13 ((show ub_by a0 16 = y12 from by rw [ey12, ey11]; rfl).symm.trans q9))
          refine lv_aload_n hx hb dX10_put_19 rfl (lv_at hl 2 rfl) ?_
          refine th_getL (ci := 11) (C := RX10) (T := TX10) (N := 10) (v := .int y1) hx hb hts hinX10 hown hK hP hI 2 (mF 2 rfl) rfl rfl 1 (Nat.le_of_ble_eq_true rfl) (hts _ (vA_in _ _ (in_8 _ (zs16 (zs4 (zs0)))))) (fun _ h9 => h9) fy1 dX10_put_20 ?_
          refine lv_aload_n hx hb dX10_put_23 rfl (lv_at hl 2 rfl) ?_
          refine th_getL (ci := 11) (C := RX10) (T := TX10) (N := 10) (v := .ref (ad 21)) hx hb hts hinX10 hown hK hP hI 2 (mF 2 rfl) rfl rfl 0 (Nat.le_of_ble_eq_true rfl) (hts _ (vA_in _ _ (in_8 _ (zs16 (zs1 (zs0)))))) (fun _ h9 => h9) (hI.fr 2 (mF 2 rfl) rfl (Nat.le_of_ble_eq_true rfl) 21 rfl) dX10_put_24 ?_
          refine va_alen (v := 200) hx hb hK hP (posL 21 (LC cf)) 0 (hI.ar 21 (mF 21 rfl) rfl) rfl rfl dX10_put_27 ?_
          refine lv_icmp_ge (tgt := 51) hx hb dX10_put_28 (by decide) (fun c89 => ?_) (fun c89 => ?_)
          · --28 taken
            have t90 : (200 : Int) ≤ y1.toInt := ti_le c89
            have i91 : 200 ≤ y1.toInt ∧ y1.toInt ≤ 200 := iv_le_r t90 (il_ 200) i2 (by decide)
            exfalso
            omega
          · --28 not
            have t92 : y1.toInt < 200 := ti_nle c89
            have i93 : 0 ≤ y1.toInt ∧ y1.toInt ≤ 199 := iv_lt_l t92 i2 (il_ 200) (by decide)
            refine lv_aload_n hx hb dX10_put_31 rfl (lv_at hl 2 rfl) ?_
            refine th_getL (ci := 11) (C := RX10) (T := TX10) (N := 10) (v := .ref (ad 21)) hx hb hts hinX10 hown hK hP hI 2 (mF 2 rfl) rfl rfl 0 (Nat.le_of_ble_eq_true rfl) (hts _ (vA_in _ _ (in_8 _ (zs16 (zs1 (zs0)))))) (fun _ h9 => h9) (hI.fr 2 (mF 2 rfl) rfl (Nat.le_of_ble_eq_true rfl) 21 rfl) dX10_put_32 ?_
            refine lv_aload_n hx hb dX10_put_35 rfl (lv_at hl 2 rfl) ?_
            refine th_getL (ci := 11) (C := RX10) (T := TX10) (N := 10) (v := .int y1) hx hb hts hinX10 hown hK hP hI 2 (mF 2 rfl) rfl rfl 1 (Nat.le_of_ble_eq_true rfl) (hts _ (vA_in _ _ (in_8 _ (zs16 (zs4 (zs0)))))) (fun _ h9 => h9) fy1 dX10_put_36 ?_
            refine lv_iload_n hx hb dX10_put_39 rfl (lv_at hl 0 rfl) ?_
            have n94 : vp_in y1 200 := (iv_in (n := 200) i93 (by decide))
            refine th_iastL hx hb hK hP (WL_D hD) hS hI 21 (mF 21 rfl) rfl rfl n94 (okI rfl (iv_w i88 (by decide))) dX10_put_40 (fun H locs E95 pw96 hI hP hS => ?_)
            have hKp := hKp.pw pw96 rfl
            refine lv_aload_n hx hb dX10_put_41 rfl (lv_at hl 2 rfl) ?_
            refine lv_dup hx hb dX10_put_42 rfl ?_
            refine th_getL (ci := 11) (C := RX10) (T := TX10) (N := 10) (v := .int y1) hx hb hts hinX10 hown hK hP hI 2 (mF 2 rfl) rfl rfl 1 (Nat.le_of_ble_eq_true rfl) (hts _ (vA_in _ _ (in_8 _ (zs16 (zs4 (zs0)))))) (fun _ h9 => h9) ((pw96.2 2 1 (fun q9 => absurd q9.1 (Nat.ne_of_beq_eq_false rfl))).trans fy1) dX10_put_43 ?_
            refine lv_iconst (v := 1) hx hb dX10_put_46 (by decide) ?_
            refine lv_iadd hx hb dX10_put_47 ?_
            refine lv_topi (fun y97 ey97 => ?_)
            obtain ⟨ty97, iy97⟩ := ti_add (e := 1) (f := 200) i93 ln_1 ey97 (by decide)
            have ty97 : y97.toInt = y1.toInt + 1 := ty97
            have iy97 : 1 ≤ y97.toInt ∧ y97.toInt ≤ 200 := iy97
            refine th_putL (ci := 11) (C := RX10) (T := TX10) (N := 10) (v := .int y97) (ty := .int) hx hb hts hinX10 tyX10 tyX10_ok nmX10 hown hK hP (WL_D hD) hS hI 2 (mF 2 rfl) rfl rfl 1 (Nat.le_of_ble_eq_true rfl) (hts _ (vA_in _ _ (in_8 _ (zs16 (zs4 (zs0)))))) (fun _ h9 => h9) rfl (by decide +kernel) rfl rfl (okI rfl (iv_w iy97 (by decide))) dX10_put_48 (fun H locs E98 pw99 hI hP hS => ?_)
            have hKp := hKp.pw pw99 rfl
            have k100 := FedC.push pw96 pw99 (vi_e fy1) ty97 (by omega)
            have k101 : bysP a0 2 = bysP a0 1 ++ [y12.toInt] := bysP_1 (k := 1) (show ub_by a0 16 = y12 from by rw [ey12, ey11]; rfl) c13
            refine lv_iinc (v := 8) (lv' := [(2, .int 8), (3, .int y12), (0, .ref (ad 2)), (1, .int a0)]) hx hb dX10_put_51 hl (k := 1) rfl (by decide) (by decide) rfl (fun ls hl => ?_)
            refine lv_goto (tgt := 3) hx hb dX10_put_54 (by decide) ?_
            refine lv_iload_n hx hb dX10_put_3 rfl (lv_at hl 0 rfl) ?_
            refine lv_if_lt (tgt := 57) hx hb dX10_put_4 (by decide) (fun c102 => ?_) (fun c102 => ?_)
            · --4 taken
              exact absurd c102 (by decide)
            · --4 not
              refine lv_iload_n hx hb dX10_put_7 rfl (lv_at hl 3 rfl) ?_
              refine lv_iload_n hx hb dX10_put_8 rfl (lv_at hl 0 rfl) ?_
              refine lv_iushr hx hb dX10_put_9 rfl ?_
              refine lv_topi (fun y103 ey103 => ?_)
              refine lv_sipush (v := 255) hx hb dX10_put_10 (by decide) ?_
              refine lv_iand hx hb dX10_put_13 ?_
              refine lv_topi (fun y104 ey104 => ?_)
              have iy104 : 0 ≤ y104.toInt ∧ y104.toInt ≤ 255 := ti_and (by decide) ey104
              refine lv_istore_n (lv' := [(3, .int y104), (2, .int 8), (0, .ref (ad 2)), (1, .int a0)]) hx hb dX10_put_14 rfl hl (by decide) rfl (fun ls hl => ?_)
              refine lv_iload_n hx hb dX10_put_15 rfl (lv_at hl 0 rfl) ?_
              refine lv_if_eq (tgt := 51) hx hb dX10_put_16 (by decide) (fun c105 => ?_) (fun c105 => ?_)
              · --16 taken
                have t106 : y104.toInt = 0 := ti_eq c105
                have i107 : 0 ≤ y104.toInt ∧ y104.toInt ≤ 0 := iv_eqi t106 iy104 (il_ 0) (by decide)
                have b8 : bN (ub_by a0 8) = 0 := bN_0 ((show ub_by a0 8 = y104 from by rw [ey104, ey103]; rfl).trans c105)
                have k108 : bysP a0 3 = bysP a0 2 := bysP_0 (k := 2) (show ub_by a0 8 = y104 from by rw [ey104, ey103]; rfl) c105
                refine lv_iinc (v := 0) (lv' := [(2, .int 0), (3, .int y104), (0, .ref (ad 2)), (1, .int a0)]) hx hb dX10_put_51 hl (k := 1) rfl (by decide) (by decide) rfl (fun ls hl => ?_)
                refine lv_goto (tgt := 3) hx hb dX10_put_54 (by decide) ?_
                refine lv_iload_n hx hb dX10_put_3 rfl (lv_at hl 0 rfl) ?_
                refine lv_if_lt (tgt := 57) hx hb dX10_put_4 (by decide) (fun c109 => ?_) (fun c109 => ?_)
                · --4 taken
                  exact absurd c109 (by decide)
                · --4 not
                  refine lv_iload_n hx hb dX10_put_7 rfl (lv_at hl 3 rfl) ?_
                  refine lv_iload_n hx hb dX10_put_8 rfl (lv_at hl 0 rfl) ?_
                  refine lv_iushr hx hb dX10_put_9 rfl ?_
                  refine lv_topi (fun y110 ey110 => ?_)
                  refine lv_sipush (v := 255) hx hb dX10_put_10 (by decide) ?_
                  refine lv_iand hx hb dX10_put_13 ?_
                  refine lv_topi (fun y111 ey111 => ?_)
                  have iy111 : 0 ≤ y111.toInt ∧ y111.toInt ≤ 255 := ti_and (by decide) ey111
                  refine lv_istore_n (lv' := [(3, .int y111), (2, .int 0), (0, .ref (ad 2)), (1, .int a0)]) hx hb dX10_put_14 rfl hl (by decide) rfl (fun ls hl => ?_)
                  refine lv_iload_n hx hb dX10_put_15 rfl (lv_at hl 0 rfl) ?_
                  refine lv_if_eq (tgt := 51) hx hb dX10_put_16 (by decide) (fun c112 => ?_) (fun c112 => ?_)
                  · --16 taken
                    have t113 : y111.toInt = 0 := ti_eq c112
                    have i114 : 0 ≤ y111.toInt ∧ y111.toInt ≤ 0 := iv_eqi t113 iy111 (il_ 0) (by decide)
                    have b0 : bN (ub_by a0 0) = 0 := bN_0 ((show ub_by a0 0 = y111 from by rw [ey111, ey110]; rfl).trans c112)
                    have k115 : bysP a0 4 = bysP a0 3 := bysP_0 (k := 3) (show ub_by a0 0 = y111 from by rw [ey111, ey110]; rfl) c112
                    refine lv_iinc (v := -8) (lv' := [(2, .int (-8)), (3, .int y111), (0, .ref (ad 2)), (1, .int a0)]) hx hb dX10_put_51 hl (k := 1) rfl (by decide) (by decide) rfl (fun ls hl => ?_)
                    refine lv_goto (tgt := 3) hx hb dX10_put_54 (by decide) ?_
                    refine lv_iload_n hx hb dX10_put_3 rfl (lv_at hl 0 rfl) ?_
                    refine lv_if_lt (tgt := 57) hx hb dX10_put_4 (by decide) (fun c116 => ?_) (fun c116 => ?_)
                    · --4 taken
                      rw [hQ]
                      exact W.vret hx hb hr (fun t ht hW => ⟨⟨E98, rfl, ⟨hI, hKp, ⟨by (try rw [(show xi (E98 2) 1 = y97 from vi_e pw99.1)]); (try rw [ey1]); all_goals omega, by show FedC (bysP a0 4) _ _; rw [k115, k108, k101, k9]; exact (Fed.rf.tr k100)⟩⟩, by show va_P (dC, dI) vwCl (WL (LC cf) ad E98) t.heap; rw [ht]; exact hP⟩, hS.F ht⟩) hS.2.2 dX10_put_57
                    · --4 not
                      exact absurd c116 (by decide)
                  · --16 not
                    have t117 : ¬ y111.toInt = 0 := ti_ne c112
                    have i118 : 1 ≤ y111.toInt ∧ y111.toInt ≤ 255 := iv_ne_l t117 iy111 (il_ 0)
                    have b0 : bN (ub_by a0 0) = 1 := bN_1 (fun q9 => c112 ((show ub_by a0 0 = y111 from by rw [ey111, ey110]; rfl).symm.trans q9))
                    refine lv_aload_n hx hb dX10_put_19 rfl (lv_at hl 2 rfl) ?_
                    refine th_getL (ci := 11) (C := RX10) (T := TX10) (N := 10) (v := .int y97) hx hb hts hinX10 hown hK hP hI 2 (mF 2 rfl) rfl rfl 1 (Nat.le_of_ble_eq_true rfl) (hts _ (vA_in _ _ (in_8 _ (zs16 (zs4 (zs0)))))) (fun _ h9 => h9) pw99.1 dX10_put_20 ?_
                    refine lv_aload_n hx hb dX10_put_23 rfl (lv_at hl 2 rfl) ?_
                    refine th_getL (ci := 11) (C := RX10) (T := TX10) (N := 10) (v := .ref (ad 21)) hx hb hts hinX10 hown hK hP hI 2 (mF 2 rfl) rfl rfl 0 (Nat.le_of_ble_eq_true rfl) (hts _ (vA_in _ _ (in_8 _ (zs16 (zs1 (zs0)))))) (fun _ h9 => h9) (hI.fr 2 (mF 2 rfl) rfl (Nat.le_of_ble_eq_true rfl) 21 rfl) dX10_put_24 ?_
                    refine va_alen (v := 200) hx hb hK hP (posL 21 (LC cf)) 0 (hI.ar 21 (mF 21 rfl) rfl) rfl rfl dX10_put_27 ?_
                    refine lv_icmp_ge (tgt := 51) hx hb dX10_put_28 (by decide) (fun c119 => ?_) (fun c119 => ?_)
                    · --28 taken
                      have t120 : (200 : Int) ≤ y97.toInt := ti_le c119
                      have i121 : 200 ≤ y97.toInt ∧ y97.toInt ≤ 200 := iv_le_r t120 (il_ 200) iy97 (by decide)
                      exfalso
                      omega
                    · --28 not
                      have t122 : y97.toInt < 200 := ti_nle c119
                      have i123 : 1 ≤ y97.toInt ∧ y97.toInt ≤ 199 := iv_lt_l t122 iy97 (il_ 200) (by decide)
                      refine lv_aload_n hx hb dX10_put_31 rfl (lv_at hl 2 rfl) ?_
                      refine th_getL (ci := 11) (C := RX10) (T := TX10) (N := 10) (v := .ref (ad 21)) hx hb hts hinX10 hown hK hP hI 2 (mF 2 rfl) rfl rfl 0 (Nat.le_of_ble_eq_true rfl) (hts _ (vA_in _ _ (in_8 _ (zs16 (zs1 (zs0)))))) (fun _ h9 => h9) (hI.fr 2 (mF 2 rfl) rfl (Nat.le_of_ble_eq_true rfl) 21 rfl) dX10_put_32 ?_
                      refine lv_aload_n hx hb dX10_put_35 rfl (lv_at hl 2 rfl) ?_
                      refine th_getL (ci := 11) (C := RX10) (T := TX10) (N := 10) (v := .int y97) hx hb hts hinX10 hown hK hP hI 2 (mF 2 rfl) rfl rfl 1 (Nat.le_of_ble_eq_true rfl) (hts _ (vA_in _ _ (in_8 _ (zs16 (zs4 (zs0)))))) (fun _ h9 => h9) pw99.1 dX10_put_36 ?_
                      refine lv_iload_n hx hb dX10_put_39 rfl (lv_at hl 0 rfl) ?_
                      have n124 : vp_in y97 200 := (iv_in (n := 200) i123 (by decide))
                      refine th_iastL hx hb hK hP (WL_D hD) hS hI 21 (mF 21 rfl) rfl rfl n124 (okI rfl (iv_w i118 (by decide))) dX10_put_40 (fun H locs E125 pw126 hI hP hS => ?_)
                      have hKp := hKp.pw pw126 rfl
                      refine lv_aload_n hx hb dX10_put_41 rfl (lv_at hl 2 rfl) ?_
                      refine lv_dup hx hb dX10_put_42 rfl ?_
                      refine th_getL (ci := 11) (C := RX10) (T := TX10) (N := 10) (v := .int y97) hx hb hts hinX10 hown hK hP hI 2 (mF 2 rfl) rfl rfl 1 (Nat.le_of_ble_eq_true rfl) (hts _ (vA_in _ _ (in_8 _ (zs16 (zs4 (zs0)))))) (fun _ h9 => h9) ((pw126.2 2 1 (fun q9 => absurd q9.1 (Nat.ne_of_beq_eq_false rfl))).trans pw99.1) dX10_put_43 ?_
                      refine lv_iconst (v := 1) hx hb dX10_put_46 (by decide) ?_
                      refine lv_iadd hx hb dX10_put_47 ?_
                      refine lv_topi (fun y127 ey127 => ?_)
                      obtain ⟨ty127, iy127⟩ := ti_add (e := 2) (f := 200) i123 ln_1 ey127 (by decide)
                      have ty127 : y127.toInt = y97.toInt + 1 := ty127
                      have iy127 : 2 ≤ y127.toInt ∧ y127.toInt ≤ 200 := iy127
                      refine th_putL (ci := 11) (C := RX10) (T := TX10) (N := 10) (v := .int y127) (ty := .int) hx hb hts hinX10 tyX10 tyX10_ok nmX10 hown hK hP (WL_D hD) hS hI 2 (mF 2 rfl) rfl rfl 1 (Nat.le_of_ble_eq_true rfl) (hts _ (vA_in _ _ (in_8 _ (zs16 (zs4 (zs0)))))) (fun _ h9 => h9) rfl (by decide +kernel) rfl rfl (okI rfl (iv_w iy127 (by decide))) dX10_put_48 (fun H locs E128 pw129 hI hP hS => ?_)
                      have hKp := hKp.pw pw129 rfl
                      have k130 := FedC.push pw126 pw129 (vi_e pw99.1) ty127 (by omega)
                      have k131 : bysP a0 4 = bysP a0 3 ++ [y111.toInt] := bysP_1 (k := 3) (show ub_by a0 0 = y111 from by rw [ey111, ey110]; rfl) c112
                      refine lv_iinc (v := -8) (lv' := [(2, .int (-8)), (3, .int y111), (0, .ref (ad 2)), (1, .int a0)]) hx hb dX10_put_51 hl (k := 1) rfl (by decide) (by decide) rfl (fun ls hl => ?_)
                      refine lv_goto (tgt := 3) hx hb dX10_put_54 (by decide) ?_
                      refine lv_iload_n hx hb dX10_put_3 rfl (lv_at hl 0 rfl) ?_
                      refine lv_if_lt (tgt := 57) hx hb dX10_put_4 (by decide) (fun c132 => ?_) (fun c132 => ?_)
                      · --4 taken
                        rw [hQ]
                        exact W.vret hx hb hr (fun t ht hW => ⟨⟨E128, rfl, ⟨hI, hKp, ⟨by (try rw [(show xi (E128 2) 1 = y127 from vi_e pw129.1)]); (try rw [ey1]); all_goals omega, by show FedC (bysP a0 4) _ _; rw [k131, k108, k101, k9]; exact ((Fed.rf.tr k100).tr k130)⟩⟩, by show va_P (dC, dI) vwCl (WL (LC cf) ad E128) t.heap; rw [ht]; exact hP⟩, hS.F ht⟩) hS.2.2 dX10_put_57
                      · --4 not
                        exact absurd c132 (by decide)
              · --16 not
                have t133 : ¬ y104.toInt = 0 := ti_ne c105
                have i134 : 1 ≤ y104.toInt ∧ y104.toInt ≤ 255 := iv_ne_l t133 iy104 (il_ 0)
                have b8 : bN (ub_by a0 8) = 1 := bN_1 (fun q9 => c105 ((show ub_by a0 8 = y104 from by rw [ey104, ey103]; rfl).symm.trans q9))
                refine lv_aload_n hx hb dX10_put_19 rfl (lv_at hl 2 rfl) ?_
                refine th_getL (ci := 11) (C := RX10) (T := TX10) (N := 10) (v := .int y97) hx hb hts hinX10 hown hK hP hI 2 (mF 2 rfl) rfl rfl 1 (Nat.le_of_ble_eq_true rfl) (hts _ (vA_in _ _ (in_8 _ (zs16 (zs4 (zs0)))))) (fun _ h9 => h9) pw99.1 dX10_put_20 ?_
                refine lv_aload_n hx hb dX10_put_23 rfl (lv_at hl 2 rfl) ?_
                refine th_getL (ci := 11) (C := RX10) (T := TX10) (N := 10) (v := .ref (ad 21)) hx hb hts hinX10 hown hK hP hI 2 (mF 2 rfl) rfl rfl 0 (Nat.le_of_ble_eq_true rfl) (hts _ (vA_in _ _ (in_8 _ (zs16 (zs1 (zs0)))))) (fun _ h9 => h9) (hI.fr 2 (mF 2 rfl) rfl (Nat.le_of_ble_eq_true rfl) 21 rfl) dX10_put_24 ?_
                refine va_alen (v := 200) hx hb hK hP (posL 21 (LC cf)) 0 (hI.ar 21 (mF 21 rfl) rfl) rfl rfl dX10_put_27 ?_
                refine lv_icmp_ge (tgt := 51) hx hb dX10_put_28 (by decide) (fun c135 => ?_) (fun c135 => ?_)
                · --28 taken
                  have t136 : (200 : Int) ≤ y97.toInt := ti_le c135
                  have i137 : 200 ≤ y97.toInt ∧ y97.toInt ≤ 200 := iv_le_r t136 (il_ 200) iy97 (by decide)
                  exfalso
                  omega
                · --28 not
                  have t138 : y97.toInt < 200 := ti_nle c135
                  have i139 : 1 ≤ y97.toInt ∧ y97.toInt ≤ 199 := iv_lt_l t138 iy97 (il_ 200) (by decide)
                  refine lv_aload_n hx hb dX10_put_31 rfl (lv_at hl 2 rfl) ?_
                  refine th_getL (ci := 11) (C := RX10) (T := TX10) (N := 10) (v := .ref (ad 21)) hx hb hts hinX10 hown hK hP hI 2 (mF 2 rfl) rfl rfl 0 (Nat.le_of_ble_eq_true rfl) (hts _ (vA_in _ _ (in_8 _ (zs16 (zs1 (zs0)))))) (fun _ h9 => h9) (hI.fr 2 (mF 2 rfl) rfl (Nat.le_of_ble_eq_true rfl) 21 rfl) dX10_put_32 ?_
                  refine lv_aload_n hx hb dX10_put_35 rfl (lv_at hl 2 rfl) ?_
                  refine th_getL (ci := 11) (C := RX10) (T := TX10) (N := 10) (v := .int y97) hx hb hts hinX10 hown hK hP hI 2 (mF 2 rfl) rfl rfl 1 (Nat.le_of_ble_eq_true rfl) (hts _ (vA_in _ _ (in_8 _ (zs16 (zs4 (zs0)))))) (fun _ h9 => h9) pw99.1 dX10_put_36 ?_
                  refine lv_iload_n hx hb dX10_put_39 rfl (lv_at hl 0 rfl) ?_
                  have n140 : vp_in y97 200 := (iv_in (n := 200) i139 (by decide))
                  refine th_iastL hx hb hK hP (WL_D hD) hS hI 21 (mF 21 rfl) rfl rfl n140 (okI rfl (iv_w i134 (by decide))) dX10_put_40 (fun H locs E141 pw142 hI hP hS => ?_)
                  have hKp := hKp.pw pw142 rfl
                  refine lv_aload_n hx hb dX10_put_41 rfl (lv_at hl 2 rfl) ?_
                  refine lv_dup hx hb dX10_put_42 rfl ?_
                  refine th_getL (ci := 11) (C := RX10) (T := TX10) (N := 10) (v := .int y97) hx hb hts hinX10 hown hK hP hI 2 (mF 2 rfl) rfl rfl 1 (Nat.le_of_ble_eq_true rfl) (hts _ (vA_in _ _ (in_8 _ (zs16 (zs4 (zs0)))))) (fun _ h9 => h9) ((pw142.2 2 1 (fun q9 => absurd q9.1 (Nat.ne_of_beq_eq_false rfl))).trans pw99.1) dX10_put_43 ?_
                  refine lv_iconst (v := 1) hx hb dX10_put_46 (by decide) ?_
                  refine lv_iadd hx hb dX10_put_47 ?_
                  refine lv_topi (fun y143 ey143 => ?_)
                  obtain ⟨ty143, iy143⟩ := ti_add (e := 2) (f := 200) i139 ln_1 ey143 (by decide)
                  have ty143 : y143.toInt = y97.toInt + 1 := ty143
                  have iy143 : 2 ≤ y143.toInt ∧ y143.toInt ≤ 200 := iy143
                  refine th_putL (ci := 11) (C := RX10) (T := TX10) (N := 10) (v := .int y143) (ty := .int) hx hb hts hinX10 tyX10 tyX10_ok nmX10 hown hK hP (WL_D hD) hS hI 2 (mF 2 rfl) rfl rfl 1 (Nat.le_of_ble_eq_true rfl) (hts _ (vA_in _ _ (in_8 _ (zs16 (zs4 (zs0)))))) (fun _ h9 => h9) rfl (by decide +kernel) rfl rfl (okI rfl (iv_w iy143 (by decide))) dX10_put_48 (fun H locs E144 pw145 hI hP hS => ?_)
                  have hKp := hKp.pw pw145 rfl
                  have k146 := FedC.push pw142 pw145 (vi_e pw99.1) ty143 (by omega)
                  have k147 : bysP a0 3 = bysP a0 2 ++ [y104.toInt] := bysP_1 (k := 2) (show ub_by a0 8 = y104 from by rw [ey104, ey103]; rfl) c105
                  refine lv_iinc (v := 0) (lv' := [(2, .int 0), (3, .int y104), (0, .ref (ad 2)), (1, .int a0)]) hx hb dX10_put_51 hl (k := 1) rfl (by decide) (by decide) rfl (fun ls hl => ?_)
                  refine lv_goto (tgt := 3) hx hb dX10_put_54 (by decide) ?_
                  refine lv_iload_n hx hb dX10_put_3 rfl (lv_at hl 0 rfl) ?_
                  refine lv_if_lt (tgt := 57) hx hb dX10_put_4 (by decide) (fun c148 => ?_) (fun c148 => ?_)
                  · --4 taken
                    exact absurd c148 (by decide)
                  · --4 not
                    refine lv_iload_n hx hb dX10_put_7 rfl (lv_at hl 3 rfl) ?_
                    refine lv_iload_n hx hb dX10_put_8 rfl (lv_at hl 0 rfl) ?_
                    refine lv_iushr hx hb dX10_put_9 rfl ?_
                    refine lv_topi (fun y149 ey149 => ?_)
                    refine lv_sipush (v := 255) hx hb dX10_put_10 (by decide) ?_
                    refine lv_iand hx hb dX10_put_13 ?_
                    refine lv_topi (fun y150 ey150 => ?_)
                    have iy150 : 0 ≤ y150.toInt ∧ y150.toInt ≤ 255 := ti_and (by decide) ey150
                    refine lv_istore_n (lv' := [(3, .int y150), (2, .int 0), (0, .ref (ad 2)), (1, .int a0)]) hx hb dX10_put_14 rfl hl (by decide) rfl (fun ls hl => ?_)
                    refine lv_iload_n hx hb dX10_put_15 rfl (lv_at hl 0 rfl) ?_
                    refine lv_if_eq (tgt := 51) hx hb dX10_put_16 (by decide) (fun c151 => ?_) (fun c151 => ?_)
                    · --16 taken
                      have t152 : y150.toInt = 0 := ti_eq c151
                      have i153 : 0 ≤ y150.toInt ∧ y150.toInt ≤ 0 := iv_eqi t152 iy150 (il_ 0) (by decide)
                      have b0 : bN (ub_by a0 0) = 0 := bN_0 ((show ub_by a0 0 = y150 from by rw [ey150, ey149]; rfl).trans c151)
                      have k154 : bysP a0 4 = bysP a0 3 := bysP_0 (k := 3) (show ub_by a0 0 = y150 from by rw [ey150, ey149]; rfl) c151
                      refine lv_iinc (v := -8) (lv' := [(2, .int (-8)), (3, .int y150), (0, .ref (ad 2)), (1, .int a0)]) hx hb dX10_put_51 hl (k := 1) rfl (by decide) (by decide) rfl (fun ls hl => ?_)
                      refine lv_goto (tgt := 3) hx hb dX10_put_54 (by decide) ?_
                      refine lv_iload_n hx hb dX10_put_3 rfl (lv_at hl 0 rfl) ?_
                      refine lv_if_lt (tgt := 57) hx hb dX10_put_4 (by decide) (fun c155 => ?_) (fun c155 => ?_)
                      · --4 taken
                        rw [hQ]
                        exact W.vret hx hb hr (fun t ht hW => ⟨⟨E144, rfl, ⟨hI, hKp, ⟨by (try rw [(show xi (E144 2) 1 = y143 from vi_e pw145.1)]); (try rw [ey1]); all_goals omega, by show FedC (bysP a0 4) _ _; rw [k154, k147, k101, k9]; exact ((Fed.rf.tr k100).tr k146)⟩⟩, by show va_P (dC, dI) vwCl (WL (LC cf) ad E144) t.heap; rw [ht]; exact hP⟩, hS.F ht⟩) hS.2.2 dX10_put_57
                      · --4 not
                        exact absurd c155 (by decide)
                    · --16 not
                      have t156 : ¬ y150.toInt = 0 := ti_ne c151
                      have i157 : 1 ≤ y150.toInt ∧ y150.toInt ≤ 255 := iv_ne_l t156 iy150 (il_ 0)
                      have b0 : bN (ub_by a0 0) = 1 := bN_1 (fun q9 => c151 ((show ub_by a0 0 = y150 from by rw [ey150, ey149]; rfl).symm.trans q9))
                      refine lv_aload_n hx hb dX10_put_19 rfl (lv_at hl 2 rfl) ?_
                      refine th_getL (ci := 11) (C := RX10) (T := TX10) (N := 10) (v := .int y143) hx hb hts hinX10 hown hK hP hI 2 (mF 2 rfl) rfl rfl 1 (Nat.le_of_ble_eq_true rfl) (hts _ (vA_in _ _ (in_8 _ (zs16 (zs4 (zs0)))))) (fun _ h9 => h9) pw145.1 dX10_put_20 ?_
                      refine lv_aload_n hx hb dX10_put_23 rfl (lv_at hl 2 rfl) ?_
                      refine th_getL (ci := 11) (C := RX10) (T := TX10) (N := 10) (v := .ref (ad 21)) hx hb hts hinX10 hown hK hP hI 2 (mF 2 rfl) rfl rfl 0 (Nat.le_of_ble_eq_true rfl) (hts _ (vA_in _ _ (in_8 _ (zs16 (zs1 (zs0)))))) (fun _ h9 => h9) (hI.fr 2 (mF 2 rfl) rfl (Nat.le_of_ble_eq_true rfl) 21 rfl) dX10_put_24 ?_
                      refine va_alen (v := 200) hx hb hK hP (posL 21 (LC cf)) 0 (hI.ar 21 (mF 21 rfl) rfl) rfl rfl dX10_put_27 ?_
                      refine lv_icmp_ge (tgt := 51) hx hb dX10_put_28 (by decide) (fun c158 => ?_) (fun c158 => ?_)
                      · --28 taken
                        have t159 : (200 : Int) ≤ y143.toInt := ti_le c158
                        have i160 : 200 ≤ y143.toInt ∧ y143.toInt ≤ 200 := iv_le_r t159 (il_ 200) iy143 (by decide)
                        exfalso
                        omega
                      · --28 not
                        have t161 : y143.toInt < 200 := ti_nle c158
                        have i162 : 2 ≤ y143.toInt ∧ y143.toInt ≤ 199 := iv_lt_l t161 iy143 (il_ 200) (by decide)
                        refine lv_aload_n hx hb dX10_put_31 rfl (lv_at hl 2 rfl) ?_
                        refine th_getL (ci := 11) (C := RX10) (T := TX10) (N := 10) (v := .ref (ad 21)) hx hb hts hinX10 hown hK hP hI 2 (mF 2 rfl) rfl rfl 0 (Nat.le_of_ble_eq_true rfl) (hts _ (vA_in _ _ (in_8 _ (zs16 (zs1 (zs0)))))) (fun _ h9 => h9) (hI.fr 2 (mF 2 rfl) rfl (Nat.le_of_ble_eq_true rfl) 21 rfl) dX10_put_32 ?_
                        refine lv_aload_n hx hb dX10_put_35 rfl (lv_at hl 2 rfl) ?_
                        refine th_getL (ci := 11) (C := RX10) (T := TX10) (N := 10) (v := .int y143) hx hb hts hinX10 hown hK hP hI 2 (mF 2 rfl) rfl rfl 1 (Nat.le_of_ble_eq_true rfl) (hts _ (vA_in _ _ (in_8 _ (zs16 (zs4 (zs0)))))) (fun _ h9 => h9) pw145.1 dX10_put_36 ?_
                        refine lv_iload_n hx hb dX10_put_39 rfl (lv_at hl 0 rfl) ?_
                        have n163 : vp_in y143 200 := (iv_in (n := 200) i162 (by decide))
                        refine th_iastL hx hb hK hP (WL_D hD) hS hI 21 (mF 21 rfl) rfl rfl n163 (okI rfl (iv_w i157 (by decide))) dX10_put_40 (fun H locs E164 pw165 hI hP hS => ?_)
                        have hKp := hKp.pw pw165 rfl
                        refine lv_aload_n hx hb dX10_put_41 rfl (lv_at hl 2 rfl) ?_
                        refine lv_dup hx hb dX10_put_42 rfl ?_
                        refine th_getL (ci := 11) (C := RX10) (T := TX10) (N := 10) (v := .int y143) hx hb hts hinX10 hown hK hP hI 2 (mF 2 rfl) rfl rfl 1 (Nat.le_of_ble_eq_true rfl) (hts _ (vA_in _ _ (in_8 _ (zs16 (zs4 (zs0)))))) (fun _ h9 => h9) ((pw165.2 2 1 (fun q9 => absurd q9.1 (Nat.ne_of_beq_eq_false rfl))).trans pw145.1) dX10_put_43 ?_
                        refine lv_iconst (v := 1) hx hb dX10_put_46 (by decide) ?_
                        refine lv_iadd hx hb dX10_put_47 ?_
                        refine lv_topi (fun y166 ey166 => ?_)
                        obtain ⟨ty166, iy166⟩ := ti_add (e := 3) (f := 200) i162 ln_1 ey166 (by decide)
                        have ty166 : y166.toInt = y143.toInt + 1 := ty166
                        have iy166 : 3 ≤ y166.toInt ∧ y166.toInt ≤ 200 := iy166
                        refine th_putL (ci := 11) (C := RX10) (T := TX10) (N := 10) (v := .int y166) (ty := .int) hx hb hts hinX10 tyX10 tyX10_ok nmX10 hown hK hP (WL_D hD) hS hI 2 (mF 2 rfl) rfl rfl 1 (Nat.le_of_ble_eq_true rfl) (hts _ (vA_in _ _ (in_8 _ (zs16 (zs4 (zs0)))))) (fun _ h9 => h9) rfl (by decide +kernel) rfl rfl (okI rfl (iv_w iy166 (by decide))) dX10_put_48 (fun H locs E167 pw168 hI hP hS => ?_)
                        have hKp := hKp.pw pw168 rfl
                        have k169 := FedC.push pw165 pw168 (vi_e pw145.1) ty166 (by omega)
                        have k170 : bysP a0 4 = bysP a0 3 ++ [y150.toInt] := bysP_1 (k := 3) (show ub_by a0 0 = y150 from by rw [ey150, ey149]; rfl) c151
                        refine lv_iinc (v := -8) (lv' := [(2, .int (-8)), (3, .int y150), (0, .ref (ad 2)), (1, .int a0)]) hx hb dX10_put_51 hl (k := 1) rfl (by decide) (by decide) rfl (fun ls hl => ?_)
                        refine lv_goto (tgt := 3) hx hb dX10_put_54 (by decide) ?_
                        refine lv_iload_n hx hb dX10_put_3 rfl (lv_at hl 0 rfl) ?_
                        refine lv_if_lt (tgt := 57) hx hb dX10_put_4 (by decide) (fun c171 => ?_) (fun c171 => ?_)
                        · --4 taken
                          rw [hQ]
                          exact W.vret hx hb hr (fun t ht hW => ⟨⟨E167, rfl, ⟨hI, hKp, ⟨by (try rw [(show xi (E167 2) 1 = y166 from vi_e pw168.1)]); (try rw [ey1]); all_goals omega, by show FedC (bysP a0 4) _ _; rw [k170, k147, k101, k9]; exact (((Fed.rf.tr k100).tr k146).tr k169)⟩⟩, by show va_P (dC, dI) vwCl (WL (LC cf) ad E167) t.heap; rw [ht]; exact hP⟩, hS.F ht⟩) hS.2.2 dX10_put_57
                        · --4 not
                          exact absurd c171 (by decide)
    · --16 not
      have t172 : ¬ y5.toInt = 0 := ti_ne c6
      have i173 : 1 ≤ y5.toInt ∧ y5.toInt ≤ 255 := iv_ne_l t172 iy5 (il_ 0)
      have b24 : bN (ub_by a0 24) = 1 := bN_1 (fun q9 => c6 ((show ub_by a0 24 = y5 from by rw [ey5, ey4]; rfl).symm.trans q9))
      refine lv_aload_n hx hb dX10_put_19 rfl (lv_at hl 2 rfl) ?_
      refine th_getL (ci := 11) (C := RX10) (T := TX10) (N := 10) (v := .int y1) hx hb hts hinX10 hown hK hP hI 2 (mF 2 rfl) rfl rfl 1 (Nat.le_of_ble_eq_true rfl) (hts _ (vA_in _ _ (in_8 _ (zs16 (zs4 (zs0)))))) (fun _ h9 => h9) fy1 dX10_put_20 ?_
      refine lv_aload_n hx hb dX10_put_23 rfl (lv_at hl 2 rfl) ?_
      refine th_getL (ci := 11) (C := RX10) (T := TX10) (N := 10) (v := .ref (ad 21)) hx hb hts hinX10 hown hK hP hI 2 (mF 2 rfl) rfl rfl 0 (Nat.le_of_ble_eq_true rfl) (hts _ (vA_in _ _ (in_8 _ (zs16 (zs1 (zs0)))))) (fun _ h9 => h9) (hI.fr 2 (mF 2 rfl) rfl (Nat.le_of_ble_eq_true rfl) 21 rfl) dX10_put_24 ?_
      refine va_alen (v := 200) hx hb hK hP (posL 21 (LC cf)) 0 (hI.ar 21 (mF 21 rfl) rfl) rfl rfl dX10_put_27 ?_
      refine lv_icmp_ge (tgt := 51) hx hb dX10_put_28 (by decide) (fun c174 => ?_) (fun c174 => ?_)
      · --28 taken
        have t175 : (200 : Int) ≤ y1.toInt := ti_le c174
        have i176 : 200 ≤ y1.toInt ∧ y1.toInt ≤ 200 := iv_le_r t175 (il_ 200) i2 (by decide)
        exfalso
        omega
      · --28 not
        have t177 : y1.toInt < 200 := ti_nle c174
        have i178 : 0 ≤ y1.toInt ∧ y1.toInt ≤ 199 := iv_lt_l t177 i2 (il_ 200) (by decide)
        refine lv_aload_n hx hb dX10_put_31 rfl (lv_at hl 2 rfl) ?_
        refine th_getL (ci := 11) (C := RX10) (T := TX10) (N := 10) (v := .ref (ad 21)) hx hb hts hinX10 hown hK hP hI 2 (mF 2 rfl) rfl rfl 0 (Nat.le_of_ble_eq_true rfl) (hts _ (vA_in _ _ (in_8 _ (zs16 (zs1 (zs0)))))) (fun _ h9 => h9) (hI.fr 2 (mF 2 rfl) rfl (Nat.le_of_ble_eq_true rfl) 21 rfl) dX10_put_32 ?_
        refine lv_aload_n hx hb dX10_put_35 rfl (lv_at hl 2 rfl) ?_
        refine th_getL (ci := 11) (C := RX10) (T := TX10) (N := 10) (v := .int y1) hx hb hts hinX10 hown hK hP hI 2 (mF 2 rfl) rfl rfl 1 (Nat.le_of_ble_eq_true rfl) (hts _ (vA_in _ _ (in_8 _ (zs16 (zs4 (zs0)))))) (fun _ h9 => h9) fy1 dX10_put_36 ?_
        refine lv_iload_n hx hb dX10_put_39 rfl (lv_at hl 0 rfl) ?_
        have n179 : vp_in y1 200 := (iv_in (n := 200) i178 (by decide))
        refine th_iastL hx hb hK hP (WL_D hD) hS hI 21 (mF 21 rfl) rfl rfl n179 (okI rfl (iv_w i173 (by decide))) dX10_put_40 (fun H locs E180 pw181 hI hP hS => ?_)
        have hKp := hKp.pw pw181 rfl
        refine lv_aload_n hx hb dX10_put_41 rfl (lv_at hl 2 rfl) ?_
        refine lv_dup hx hb dX10_put_42 rfl ?_
        refine th_getL (ci := 11) (C := RX10) (T := TX10) (N := 10) (v := .int y1) hx hb hts hinX10 hown hK hP hI 2 (mF 2 rfl) rfl rfl 1 (Nat.le_of_ble_eq_true rfl) (hts _ (vA_in _ _ (in_8 _ (zs16 (zs4 (zs0)))))) (fun _ h9 => h9) ((pw181.2 2 1 (fun q9 => absurd q9.1 (Nat.ne_of_beq_eq_false rfl))).trans fy1) dX10_put_43 ?_
        refine lv_iconst (v := 1) hx hb dX10_put_46 (by decide) ?_
        refine lv_iadd hx hb dX10_put_47 ?_
        refine lv_topi (fun y182 ey182 => ?_)
        obtain ⟨ty182, iy182⟩ := ti_add (e := 1) (f := 200) i178 ln_1 ey182 (by decide)
        have ty182 : y182.toInt = y1.toInt + 1 := ty182
        have iy182 : 1 ≤ y182.toInt ∧ y182.toInt ≤ 200 := iy182
        refine th_putL (ci := 11) (C := RX10) (T := TX10) (N := 10) (v := .int y182) (ty := .int) hx hb hts hinX10 tyX10 tyX10_ok nmX10 hown hK hP (WL_D hD) hS hI 2 (mF 2 rfl) rfl rfl 1 (Nat.le_of_ble_eq_true rfl) (hts _ (vA_in _ _ (in_8 _ (zs16 (zs4 (zs0)))))) (fun _ h9 => h9) rfl (by decide +kernel) rfl rfl (okI rfl (iv_w iy182 (by decide))) dX10_put_48 (fun H locs E183 pw184 hI hP hS => ?_)
        have hKp := hKp.pw pw184 rfl
        have k185 := FedC.push pw181 pw184 (vi_e fy1) ty182 (by omega)
        have k186 : bysP a0 1 = bysP a0 0 ++ [y5.toInt] := bysP_1 (k := 0) (show ub_by a0 24 = y5 from by rw [ey5, ey4]; rfl) c6
        refine lv_iinc (v := 16) (lv' := [(2, .int 16), (3, .int y5), (0, .ref (ad 2)), (1, .int a0)]) hx hb dX10_put_51 hl (k := 1) rfl (by decide) (by decide) rfl (fun ls hl => ?_)
        refine lv_goto (tgt := 3) hx hb dX10_put_54 (by decide) ?_
        refine lv_iload_n hx hb dX10_put_3 rfl (lv_at hl 0 rfl) ?_
        refine lv_if_lt (tgt := 57) hx hb dX10_put_4 (by decide) (fun c187 => ?_) (fun c187 => ?_)
        · --4 taken
          exact absurd c187 (by decide)
        · --4 not
          refine lv_iload_n hx hb dX10_put_7 rfl (lv_at hl 3 rfl) ?_
          refine lv_iload_n hx hb dX10_put_8 rfl (lv_at hl 0 rfl) ?_
          refine lv_iushr hx hb dX10_put_9 rfl ?_
          refine lv_topi (fun y188 ey188 => ?_)
          refine lv_sipush (v := 255) hx hb dX10_put_10 (by decide) ?_
          refine lv_iand hx hb dX10_put_13 ?_
          refine lv_topi (fun y189 ey189 => ?_)
          have iy189 : 0 ≤ y189.toInt ∧ y189.toInt ≤ 255 := ti_and (by decide) ey189
          refine lv_istore_n (lv' := [(3, .int y189), (2, .int 16), (0, .ref (ad 2)), (1, .int a0)]) hx hb dX10_put_14 rfl hl (by decide) rfl (fun ls hl => ?_)
          refine lv_iload_n hx hb dX10_put_15 rfl (lv_at hl 0 rfl) ?_
          refine lv_if_eq (tgt := 51) hx hb dX10_put_16 (by decide) (fun c190 => ?_) (fun c190 => ?_)
          · --16 taken
            have t191 : y189.toInt = 0 := ti_eq c190
            have i192 : 0 ≤ y189.toInt ∧ y189.toInt ≤ 0 := iv_eqi t191 iy189 (il_ 0) (by decide)
            have b16 : bN (ub_by a0 16) = 0 := bN_0 ((show ub_by a0 16 = y189 from by rw [ey189, ey188]; rfl).trans c190)
            have k193 : bysP a0 2 = bysP a0 1 := bysP_0 (k := 1) (show ub_by a0 16 = y189 from by rw [ey189, ey188]; rfl) c190
            refine lv_iinc (v := 8) (lv' := [(2, .int 8), (3, .int y189), (0, .ref (ad 2)), (1, .int a0)]) hx hb dX10_put_51 hl (k := 1) rfl (by decide) (by decide) rfl (fun ls hl => ?_)
            refine lv_goto (tgt := 3) hx hb dX10_put_54 (by decide) ?_
            refine lv_iload_n hx hb dX10_put_3 rfl (lv_at hl 0 rfl) ?_
            refine lv_if_lt (tgt := 57) hx hb dX10_put_4 (by decide) (fun c194 => ?_) (fun c194 => ?_)
            · --4 taken
              exact absurd c194 (by decide)
            · --4 not
              refine lv_iload_n hx hb dX10_put_7 rfl (lv_at hl 3 rfl) ?_
              refine lv_iload_n hx hb dX10_put_8 rfl (lv_at hl 0 rfl) ?_
              refine lv_iushr hx hb dX10_put_9 rfl ?_
              refine lv_topi (fun y195 ey195 => ?_)
              refine lv_sipush (v := 255) hx hb dX10_put_10 (by decide) ?_
              refine lv_iand hx hb dX10_put_13 ?_
              refine lv_topi (fun y196 ey196 => ?_)
              have iy196 : 0 ≤ y196.toInt ∧ y196.toInt ≤ 255 := ti_and (by decide) ey196
              refine lv_istore_n (lv' := [(3, .int y196), (2, .int 8), (0, .ref (ad 2)), (1, .int a0)]) hx hb dX10_put_14 rfl hl (by decide) rfl (fun ls hl => ?_)
              refine lv_iload_n hx hb dX10_put_15 rfl (lv_at hl 0 rfl) ?_
              refine lv_if_eq (tgt := 51) hx hb dX10_put_16 (by decide) (fun c197 => ?_) (fun c197 => ?_)
              · --16 taken
                have t198 : y196.toInt = 0 := ti_eq c197
                have i199 : 0 ≤ y196.toInt ∧ y196.toInt ≤ 0 := iv_eqi t198 iy196 (il_ 0) (by decide)
                have b8 : bN (ub_by a0 8) = 0 := bN_0 ((show ub_by a0 8 = y196 from by rw [ey196, ey195]; rfl).trans c197)
                have k200 : bysP a0 3 = bysP a0 2 := bysP_0 (k := 2) (show ub_by a0 8 = y196 from by rw [ey196, ey195]; rfl) c197
                refine lv_iinc (v := 0) (lv' := [(2, .int 0), (3, .int y196), (0, .ref (ad 2)), (1, .int a0)]) hx hb dX10_put_51 hl (k := 1) rfl (by decide) (by decide) rfl (fun ls hl => ?_)
                refine lv_goto (tgt := 3) hx hb dX10_put_54 (by decide) ?_
                refine lv_iload_n hx hb dX10_put_3 rfl (lv_at hl 0 rfl) ?_
                refine lv_if_lt (tgt := 57) hx hb dX10_put_4 (by decide) (fun c201 => ?_) (fun c201 => ?_)
                · --4 taken
                  exact absurd c201 (by decide)
                · --4 not
                  refine lv_iload_n hx hb dX10_put_7 rfl (lv_at hl 3 rfl) ?_
                  refine lv_iload_n hx hb dX10_put_8 rfl (lv_at hl 0 rfl) ?_
                  refine lv_iushr hx hb dX10_put_9 rfl ?_
                  refine lv_topi (fun y202 ey202 => ?_)
                  refine lv_sipush (v := 255) hx hb dX10_put_10 (by decide) ?_
                  refine lv_iand hx hb dX10_put_13 ?_
                  refine lv_topi (fun y203 ey203 => ?_)
                  have iy203 : 0 ≤ y203.toInt ∧ y203.toInt ≤ 255 := ti_and (by decide) ey203
                  refine lv_istore_n (lv' := [(3, .int y203), (2, .int 0), (0, .ref (ad 2)), (1, .int a0)]) hx hb dX10_put_14 rfl hl (by decide) rfl (fun ls hl => ?_)
                  refine lv_iload_n hx hb dX10_put_15 rfl (lv_at hl 0 rfl) ?_
                  refine lv_if_eq (tgt := 51) hx hb dX10_put_16 (by decide) (fun c204 => ?_) (fun c204 => ?_)
                  · --16 taken
                    have t205 : y203.toInt = 0 := ti_eq c204
                    have i206 : 0 ≤ y203.toInt ∧ y203.toInt ≤ 0 := iv_eqi t205 iy203 (il_ 0) (by decide)
                    have b0 : bN (ub_by a0 0) = 0 := bN_0 ((show ub_by a0 0 = y203 from by rw [ey203, ey202]; rfl).trans c204)
                    have k207 : bysP a0 4 = bysP a0 3 := bysP_0 (k := 3) (show ub_by a0 0 = y203 from by rw [ey203, ey202]; rfl) c204
                    refine lv_iinc (v := -8) (lv' := [(2, .int (-8)), (3, .int y203), (0, .ref (ad 2)), (1, .int a0)]) hx hb dX10_put_51 hl (k := 1) rfl (by decide) (by decide) rfl (fun ls hl => ?_)
                    refine lv_goto (tgt := 3) hx hb dX10_put_54 (by decide) ?_
                    refine lv_iload_n hx hb dX10_put_3 rfl (lv_at hl 0 rfl) ?_
                    refine lv_if_lt (tgt := 57) hx hb dX10_put_4 (by decide) (fun c208 => ?_) (fun c208 => ?_)
                    · --4 taken
                      rw [hQ]
                      exact W.vret hx hb hr (fun t ht hW => ⟨⟨E183, rfl, ⟨hI, hKp, ⟨by (try rw [(show xi (E183 2) 1 = y182 from vi_e pw184.1)]); (try rw [ey1]); all_goals omega, by show FedC (bysP a0 4) _ _; rw [k207, k200, k193, k186]; exact (Fed.rf.tr k185)⟩⟩, by show va_P (dC, dI) vwCl (WL (LC cf) ad E183) t.heap; rw [ht]; exact hP⟩, hS.F ht⟩) hS.2.2 dX10_put_57
                    · --4 not
                      exact absurd c208 (by decide)
                  · --16 not
                    have t209 : ¬ y203.toInt = 0 := ti_ne c204
                    have i210 : 1 ≤ y203.toInt ∧ y203.toInt ≤ 255 := iv_ne_l t209 iy203 (il_ 0)
                    have b0 : bN (ub_by a0 0) = 1 := bN_1 (fun q9 => c204 ((show ub_by a0 0 = y203 from by rw [ey203, ey202]; rfl).symm.trans q9))
                    refine lv_aload_n hx hb dX10_put_19 rfl (lv_at hl 2 rfl) ?_
                    refine th_getL (ci := 11) (C := RX10) (T := TX10) (N := 10) (v := .int y182) hx hb hts hinX10 hown hK hP hI 2 (mF 2 rfl) rfl rfl 1 (Nat.le_of_ble_eq_true rfl) (hts _ (vA_in _ _ (in_8 _ (zs16 (zs4 (zs0)))))) (fun _ h9 => h9) pw184.1 dX10_put_20 ?_
                    refine lv_aload_n hx hb dX10_put_23 rfl (lv_at hl 2 rfl) ?_
                    refine th_getL (ci := 11) (C := RX10) (T := TX10) (N := 10) (v := .ref (ad 21)) hx hb hts hinX10 hown hK hP hI 2 (mF 2 rfl) rfl rfl 0 (Nat.le_of_ble_eq_true rfl) (hts _ (vA_in _ _ (in_8 _ (zs16 (zs1 (zs0)))))) (fun _ h9 => h9) (hI.fr 2 (mF 2 rfl) rfl (Nat.le_of_ble_eq_true rfl) 21 rfl) dX10_put_24 ?_
                    refine va_alen (v := 200) hx hb hK hP (posL 21 (LC cf)) 0 (hI.ar 21 (mF 21 rfl) rfl) rfl rfl dX10_put_27 ?_
                    refine lv_icmp_ge (tgt := 51) hx hb dX10_put_28 (by decide) (fun c211 => ?_) (fun c211 => ?_)
                    · --28 taken
                      have t212 : (200 : Int) ≤ y182.toInt := ti_le c211
                      have i213 : 200 ≤ y182.toInt ∧ y182.toInt ≤ 200 := iv_le_r t212 (il_ 200) iy182 (by decide)
                      exfalso
                      omega
                    · --28 not
                      have t214 : y182.toInt < 200 := ti_nle c211
                      have i215 : 1 ≤ y182.toInt ∧ y182.toInt ≤ 199 := iv_lt_l t214 iy182 (il_ 200) (by decide)
                      refine lv_aload_n hx hb dX10_put_31 rfl (lv_at hl 2 rfl) ?_
                      refine th_getL (ci := 11) (C := RX10) (T := TX10) (N := 10) (v := .ref (ad 21)) hx hb hts hinX10 hown hK hP hI 2 (mF 2 rfl) rfl rfl 0 (Nat.le_of_ble_eq_true rfl) (hts _ (vA_in _ _ (in_8 _ (zs16 (zs1 (zs0)))))) (fun _ h9 => h9) (hI.fr 2 (mF 2 rfl) rfl (Nat.le_of_ble_eq_true rfl) 21 rfl) dX10_put_32 ?_
                      refine lv_aload_n hx hb dX10_put_35 rfl (lv_at hl 2 rfl) ?_
                      refine th_getL (ci := 11) (C := RX10) (T := TX10) (N := 10) (v := .int y182) hx hb hts hinX10 hown hK hP hI 2 (mF 2 rfl) rfl rfl 1 (Nat.le_of_ble_eq_true rfl) (hts _ (vA_in _ _ (in_8 _ (zs16 (zs4 (zs0)))))) (fun _ h9 => h9) pw184.1 dX10_put_36 ?_
                      refine lv_iload_n hx hb dX10_put_39 rfl (lv_at hl 0 rfl) ?_
                      have n216 : vp_in y182 200 := (iv_in (n := 200) i215 (by decide))
                      refine th_iastL hx hb hK hP (WL_D hD) hS hI 21 (mF 21 rfl) rfl rfl n216 (okI rfl (iv_w i210 (by decide))) dX10_put_40 (fun H locs E217 pw218 hI hP hS => ?_)
                      have hKp := hKp.pw pw218 rfl
                      refine lv_aload_n hx hb dX10_put_41 rfl (lv_at hl 2 rfl) ?_
                      refine lv_dup hx hb dX10_put_42 rfl ?_
                      refine th_getL (ci := 11) (C := RX10) (T := TX10) (N := 10) (v := .int y182) hx hb hts hinX10 hown hK hP hI 2 (mF 2 rfl) rfl rfl 1 (Nat.le_of_ble_eq_true rfl) (hts _ (vA_in _ _ (in_8 _ (zs16 (zs4 (zs0)))))) (fun _ h9 => h9) ((pw218.2 2 1 (fun q9 => absurd q9.1 (Nat.ne_of_beq_eq_false rfl))).trans pw184.1) dX10_put_43 ?_
                      refine lv_iconst (v := 1) hx hb dX10_put_46 (by decide) ?_
                      refine lv_iadd hx hb dX10_put_47 ?_
                      refine lv_topi (fun y219 ey219 => ?_)
                      obtain ⟨ty219, iy219⟩ := ti_add (e := 2) (f := 200) i215 ln_1 ey219 (by decide)
                      have ty219 : y219.toInt = y182.toInt + 1 := ty219
                      have iy219 : 2 ≤ y219.toInt ∧ y219.toInt ≤ 200 := iy219
                      refine th_putL (ci := 11) (C := RX10) (T := TX10) (N := 10) (v := .int y219) (ty := .int) hx hb hts hinX10 tyX10 tyX10_ok nmX10 hown hK hP (WL_D hD) hS hI 2 (mF 2 rfl) rfl rfl 1 (Nat.le_of_ble_eq_true rfl) (hts _ (vA_in _ _ (in_8 _ (zs16 (zs4 (zs0)))))) (fun _ h9 => h9) rfl (by decide +kernel) rfl rfl (okI rfl (iv_w iy219 (by decide))) dX10_put_48 (fun H locs E220 pw221 hI hP hS => ?_)
                      have hKp := hKp.pw pw221 rfl
                      have k222 := FedC.push pw218 pw221 (vi_e pw184.1) ty219 (by omega)
                      have k223 : bysP a0 4 = bysP a0 3 ++ [y203.toInt] := bysP_1 (k := 3) (show ub_by a0 0 = y203 from by rw [ey203, ey202]; rfl) c204
                      refine lv_iinc (v := -8) (lv' := [(2, .int (-8)), (3, .int y203), (0, .ref (ad 2)), (1, .int a0)]) hx hb dX10_put_51 hl (k := 1) rfl (by decide) (by decide) rfl (fun ls hl => ?_)
                      refine lv_goto (tgt := 3) hx hb dX10_put_54 (by decide) ?_
                      refine lv_iload_n hx hb dX10_put_3 rfl (lv_at hl 0 rfl) ?_
                      refine lv_if_lt (tgt := 57) hx hb dX10_put_4 (by decide) (fun c224 => ?_) (fun c224 => ?_)
                      · --4 taken
                        rw [hQ]
                        exact W.vret hx hb hr (fun t ht hW => ⟨⟨E220, rfl, ⟨hI, hKp, ⟨by (try rw [(show xi (E220 2) 1 = y219 from vi_e pw221.1)]); (try rw [ey1]); all_goals omega, by show FedC (bysP a0 4) _ _; rw [k223, k200, k193, k186]; exact ((Fed.rf.tr k185).tr k222)⟩⟩, by show va_P (dC, dI) vwCl (WL (LC cf) ad E220) t.heap; rw [ht]; exact hP⟩, hS.F ht⟩) hS.2.2 dX10_put_57
                      · --4 not
                        exact absurd c224 (by decide)
              · --16 not
                have t225 : ¬ y196.toInt = 0 := ti_ne c197
                have i226 : 1 ≤ y196.toInt ∧ y196.toInt ≤ 255 := iv_ne_l t225 iy196 (il_ 0)
                have b8 : bN (ub_by a0 8) = 1 := bN_1 (fun q9 => c197 ((show ub_by a0 8 = y196 from by rw [ey196, ey195]; rfl).symm.trans q9))
                refine lv_aload_n hx hb dX10_put_19 rfl (lv_at hl 2 rfl) ?_
                refine th_getL (ci := 11) (C := RX10) (T := TX10) (N := 10) (v := .int y182) hx hb hts hinX10 hown hK hP hI 2 (mF 2 rfl) rfl rfl 1 (Nat.le_of_ble_eq_true rfl) (hts _ (vA_in _ _ (in_8 _ (zs16 (zs4 (zs0)))))) (fun _ h9 => h9) pw184.1 dX10_put_20 ?_
                refine lv_aload_n hx hb dX10_put_23 rfl (lv_at hl 2 rfl) ?_
                refine th_getL (ci := 11) (C := RX10) (T := TX10) (N := 10) (v := .ref (ad 21)) hx hb hts hinX10 hown hK hP hI 2 (mF 2 rfl) rfl rfl 0 (Nat.le_of_ble_eq_true rfl) (hts _ (vA_in _ _ (in_8 _ (zs16 (zs1 (zs0)))))) (fun _ h9 => h9) (hI.fr 2 (mF 2 rfl) rfl (Nat.le_of_ble_eq_true rfl) 21 rfl) dX10_put_24 ?_
                refine va_alen (v := 200) hx hb hK hP (posL 21 (LC cf)) 0 (hI.ar 21 (mF 21 rfl) rfl) rfl rfl dX10_put_27 ?_
                refine lv_icmp_ge (tgt := 51) hx hb dX10_put_28 (by decide) (fun c227 => ?_) (fun c227 => ?_)
                · --28 taken
                  have t228 : (200 : Int) ≤ y182.toInt := ti_le c227
                  have i229 : 200 ≤ y182.toInt ∧ y182.toInt ≤ 200 := iv_le_r t228 (il_ 200) iy182 (by decide)
                  exfalso
                  omega
                · --28 not
                  have t230 : y182.toInt < 200 := ti_nle c227
                  have i231 : 1 ≤ y182.toInt ∧ y182.toInt ≤ 199 := iv_lt_l t230 iy182 (il_ 200) (by decide)
                  refine lv_aload_n hx hb dX10_put_31 rfl (lv_at hl 2 rfl) ?_
                  refine th_getL (ci := 11) (C := RX10) (T := TX10) (N := 10) (v := .ref (ad 21)) hx hb hts hinX10 hown hK hP hI 2 (mF 2 rfl) rfl rfl 0 (Nat.le_of_ble_eq_true rfl) (hts _ (vA_in _ _ (in_8 _ (zs16 (zs1 (zs0)))))) (fun _ h9 => h9) (hI.fr 2 (mF 2 rfl) rfl (Nat.le_of_ble_eq_true rfl) 21 rfl) dX10_put_32 ?_
                  refine lv_aload_n hx hb dX10_put_35 rfl (lv_at hl 2 rfl) ?_
                  refine th_getL (ci := 11) (C := RX10) (T := TX10) (N := 10) (v := .int y182) hx hb hts hinX10 hown hK hP hI 2 (mF 2 rfl) rfl rfl 1 (Nat.le_of_ble_eq_true rfl) (hts _ (vA_in _ _ (in_8 _ (zs16 (zs4 (zs0)))))) (fun _ h9 => h9) pw184.1 dX10_put_36 ?_
                  refine lv_iload_n hx hb dX10_put_39 rfl (lv_at hl 0 rfl) ?_
                  have n232 : vp_in y182 200 := (iv_in (n := 200) i231 (by decide))
                  refine th_iastL hx hb hK hP (WL_D hD) hS hI 21 (mF 21 rfl) rfl rfl n232 (okI rfl (iv_w i226 (by decide))) dX10_put_40 (fun H locs E233 pw234 hI hP hS => ?_)
                  have hKp := hKp.pw pw234 rfl
                  refine lv_aload_n hx hb dX10_put_41 rfl (lv_at hl 2 rfl) ?_
                  refine lv_dup hx hb dX10_put_42 rfl ?_
                  refine th_getL (ci := 11) (C := RX10) (T := TX10) (N := 10) (v := .int y182) hx hb hts hinX10 hown hK hP hI 2 (mF 2 rfl) rfl rfl 1 (Nat.le_of_ble_eq_true rfl) (hts _ (vA_in _ _ (in_8 _ (zs16 (zs4 (zs0)))))) (fun _ h9 => h9) ((pw234.2 2 1 (fun q9 => absurd q9.1 (Nat.ne_of_beq_eq_false rfl))).trans pw184.1) dX10_put_43 ?_
                  refine lv_iconst (v := 1) hx hb dX10_put_46 (by decide) ?_
                  refine lv_iadd hx hb dX10_put_47 ?_
                  refine lv_topi (fun y235 ey235 => ?_)
                  obtain ⟨ty235, iy235⟩ := ti_add (e := 2) (f := 200) i231 ln_1 ey235 (by decide)
                  have ty235 : y235.toInt = y182.toInt + 1 := ty235
                  have iy235 : 2 ≤ y235.toInt ∧ y235.toInt ≤ 200 := iy235
                  refine th_putL (ci := 11) (C := RX10) (T := TX10) (N := 10) (v := .int y235) (ty := .int) hx hb hts hinX10 tyX10 tyX10_ok nmX10 hown hK hP (WL_D hD) hS hI 2 (mF 2 rfl) rfl rfl 1 (Nat.le_of_ble_eq_true rfl) (hts _ (vA_in _ _ (in_8 _ (zs16 (zs4 (zs0)))))) (fun _ h9 => h9) rfl (by decide +kernel) rfl rfl (okI rfl (iv_w iy235 (by decide))) dX10_put_48 (fun H locs E236 pw237 hI hP hS => ?_)
                  have hKp := hKp.pw pw237 rfl
                  have k238 := FedC.push pw234 pw237 (vi_e pw184.1) ty235 (by omega)
                  have k239 : bysP a0 3 = bysP a0 2 ++ [y196.toInt] := bysP_1 (k := 2) (show ub_by a0 8 = y196 from by rw [ey196, ey195]; rfl) c197
                  refine lv_iinc (v := 0) (lv' := [(2, .int 0), (3, .int y196), (0, .ref (ad 2)), (1, .int a0)]) hx hb dX10_put_51 hl (k := 1) rfl (by decide) (by decide) rfl (fun ls hl => ?_)
                  refine lv_goto (tgt := 3) hx hb dX10_put_54 (by decide) ?_
                  refine lv_iload_n hx hb dX10_put_3 rfl (lv_at hl 0 rfl) ?_
                  refine lv_if_lt (tgt := 57) hx hb dX10_put_4 (by decide) (fun c240 => ?_) (fun c240 => ?_)
                  · --4 taken
                    exact absurd c240 (by decide)
                  · --4 not
                    refine lv_iload_n hx hb dX10_put_7 rfl (lv_at hl 3 rfl) ?_
                    refine lv_iload_n hx hb dX10_put_8 rfl (lv_at hl 0 rfl) ?_
                    refine lv_iushr hx hb dX10_put_9 rfl ?_
                    refine lv_topi (fun y241 ey241 => ?_)
                    refine lv_sipush (v := 255) hx hb dX10_put_10 (by decide) ?_
                    refine lv_iand hx hb dX10_put_13 ?_
                    refine lv_topi (fun y242 ey242 => ?_)
                    have iy242 : 0 ≤ y242.toInt ∧ y242.toInt ≤ 255 := ti_and (by decide) ey242
                    refine lv_istore_n (lv' := [(3, .int y242), (2, .int 0), (0, .ref (ad 2)), (1, .int a0)]) hx hb dX10_put_14 rfl hl (by decide) rfl (fun ls hl => ?_)
                    refine lv_iload_n hx hb dX10_put_15 rfl (lv_at hl 0 rfl) ?_
                    refine lv_if_eq (tgt := 51) hx hb dX10_put_16 (by decide) (fun c243 => ?_) (fun c243 => ?_)
                    · --16 taken
                      have t244 : y242.toInt = 0 := ti_eq c243
                      have i245 : 0 ≤ y242.toInt ∧ y242.toInt ≤ 0 := iv_eqi t244 iy242 (il_ 0) (by decide)
                      have b0 : bN (ub_by a0 0) = 0 := bN_0 ((show ub_by a0 0 = y242 from by rw [ey242, ey241]; rfl).trans c243)
                      have k246 : bysP a0 4 = bysP a0 3 := bysP_0 (k := 3) (show ub_by a0 0 = y242 from by rw [ey242, ey241]; rfl) c243
                      refine lv_iinc (v := -8) (lv' := [(2, .int (-8)), (3, .int y242), (0, .ref (ad 2)), (1, .int a0)]) hx hb dX10_put_51 hl (k := 1) rfl (by decide) (by decide) rfl (fun ls hl => ?_)
                      refine lv_goto (tgt := 3) hx hb dX10_put_54 (by decide) ?_
                      refine lv_iload_n hx hb dX10_put_3 rfl (lv_at hl 0 rfl) ?_
                      refine lv_if_lt (tgt := 57) hx hb dX10_put_4 (by decide) (fun c247 => ?_) (fun c247 => ?_)
                      · --4 taken
                        rw [hQ]
                        exact W.vret hx hb hr (fun t ht hW => ⟨⟨E236, rfl, ⟨hI, hKp, ⟨by (try rw [(show xi (E236 2) 1 = y235 from vi_e pw237.1)]); (try rw [ey1]); all_goals omega, by show FedC (bysP a0 4) _ _; rw [k246, k239, k193, k186]; exact ((Fed.rf.tr k185).tr k238)⟩⟩, by show va_P (dC, dI) vwCl (WL (LC cf) ad E236) t.heap; rw [ht]; exact hP⟩, hS.F ht⟩) hS.2.2 dX10_put_57
                      · --4 not
                        exact absurd c247 (by decide)
                    · --16 not
                      have t248 : ¬ y242.toInt = 0 := ti_ne c243
                      have i249 : 1 ≤ y242.toInt ∧ y242.toInt ≤ 255 := iv_ne_l t248 iy242 (il_ 0)
                      have b0 : bN (ub_by a0 0) = 1 := bN_1 (fun q9 => c243 ((show ub_by a0 0 = y242 from by rw [ey242, ey241]; rfl).symm.trans q9))
                      refine lv_aload_n hx hb dX10_put_19 rfl (lv_at hl 2 rfl) ?_
                      refine th_getL (ci := 11) (C := RX10) (T := TX10) (N := 10) (v := .int y235) hx hb hts hinX10 hown hK hP hI 2 (mF 2 rfl) rfl rfl 1 (Nat.le_of_ble_eq_true rfl) (hts _ (vA_in _ _ (in_8 _ (zs16 (zs4 (zs0)))))) (fun _ h9 => h9) pw237.1 dX10_put_20 ?_
                      refine lv_aload_n hx hb dX10_put_23 rfl (lv_at hl 2 rfl) ?_
                      refine th_getL (ci := 11) (C := RX10) (T := TX10) (N := 10) (v := .ref (ad 21)) hx hb hts hinX10 hown hK hP hI 2 (mF 2 rfl) rfl rfl 0 (Nat.le_of_ble_eq_true rfl) (hts _ (vA_in _ _ (in_8 _ (zs16 (zs1 (zs0)))))) (fun _ h9 => h9) (hI.fr 2 (mF 2 rfl) rfl (Nat.le_of_ble_eq_true rfl) 21 rfl) dX10_put_24 ?_
                      refine va_alen (v := 200) hx hb hK hP (posL 21 (LC cf)) 0 (hI.ar 21 (mF 21 rfl) rfl) rfl rfl dX10_put_27 ?_
                      refine lv_icmp_ge (tgt := 51) hx hb dX10_put_28 (by decide) (fun c250 => ?_) (fun c250 => ?_)
                      · --28 taken
                        have t251 : (200 : Int) ≤ y235.toInt := ti_le c250
                        have i252 : 200 ≤ y235.toInt ∧ y235.toInt ≤ 200 := iv_le_r t251 (il_ 200) iy235 (by decide)
                        exfalso
                        omega
                      · --28 not
                        have t253 : y235.toInt < 200 := ti_nle c250
                        have i254 : 2 ≤ y235.toInt ∧ y235.toInt ≤ 199 := iv_lt_l t253 iy235 (il_ 200) (by decide)
                        refine lv_aload_n hx hb dX10_put_31 rfl (lv_at hl 2 rfl) ?_
                        refine th_getL (ci := 11) (C := RX10) (T := TX10) (N := 10) (v := .ref (ad 21)) hx hb hts hinX10 hown hK hP hI 2 (mF 2 rfl) rfl rfl 0 (Nat.le_of_ble_eq_true rfl) (hts _ (vA_in _ _ (in_8 _ (zs16 (zs1 (zs0)))))) (fun _ h9 => h9) (hI.fr 2 (mF 2 rfl) rfl (Nat.le_of_ble_eq_true rfl) 21 rfl) dX10_put_32 ?_
                        refine lv_aload_n hx hb dX10_put_35 rfl (lv_at hl 2 rfl) ?_
                        refine th_getL (ci := 11) (C := RX10) (T := TX10) (N := 10) (v := .int y235) hx hb hts hinX10 hown hK hP hI 2 (mF 2 rfl) rfl rfl 1 (Nat.le_of_ble_eq_true rfl) (hts _ (vA_in _ _ (in_8 _ (zs16 (zs4 (zs0)))))) (fun _ h9 => h9) pw237.1 dX10_put_36 ?_
                        refine lv_iload_n hx hb dX10_put_39 rfl (lv_at hl 0 rfl) ?_
                        have n255 : vp_in y235 200 := (iv_in (n := 200) i254 (by decide))
                        refine th_iastL hx hb hK hP (WL_D hD) hS hI 21 (mF 21 rfl) rfl rfl n255 (okI rfl (iv_w i249 (by decide))) dX10_put_40 (fun H locs E256 pw257 hI hP hS => ?_)
                        have hKp := hKp.pw pw257 rfl
                        refine lv_aload_n hx hb dX10_put_41 rfl (lv_at hl 2 rfl) ?_
                        refine lv_dup hx hb dX10_put_42 rfl ?_
                        refine th_getL (ci := 11) (C := RX10) (T := TX10) (N := 10) (v := .int y235) hx hb hts hinX10 hown hK hP hI 2 (mF 2 rfl) rfl rfl 1 (Nat.le_of_ble_eq_true rfl) (hts _ (vA_in _ _ (in_8 _ (zs16 (zs4 (zs0)))))) (fun _ h9 => h9) ((pw257.2 2 1 (fun q9 => absurd q9.1 (Nat.ne_of_beq_eq_false rfl))).trans pw237.1) dX10_put_43 ?_
                        refine lv_iconst (v := 1) hx hb dX10_put_46 (by decide) ?_
                        refine lv_iadd hx hb dX10_put_47 ?_
                        refine lv_topi (fun y258 ey258 => ?_)
                        obtain ⟨ty258, iy258⟩ := ti_add (e := 3) (f := 200) i254 ln_1 ey258 (by decide)
                        have ty258 : y258.toInt = y235.toInt + 1 := ty258
                        have iy258 : 3 ≤ y258.toInt ∧ y258.toInt ≤ 200 := iy258
                        refine th_putL (ci := 11) (C := RX10) (T := TX10) (N := 10) (v := .int y258) (ty := .int) hx hb hts hinX10 tyX10 tyX10_ok nmX10 hown hK hP (WL_D hD) hS hI 2 (mF 2 rfl) rfl rfl 1 (Nat.le_of_ble_eq_true rfl) (hts _ (vA_in _ _ (in_8 _ (zs16 (zs4 (zs0)))))) (fun _ h9 => h9) rfl (by decide +kernel) rfl rfl (okI rfl (iv_w iy258 (by decide))) dX10_put_48 (fun H locs E259 pw260 hI hP hS => ?_)
                        have hKp := hKp.pw pw260 rfl
                        have k261 := FedC.push pw257 pw260 (vi_e pw237.1) ty258 (by omega)
                        have k262 : bysP a0 4 = bysP a0 3 ++ [y242.toInt] := bysP_1 (k := 3) (show ub_by a0 0 = y242 from by rw [ey242, ey241]; rfl) c243
                        refine lv_iinc (v := -8) (lv' := [(2, .int (-8)), (3, .int y242), (0, .ref (ad 2)), (1, .int a0)]) hx hb dX10_put_51 hl (k := 1) rfl (by decide) (by decide) rfl (fun ls hl => ?_)
                        refine lv_goto (tgt := 3) hx hb dX10_put_54 (by decide) ?_
                        refine lv_iload_n hx hb dX10_put_3 rfl (lv_at hl 0 rfl) ?_
                        refine lv_if_lt (tgt := 57) hx hb dX10_put_4 (by decide) (fun c263 => ?_) (fun c263 => ?_)
                        · --4 taken
                          rw [hQ]
                          exact W.vret hx hb hr (fun t ht hW => ⟨⟨E259, rfl, ⟨hI, hKp, ⟨by (try rw [(show xi (E259 2) 1 = y258 from vi_e pw260.1)]); (try rw [ey1]); all_goals omega, by show FedC (bysP a0 4) _ _; rw [k262, k239, k193, k186]; exact (((Fed.rf.tr k185).tr k238).tr k261)⟩⟩, by show va_P (dC, dI) vwCl (WL (LC cf) ad E259) t.heap; rw [ht]; exact hP⟩, hS.F ht⟩) hS.2.2 dX10_put_57
                        · --4 not
                          exact absurd c263 (by decide)
          · --16 not
            have t264 : ¬ y189.toInt = 0 := ti_ne c190
            have i265 : 1 ≤ y189.toInt ∧ y189.toInt ≤ 255 := iv_ne_l t264 iy189 (il_ 0)
            have b16 : bN (ub_by a0 16) = 1 := bN_1 (fun q9 => c190 ((show ub_by a0 16 = y189 from by rw [ey189, ey188]; rfl).symm.trans q9))
            refine lv_aload_n hx hb dX10_put_19 rfl (lv_at hl 2 rfl) ?_
            refine th_getL (ci := 11) (C := RX10) (T := TX10) (N := 10) (v := .int y182) hx hb hts hinX10 hown hK hP hI 2 (mF 2 rfl) rfl rfl 1 (Nat.le_of_ble_eq_true rfl) (hts _ (vA_in _ _ (in_8 _ (zs16 (zs4 (zs0)))))) (fun _ h9 => h9) pw184.1 dX10_put_20 ?_
            refine lv_aload_n hx hb dX10_put_23 rfl (lv_at hl 2 rfl) ?_
            refine th_getL (ci := 11) (C := RX10) (T := TX10) (N := 10) (v := .ref (ad 21)) hx hb hts hinX10 hown hK hP hI 2 (mF 2 rfl) rfl rfl 0 (Nat.le_of_ble_eq_true rfl) (hts _ (vA_in _ _ (in_8 _ (zs16 (zs1 (zs0)))))) (fun _ h9 => h9) (hI.fr 2 (mF 2 rfl) rfl (Nat.le_of_ble_eq_true rfl) 21 rfl) dX10_put_24 ?_
            refine va_alen (v := 200) hx hb hK hP (posL 21 (LC cf)) 0 (hI.ar 21 (mF 21 rfl) rfl) rfl rfl dX10_put_27 ?_
            refine lv_icmp_ge (tgt := 51) hx hb dX10_put_28 (by decide) (fun c266 => ?_) (fun c266 => ?_)
            · --28 taken
              have t267 : (200 : Int) ≤ y182.toInt := ti_le c266
              have i268 : 200 ≤ y182.toInt ∧ y182.toInt ≤ 200 := iv_le_r t267 (il_ 200) iy182 (by decide)
              exfalso
              omega
            · --28 not
              have t269 : y182.toInt < 200 := ti_nle c266
              have i270 : 1 ≤ y182.toInt ∧ y182.toInt ≤ 199 := iv_lt_l t269 iy182 (il_ 200) (by decide)
              refine lv_aload_n hx hb dX10_put_31 rfl (lv_at hl 2 rfl) ?_
              refine th_getL (ci := 11) (C := RX10) (T := TX10) (N := 10) (v := .ref (ad 21)) hx hb hts hinX10 hown hK hP hI 2 (mF 2 rfl) rfl rfl 0 (Nat.le_of_ble_eq_true rfl) (hts _ (vA_in _ _ (in_8 _ (zs16 (zs1 (zs0)))))) (fun _ h9 => h9) (hI.fr 2 (mF 2 rfl) rfl (Nat.le_of_ble_eq_true rfl) 21 rfl) dX10_put_32 ?_
              refine lv_aload_n hx hb dX10_put_35 rfl (lv_at hl 2 rfl) ?_
              refine th_getL (ci := 11) (C := RX10) (T := TX10) (N := 10) (v := .int y182) hx hb hts hinX10 hown hK hP hI 2 (mF 2 rfl) rfl rfl 1 (Nat.le_of_ble_eq_true rfl) (hts _ (vA_in _ _ (in_8 _ (zs16 (zs4 (zs0)))))) (fun _ h9 => h9) pw184.1 dX10_put_36 ?_
              refine lv_iload_n hx hb dX10_put_39 rfl (lv_at hl 0 rfl) ?_
              have n271 : vp_in y182 200 := (iv_in (n := 200) i270 (by decide))
              refine th_iastL hx hb hK hP (WL_D hD) hS hI 21 (mF 21 rfl) rfl rfl n271 (okI rfl (iv_w i265 (by decide))) dX10_put_40 (fun H locs E272 pw273 hI hP hS => ?_)
              have hKp := hKp.pw pw273 rfl
              refine lv_aload_n hx hb dX10_put_41 rfl (lv_at hl 2 rfl) ?_
              refine lv_dup hx hb dX10_put_42 rfl ?_
              refine th_getL (ci := 11) (C := RX10) (T := TX10) (N := 10) (v := .int y182) hx hb hts hinX10 hown hK hP hI 2 (mF 2 rfl) rfl rfl 1 (Nat.le_of_ble_eq_true rfl) (hts _ (vA_in _ _ (in_8 _ (zs16 (zs4 (zs0)))))) (fun _ h9 => h9) ((pw273.2 2 1 (fun q9 => absurd q9.1 (Nat.ne_of_beq_eq_false rfl))).trans pw184.1) dX10_put_43 ?_
              refine lv_iconst (v := 1) hx hb dX10_put_46 (by decide) ?_
              refine lv_iadd hx hb dX10_put_47 ?_
              refine lv_topi (fun y274 ey274 => ?_)
              obtain ⟨ty274, iy274⟩ := ti_add (e := 2) (f := 200) i270 ln_1 ey274 (by decide)
              have ty274 : y274.toInt = y182.toInt + 1 := ty274
              have iy274 : 2 ≤ y274.toInt ∧ y274.toInt ≤ 200 := iy274
              refine th_putL (ci := 11) (C := RX10) (T := TX10) (N := 10) (v := .int y274) (ty := .int) hx hb hts hinX10 tyX10 tyX10_ok nmX10 hown hK hP (WL_D hD) hS hI 2 (mF 2 rfl) rfl rfl 1 (Nat.le_of_ble_eq_true rfl) (hts _ (vA_in _ _ (in_8 _ (zs16 (zs4 (zs0)))))) (fun _ h9 => h9) rfl (by decide +kernel) rfl rfl (okI rfl (iv_w iy274 (by decide))) dX10_put_48 (fun H locs E275 pw276 hI hP hS => ?_)
              have hKp := hKp.pw pw276 rfl
              have k277 := FedC.push pw273 pw276 (vi_e pw184.1) ty274 (by omega)
              have k278 : bysP a0 2 = bysP a0 1 ++ [y189.toInt] := bysP_1 (k := 1) (show ub_by a0 16 = y189 from by rw [ey189, ey188]; rfl) c190
              refine lv_iinc (v := 8) (lv' := [(2, .int 8), (3, .int y189), (0, .ref (ad 2)), (1, .int a0)]) hx hb dX10_put_51 hl (k := 1) rfl (by decide) (by decide) rfl (fun ls hl => ?_)
              refine lv_goto (tgt := 3) hx hb dX10_put_54 (by decide) ?_
              refine lv_iload_n hx hb dX10_put_3 rfl (lv_at hl 0 rfl) ?_
              refine lv_if_lt (tgt := 57) hx hb dX10_put_4 (by decide) (fun c279 => ?_) (fun c279 => ?_)
              · --4 taken
                exact absurd c279 (by decide)
              · --4 not
                refine lv_iload_n hx hb dX10_put_7 rfl (lv_at hl 3 rfl) ?_
                refine lv_iload_n hx hb dX10_put_8 rfl (lv_at hl 0 rfl) ?_
                refine lv_iushr hx hb dX10_put_9 rfl ?_
                refine lv_topi (fun y280 ey280 => ?_)
                refine lv_sipush (v := 255) hx hb dX10_put_10 (by decide) ?_
                refine lv_iand hx hb dX10_put_13 ?_
                refine lv_topi (fun y281 ey281 => ?_)
                have iy281 : 0 ≤ y281.toInt ∧ y281.toInt ≤ 255 := ti_and (by decide) ey281
                refine lv_istore_n (lv' := [(3, .int y281), (2, .int 8), (0, .ref (ad 2)), (1, .int a0)]) hx hb dX10_put_14 rfl hl (by decide) rfl (fun ls hl => ?_)
                refine lv_iload_n hx hb dX10_put_15 rfl (lv_at hl 0 rfl) ?_
                refine lv_if_eq (tgt := 51) hx hb dX10_put_16 (by decide) (fun c282 => ?_) (fun c282 => ?_)
                · --16 taken
                  have t283 : y281.toInt = 0 := ti_eq c282
                  have i284 : 0 ≤ y281.toInt ∧ y281.toInt ≤ 0 := iv_eqi t283 iy281 (il_ 0) (by decide)
                  have b8 : bN (ub_by a0 8) = 0 := bN_0 ((show ub_by a0 8 = y281 from by rw [ey281, ey280]; rfl).trans c282)
                  have k285 : bysP a0 3 = bysP a0 2 := bysP_0 (k := 2) (show ub_by a0 8 = y281 from by rw [ey281, ey280]; rfl) c282
                  refine lv_iinc (v := 0) (lv' := [(2, .int 0), (3, .int y281), (0, .ref (ad 2)), (1, .int a0)]) hx hb dX10_put_51 hl (k := 1) rfl (by decide) (by decide) rfl (fun ls hl => ?_)
                  refine lv_goto (tgt := 3) hx hb dX10_put_54 (by decide) ?_
                  refine lv_iload_n hx hb dX10_put_3 rfl (lv_at hl 0 rfl) ?_
                  refine lv_if_lt (tgt := 57) hx hb dX10_put_4 (by decide) (fun c286 => ?_) (fun c286 => ?_)
                  · --4 taken
                    exact absurd c286 (by decide)
                  · --4 not
                    refine lv_iload_n hx hb dX10_put_7 rfl (lv_at hl 3 rfl) ?_
                    refine lv_iload_n hx hb dX10_put_8 rfl (lv_at hl 0 rfl) ?_
                    refine lv_iushr hx hb dX10_put_9 rfl ?_
                    refine lv_topi (fun y287 ey287 => ?_)
                    refine lv_sipush (v := 255) hx hb dX10_put_10 (by decide) ?_
                    refine lv_iand hx hb dX10_put_13 ?_
                    refine lv_topi (fun y288 ey288 => ?_)
                    have iy288 : 0 ≤ y288.toInt ∧ y288.toInt ≤ 255 := ti_and (by decide) ey288
                    refine lv_istore_n (lv' := [(3, .int y288), (2, .int 0), (0, .ref (ad 2)), (1, .int a0)]) hx hb dX10_put_14 rfl hl (by decide) rfl (fun ls hl => ?_)
                    refine lv_iload_n hx hb dX10_put_15 rfl (lv_at hl 0 rfl) ?_
                    refine lv_if_eq (tgt := 51) hx hb dX10_put_16 (by decide) (fun c289 => ?_) (fun c289 => ?_)
                    · --16 taken
                      have t290 : y288.toInt = 0 := ti_eq c289
                      have i291 : 0 ≤ y288.toInt ∧ y288.toInt ≤ 0 := iv_eqi t290 iy288 (il_ 0) (by decide)
                      have b0 : bN (ub_by a0 0) = 0 := bN_0 ((show ub_by a0 0 = y288 from by rw [ey288, ey287]; rfl).trans c289)
                      have k292 : bysP a0 4 = bysP a0 3 := bysP_0 (k := 3) (show ub_by a0 0 = y288 from by rw [ey288, ey287]; rfl) c289
                      refine lv_iinc (v := -8) (lv' := [(2, .int (-8)), (3, .int y288), (0, .ref (ad 2)), (1, .int a0)]) hx hb dX10_put_51 hl (k := 1) rfl (by decide) (by decide) rfl (fun ls hl => ?_)
                      refine lv_goto (tgt := 3) hx hb dX10_put_54 (by decide) ?_
                      refine lv_iload_n hx hb dX10_put_3 rfl (lv_at hl 0 rfl) ?_
                      refine lv_if_lt (tgt := 57) hx hb dX10_put_4 (by decide) (fun c293 => ?_) (fun c293 => ?_)
                      · --4 taken
                        rw [hQ]
                        exact W.vret hx hb hr (fun t ht hW => ⟨⟨E275, rfl, ⟨hI, hKp, ⟨by (try rw [(show xi (E275 2) 1 = y274 from vi_e pw276.1)]); (try rw [ey1]); all_goals omega, by show FedC (bysP a0 4) _ _; rw [k292, k285, k278, k186]; exact ((Fed.rf.tr k185).tr k277)⟩⟩, by show va_P (dC, dI) vwCl (WL (LC cf) ad E275) t.heap; rw [ht]; exact hP⟩, hS.F ht⟩) hS.2.2 dX10_put_57
                      · --4 not
                        exact absurd c293 (by decide)
                    · --16 not
                      have t294 : ¬ y288.toInt = 0 := ti_ne c289
                      have i295 : 1 ≤ y288.toInt ∧ y288.toInt ≤ 255 := iv_ne_l t294 iy288 (il_ 0)
                      have b0 : bN (ub_by a0 0) = 1 := bN_1 (fun q9 => c289 ((show ub_by a0 0 = y288 from by rw [ey288, ey287]; rfl).symm.trans q9))
                      refine lv_aload_n hx hb dX10_put_19 rfl (lv_at hl 2 rfl) ?_
                      refine th_getL (ci := 11) (C := RX10) (T := TX10) (N := 10) (v := .int y274) hx hb hts hinX10 hown hK hP hI 2 (mF 2 rfl) rfl rfl 1 (Nat.le_of_ble_eq_true rfl) (hts _ (vA_in _ _ (in_8 _ (zs16 (zs4 (zs0)))))) (fun _ h9 => h9) pw276.1 dX10_put_20 ?_
                      refine lv_aload_n hx hb dX10_put_23 rfl (lv_at hl 2 rfl) ?_
                      refine th_getL (ci := 11) (C := RX10) (T := TX10) (N := 10) (v := .ref (ad 21)) hx hb hts hinX10 hown hK hP hI 2 (mF 2 rfl) rfl rfl 0 (Nat.le_of_ble_eq_true rfl) (hts _ (vA_in _ _ (in_8 _ (zs16 (zs1 (zs0)))))) (fun _ h9 => h9) (hI.fr 2 (mF 2 rfl) rfl (Nat.le_of_ble_eq_true rfl) 21 rfl) dX10_put_24 ?_
                      refine va_alen (v := 200) hx hb hK hP (posL 21 (LC cf)) 0 (hI.ar 21 (mF 21 rfl) rfl) rfl rfl dX10_put_27 ?_
                      refine lv_icmp_ge (tgt := 51) hx hb dX10_put_28 (by decide) (fun c296 => ?_) (fun c296 => ?_)
                      · --28 taken
                        have t297 : (200 : Int) ≤ y274.toInt := ti_le c296
                        have i298 : 200 ≤ y274.toInt ∧ y274.toInt ≤ 200 := iv_le_r t297 (il_ 200) iy274 (by decide)
                        exfalso
                        omega
                      · --28 not
                        have t299 : y274.toInt < 200 := ti_nle c296
                        have i300 : 2 ≤ y274.toInt ∧ y274.toInt ≤ 199 := iv_lt_l t299 iy274 (il_ 200) (by decide)
                        refine lv_aload_n hx hb dX10_put_31 rfl (lv_at hl 2 rfl) ?_
                        refine th_getL (ci := 11) (C := RX10) (T := TX10) (N := 10) (v := .ref (ad 21)) hx hb hts hinX10 hown hK hP hI 2 (mF 2 rfl) rfl rfl 0 (Nat.le_of_ble_eq_true rfl) (hts _ (vA_in _ _ (in_8 _ (zs16 (zs1 (zs0)))))) (fun _ h9 => h9) (hI.fr 2 (mF 2 rfl) rfl (Nat.le_of_ble_eq_true rfl) 21 rfl) dX10_put_32 ?_
                        refine lv_aload_n hx hb dX10_put_35 rfl (lv_at hl 2 rfl) ?_
                        refine th_getL (ci := 11) (C := RX10) (T := TX10) (N := 10) (v := .int y274) hx hb hts hinX10 hown hK hP hI 2 (mF 2 rfl) rfl rfl 1 (Nat.le_of_ble_eq_true rfl) (hts _ (vA_in _ _ (in_8 _ (zs16 (zs4 (zs0)))))) (fun _ h9 => h9) pw276.1 dX10_put_36 ?_
                        refine lv_iload_n hx hb dX10_put_39 rfl (lv_at hl 0 rfl) ?_
                        have n301 : vp_in y274 200 := (iv_in (n := 200) i300 (by decide))
                        refine th_iastL hx hb hK hP (WL_D hD) hS hI 21 (mF 21 rfl) rfl rfl n301 (okI rfl (iv_w i295 (by decide))) dX10_put_40 (fun H locs E302 pw303 hI hP hS => ?_)
                        have hKp := hKp.pw pw303 rfl
                        refine lv_aload_n hx hb dX10_put_41 rfl (lv_at hl 2 rfl) ?_
                        refine lv_dup hx hb dX10_put_42 rfl ?_
                        refine th_getL (ci := 11) (C := RX10) (T := TX10) (N := 10) (v := .int y274) hx hb hts hinX10 hown hK hP hI 2 (mF 2 rfl) rfl rfl 1 (Nat.le_of_ble_eq_true rfl) (hts _ (vA_in _ _ (in_8 _ (zs16 (zs4 (zs0)))))) (fun _ h9 => h9) ((pw303.2 2 1 (fun q9 => absurd q9.1 (Nat.ne_of_beq_eq_false rfl))).trans pw276.1) dX10_put_43 ?_
                        refine lv_iconst (v := 1) hx hb dX10_put_46 (by decide) ?_
                        refine lv_iadd hx hb dX10_put_47 ?_
                        refine lv_topi (fun y304 ey304 => ?_)
                        obtain ⟨ty304, iy304⟩ := ti_add (e := 3) (f := 200) i300 ln_1 ey304 (by decide)
                        have ty304 : y304.toInt = y274.toInt + 1 := ty304
                        have iy304 : 3 ≤ y304.toInt ∧ y304.toInt ≤ 200 := iy304
                        refine th_putL (ci := 11) (C := RX10) (T := TX10) (N := 10) (v := .int y304) (ty := .int) hx hb hts hinX10 tyX10 tyX10_ok nmX10 hown hK hP (WL_D hD) hS hI 2 (mF 2 rfl) rfl rfl 1 (Nat.le_of_ble_eq_true rfl) (hts _ (vA_in _ _ (in_8 _ (zs16 (zs4 (zs0)))))) (fun _ h9 => h9) rfl (by decide +kernel) rfl rfl (okI rfl (iv_w iy304 (by decide))) dX10_put_48 (fun H locs E305 pw306 hI hP hS => ?_)
                        have hKp := hKp.pw pw306 rfl
                        have k307 := FedC.push pw303 pw306 (vi_e pw276.1) ty304 (by omega)
                        have k308 : bysP a0 4 = bysP a0 3 ++ [y288.toInt] := bysP_1 (k := 3) (show ub_by a0 0 = y288 from by rw [ey288, ey287]; rfl) c289
                        refine lv_iinc (v := -8) (lv' := [(2, .int (-8)), (3, .int y288), (0, .ref (ad 2)), (1, .int a0)]) hx hb dX10_put_51 hl (k := 1) rfl (by decide) (by decide) rfl (fun ls hl => ?_)
                        refine lv_goto (tgt := 3) hx hb dX10_put_54 (by decide) ?_
                        refine lv_iload_n hx hb dX10_put_3 rfl (lv_at hl 0 rfl) ?_
                        refine lv_if_lt (tgt := 57) hx hb dX10_put_4 (by decide) (fun c309 => ?_) (fun c309 => ?_)
                        · --4 taken
                          rw [hQ]
                          exact W.vret hx hb hr (fun t ht hW => ⟨⟨E305, rfl, ⟨hI, hKp, ⟨by (try rw [(show xi (E305 2) 1 = y304 from vi_e pw306.1)]); (try rw [ey1]); all_goals omega, by show FedC (bysP a0 4) _ _; rw [k308, k285, k278, k186]; exact (((Fed.rf.tr k185).tr k277).tr k307)⟩⟩, by show va_P (dC, dI) vwCl (WL (LC cf) ad E305) t.heap; rw [ht]; exact hP⟩, hS.F ht⟩) hS.2.2 dX10_put_57
                        · --4 not
                          exact absurd c309 (by decide)
                · --16 not
                  have t310 : ¬ y281.toInt = 0 := ti_ne c282
                  have i311 : 1 ≤ y281.toInt ∧ y281.toInt ≤ 255 := iv_ne_l t310 iy281 (il_ 0)
                  have b8 : bN (ub_by a0 8) = 1 := bN_1 (fun q9 => c282 ((show ub_by a0 8 = y281 from by rw [ey281, ey280]; rfl).symm.trans q9))
                  refine lv_aload_n hx hb dX10_put_19 rfl (lv_at hl 2 rfl) ?_
                  refine th_getL (ci := 11) (C := RX10) (T := TX10) (N := 10) (v := .int y274) hx hb hts hinX10 hown hK hP hI 2 (mF 2 rfl) rfl rfl 1 (Nat.le_of_ble_eq_true rfl) (hts _ (vA_in _ _ (in_8 _ (zs16 (zs4 (zs0)))))) (fun _ h9 => h9) pw276.1 dX10_put_20 ?_
                  refine lv_aload_n hx hb dX10_put_23 rfl (lv_at hl 2 rfl) ?_
                  refine th_getL (ci := 11) (C := RX10) (T := TX10) (N := 10) (v := .ref (ad 21)) hx hb hts hinX10 hown hK hP hI 2 (mF 2 rfl) rfl rfl 0 (Nat.le_of_ble_eq_true rfl) (hts _ (vA_in _ _ (in_8 _ (zs16 (zs1 (zs0)))))) (fun _ h9 => h9) (hI.fr 2 (mF 2 rfl) rfl (Nat.le_of_ble_eq_true rfl) 21 rfl) dX10_put_24 ?_
                  refine va_alen (v := 200) hx hb hK hP (posL 21 (LC cf)) 0 (hI.ar 21 (mF 21 rfl) rfl) rfl rfl dX10_put_27 ?_
                  refine lv_icmp_ge (tgt := 51) hx hb dX10_put_28 (by decide) (fun c312 => ?_) (fun c312 => ?_)
                  · --28 taken
                    have t313 : (200 : Int) ≤ y274.toInt := ti_le c312
                    have i314 : 200 ≤ y274.toInt ∧ y274.toInt ≤ 200 := iv_le_r t313 (il_ 200) iy274 (by decide)
                    exfalso
                    omega
                  · --28 not
                    have t315 : y274.toInt < 200 := ti_nle c312
                    have i316 : 2 ≤ y274.toInt ∧ y274.toInt ≤ 199 := iv_lt_l t315 iy274 (il_ 200) (by decide)
                    refine lv_aload_n hx hb dX10_put_31 rfl (lv_at hl 2 rfl) ?_
                    refine th_getL (ci := 11) (C := RX10) (T := TX10) (N := 10) (v := .ref (ad 21)) hx hb hts hinX10 hown hK hP hI 2 (mF 2 rfl) rfl rfl 0 (Nat.le_of_ble_eq_true rfl) (hts _ (vA_in _ _ (in_8 _ (zs16 (zs1 (zs0)))))) (fun _ h9 => h9) (hI.fr 2 (mF 2 rfl) rfl (Nat.le_of_ble_eq_true rfl) 21 rfl) dX10_put_32 ?_
                    refine lv_aload_n hx hb dX10_put_35 rfl (lv_at hl 2 rfl) ?_
                    refine th_getL (ci := 11) (C := RX10) (T := TX10) (N := 10) (v := .int y274) hx hb hts hinX10 hown hK hP hI 2 (mF 2 rfl) rfl rfl 1 (Nat.le_of_ble_eq_true rfl) (hts _ (vA_in _ _ (in_8 _ (zs16 (zs4 (zs0)))))) (fun _ h9 => h9) pw276.1 dX10_put_36 ?_
                    refine lv_iload_n hx hb dX10_put_39 rfl (lv_at hl 0 rfl) ?_
                    have n317 : vp_in y274 200 := (iv_in (n := 200) i316 (by decide))
                    refine th_iastL hx hb hK hP (WL_D hD) hS hI 21 (mF 21 rfl) rfl rfl n317 (okI rfl (iv_w i311 (by decide))) dX10_put_40 (fun H locs E318 pw319 hI hP hS => ?_)
                    have hKp := hKp.pw pw319 rfl
                    refine lv_aload_n hx hb dX10_put_41 rfl (lv_at hl 2 rfl) ?_
                    refine lv_dup hx hb dX10_put_42 rfl ?_
                    refine th_getL (ci := 11) (C := RX10) (T := TX10) (N := 10) (v := .int y274) hx hb hts hinX10 hown hK hP hI 2 (mF 2 rfl) rfl rfl 1 (Nat.le_of_ble_eq_true rfl) (hts _ (vA_in _ _ (in_8 _ (zs16 (zs4 (zs0)))))) (fun _ h9 => h9) ((pw319.2 2 1 (fun q9 => absurd q9.1 (Nat.ne_of_beq_eq_false rfl))).trans pw276.1) dX10_put_43 ?_
                    refine lv_iconst (v := 1) hx hb dX10_put_46 (by decide) ?_
                    refine lv_iadd hx hb dX10_put_47 ?_
                    refine lv_topi (fun y320 ey320 => ?_)
                    obtain ⟨ty320, iy320⟩ := ti_add (e := 3) (f := 200) i316 ln_1 ey320 (by decide)
                    have ty320 : y320.toInt = y274.toInt + 1 := ty320
                    have iy320 : 3 ≤ y320.toInt ∧ y320.toInt ≤ 200 := iy320
                    refine th_putL (ci := 11) (C := RX10) (T := TX10) (N := 10) (v := .int y320) (ty := .int) hx hb hts hinX10 tyX10 tyX10_ok nmX10 hown hK hP (WL_D hD) hS hI 2 (mF 2 rfl) rfl rfl 1 (Nat.le_of_ble_eq_true rfl) (hts _ (vA_in _ _ (in_8 _ (zs16 (zs4 (zs0)))))) (fun _ h9 => h9) rfl (by decide +kernel) rfl rfl (okI rfl (iv_w iy320 (by decide))) dX10_put_48 (fun H locs E321 pw322 hI hP hS => ?_)
                    have hKp := hKp.pw pw322 rfl
                    have k323 := FedC.push pw319 pw322 (vi_e pw276.1) ty320 (by omega)
                    have k324 : bysP a0 3 = bysP a0 2 ++ [y281.toInt] := bysP_1 (k := 2) (show ub_by a0 8 = y281 from by rw [ey281, ey280]; rfl) c282
                    refine lv_iinc (v := 0) (lv' := [(2, .int 0), (3, .int y281), (0, .ref (ad 2)), (1, .int a0)]) hx hb dX10_put_51 hl (k := 1) rfl (by decide) (by decide) rfl (fun ls hl => ?_)
                    refine lv_goto (tgt := 3) hx hb dX10_put_54 (by decide) ?_
                    refine lv_iload_n hx hb dX10_put_3 rfl (lv_at hl 0 rfl) ?_
                    refine lv_if_lt (tgt := 57) hx hb dX10_put_4 (by decide) (fun c325 => ?_) (fun c325 => ?_)
                    · --4 taken
                      exact absurd c325 (by decide)
                    · --4 not
                      refine lv_iload_n hx hb dX10_put_7 rfl (lv_at hl 3 rfl) ?_
                      refine lv_iload_n hx hb dX10_put_8 rfl (lv_at hl 0 rfl) ?_
                      refine lv_iushr hx hb dX10_put_9 rfl ?_
                      refine lv_topi (fun y326 ey326 => ?_)
                      refine lv_sipush (v := 255) hx hb dX10_put_10 (by decide) ?_
                      refine lv_iand hx hb dX10_put_13 ?_
                      refine lv_topi (fun y327 ey327 => ?_)
                      have iy327 : 0 ≤ y327.toInt ∧ y327.toInt ≤ 255 := ti_and (by decide) ey327
                      refine lv_istore_n (lv' := [(3, .int y327), (2, .int 0), (0, .ref (ad 2)), (1, .int a0)]) hx hb dX10_put_14 rfl hl (by decide) rfl (fun ls hl => ?_)
                      refine lv_iload_n hx hb dX10_put_15 rfl (lv_at hl 0 rfl) ?_
                      refine lv_if_eq (tgt := 51) hx hb dX10_put_16 (by decide) (fun c328 => ?_) (fun c328 => ?_)
                      · --16 taken
                        have t329 : y327.toInt = 0 := ti_eq c328
                        have i330 : 0 ≤ y327.toInt ∧ y327.toInt ≤ 0 := iv_eqi t329 iy327 (il_ 0) (by decide)
                        have b0 : bN (ub_by a0 0) = 0 := bN_0 ((show ub_by a0 0 = y327 from by rw [ey327, ey326]; rfl).trans c328)
                        have k331 : bysP a0 4 = bysP a0 3 := bysP_0 (k := 3) (show ub_by a0 0 = y327 from by rw [ey327, ey326]; rfl) c328
                        refine lv_iinc (v := -8) (lv' := [(2, .int (-8)), (3, .int y327), (0, .ref (ad 2)), (1, .int a0)]) hx hb dX10_put_51 hl (k := 1) rfl (by decide) (by decide) rfl (fun ls hl => ?_)
                        refine lv_goto (tgt := 3) hx hb dX10_put_54 (by decide) ?_
                        refine lv_iload_n hx hb dX10_put_3 rfl (lv_at hl 0 rfl) ?_
                        refine lv_if_lt (tgt := 57) hx hb dX10_put_4 (by decide) (fun c332 => ?_) (fun c332 => ?_)
                        · --4 taken
                          rw [hQ]
                          exact W.vret hx hb hr (fun t ht hW => ⟨⟨E321, rfl, ⟨hI, hKp, ⟨by (try rw [(show xi (E321 2) 1 = y320 from vi_e pw322.1)]); (try rw [ey1]); all_goals omega, by show FedC (bysP a0 4) _ _; rw [k331, k324, k278, k186]; exact (((Fed.rf.tr k185).tr k277).tr k323)⟩⟩, by show va_P (dC, dI) vwCl (WL (LC cf) ad E321) t.heap; rw [ht]; exact hP⟩, hS.F ht⟩) hS.2.2 dX10_put_57
                        · --4 not
                          exact absurd c332 (by decide)
                      · --16 not
                        have t333 : ¬ y327.toInt = 0 := ti_ne c328
                        have i334 : 1 ≤ y327.toInt ∧ y327.toInt ≤ 255 := iv_ne_l t333 iy327 (il_ 0)
                        have b0 : bN (ub_by a0 0) = 1 := bN_1 (fun q9 => c328 ((show ub_by a0 0 = y327 from by rw [ey327, ey326]; rfl).symm.trans q9))
                        refine lv_aload_n hx hb dX10_put_19 rfl (lv_at hl 2 rfl) ?_
                        refine th_getL (ci := 11) (C := RX10) (T := TX10) (N := 10) (v := .int y320) hx hb hts hinX10 hown hK hP hI 2 (mF 2 rfl) rfl rfl 1 (Nat.le_of_ble_eq_true rfl) (hts _ (vA_in _ _ (in_8 _ (zs16 (zs4 (zs0)))))) (fun _ h9 => h9) pw322.1 dX10_put_20 ?_
                        refine lv_aload_n hx hb dX10_put_23 rfl (lv_at hl 2 rfl) ?_
                        refine th_getL (ci := 11) (C := RX10) (T := TX10) (N := 10) (v := .ref (ad 21)) hx hb hts hinX10 hown hK hP hI 2 (mF 2 rfl) rfl rfl 0 (Nat.le_of_ble_eq_true rfl) (hts _ (vA_in _ _ (in_8 _ (zs16 (zs1 (zs0)))))) (fun _ h9 => h9) (hI.fr 2 (mF 2 rfl) rfl (Nat.le_of_ble_eq_true rfl) 21 rfl) dX10_put_24 ?_
                        refine va_alen (v := 200) hx hb hK hP (posL 21 (LC cf)) 0 (hI.ar 21 (mF 21 rfl) rfl) rfl rfl dX10_put_27 ?_
                        refine lv_icmp_ge (tgt := 51) hx hb dX10_put_28 (by decide) (fun c335 => ?_) (fun c335 => ?_)
                        · --28 taken
                          have t336 : (200 : Int) ≤ y320.toInt := ti_le c335
                          have i337 : 200 ≤ y320.toInt ∧ y320.toInt ≤ 200 := iv_le_r t336 (il_ 200) iy320 (by decide)
                          exfalso
                          omega
                        · --28 not
                          have t338 : y320.toInt < 200 := ti_nle c335
                          have i339 : 3 ≤ y320.toInt ∧ y320.toInt ≤ 199 := iv_lt_l t338 iy320 (il_ 200) (by decide)
                          refine lv_aload_n hx hb dX10_put_31 rfl (lv_at hl 2 rfl) ?_
                          refine th_getL (ci := 11) (C := RX10) (T := TX10) (N := 10) (v := .ref (ad 21)) hx hb hts hinX10 hown hK hP hI 2 (mF 2 rfl) rfl rfl 0 (Nat.le_of_ble_eq_true rfl) (hts _ (vA_in _ _ (in_8 _ (zs16 (zs1 (zs0)))))) (fun _ h9 => h9) (hI.fr 2 (mF 2 rfl) rfl (Nat.le_of_ble_eq_true rfl) 21 rfl) dX10_put_32 ?_
                          refine lv_aload_n hx hb dX10_put_35 rfl (lv_at hl 2 rfl) ?_
                          refine th_getL (ci := 11) (C := RX10) (T := TX10) (N := 10) (v := .int y320) hx hb hts hinX10 hown hK hP hI 2 (mF 2 rfl) rfl rfl 1 (Nat.le_of_ble_eq_true rfl) (hts _ (vA_in _ _ (in_8 _ (zs16 (zs4 (zs0)))))) (fun _ h9 => h9) pw322.1 dX10_put_36 ?_
                          refine lv_iload_n hx hb dX10_put_39 rfl (lv_at hl 0 rfl) ?_
                          have n340 : vp_in y320 200 := (iv_in (n := 200) i339 (by decide))
                          refine th_iastL hx hb hK hP (WL_D hD) hS hI 21 (mF 21 rfl) rfl rfl n340 (okI rfl (iv_w i334 (by decide))) dX10_put_40 (fun H locs E341 pw342 hI hP hS => ?_)
                          have hKp := hKp.pw pw342 rfl
                          refine lv_aload_n hx hb dX10_put_41 rfl (lv_at hl 2 rfl) ?_
                          refine lv_dup hx hb dX10_put_42 rfl ?_
                          refine th_getL (ci := 11) (C := RX10) (T := TX10) (N := 10) (v := .int y320) hx hb hts hinX10 hown hK hP hI 2 (mF 2 rfl) rfl rfl 1 (Nat.le_of_ble_eq_true rfl) (hts _ (vA_in _ _ (in_8 _ (zs16 (zs4 (zs0)))))) (fun _ h9 => h9) ((pw342.2 2 1 (fun q9 => absurd q9.1 (Nat.ne_of_beq_eq_false rfl))).trans pw322.1) dX10_put_43 ?_
                          refine lv_iconst (v := 1) hx hb dX10_put_46 (by decide) ?_
                          refine lv_iadd hx hb dX10_put_47 ?_
                          refine lv_topi (fun y343 ey343 => ?_)
                          obtain ⟨ty343, iy343⟩ := ti_add (e := 4) (f := 200) i339 ln_1 ey343 (by decide)
                          have ty343 : y343.toInt = y320.toInt + 1 := ty343
                          have iy343 : 4 ≤ y343.toInt ∧ y343.toInt ≤ 200 := iy343
                          refine th_putL (ci := 11) (C := RX10) (T := TX10) (N := 10) (v := .int y343) (ty := .int) hx hb hts hinX10 tyX10 tyX10_ok nmX10 hown hK hP (WL_D hD) hS hI 2 (mF 2 rfl) rfl rfl 1 (Nat.le_of_ble_eq_true rfl) (hts _ (vA_in _ _ (in_8 _ (zs16 (zs4 (zs0)))))) (fun _ h9 => h9) rfl (by decide +kernel) rfl rfl (okI rfl (iv_w iy343 (by decide))) dX10_put_48 (fun H locs E344 pw345 hI hP hS => ?_)
                          have hKp := hKp.pw pw345 rfl
                          have k346 := FedC.push pw342 pw345 (vi_e pw322.1) ty343 (by omega)
                          have k347 : bysP a0 4 = bysP a0 3 ++ [y327.toInt] := bysP_1 (k := 3) (show ub_by a0 0 = y327 from by rw [ey327, ey326]; rfl) c328
                          refine lv_iinc (v := -8) (lv' := [(2, .int (-8)), (3, .int y327), (0, .ref (ad 2)), (1, .int a0)]) hx hb dX10_put_51 hl (k := 1) rfl (by decide) (by decide) rfl (fun ls hl => ?_)
                          refine lv_goto (tgt := 3) hx hb dX10_put_54 (by decide) ?_
                          refine lv_iload_n hx hb dX10_put_3 rfl (lv_at hl 0 rfl) ?_
                          refine lv_if_lt (tgt := 57) hx hb dX10_put_4 (by decide) (fun c348 => ?_) (fun c348 => ?_)
                          · --4 taken
                            rw [hQ]
                            exact W.vret hx hb hr (fun t ht hW => ⟨⟨E344, rfl, ⟨hI, hKp, ⟨by (try rw [(show xi (E344 2) 1 = y343 from vi_e pw345.1)]); (try rw [ey1]); all_goals omega, by show FedC (bysP a0 4) _ _; rw [k347, k324, k278, k186]; exact ((((Fed.rf.tr k185).tr k277).tr k323).tr k346)⟩⟩, by show va_P (dC, dI) vwCl (WL (LC cf) ad E344) t.heap; rw [ht]; exact hP⟩, hS.F ht⟩) hS.2.2 dX10_put_57
                          · --4 not
                            exact absurd c348 (by decide)
def v_u_feedX : List Cond := .code yX12_feed cX12_feed 7 (some .int) :: vA
abbrev rm_u_feedX : Room := { frames := 1, cells := 0, slots := 0, locals := 40 }
def w_u_feedX : Nat → Nat → Bool := wl [21] [(2, 1)]
set_option maxHeartbeats 4000000 in
set_option maxRecDepth 100000 in
theorem q_u_feedX (l : Launch) (dC : Nat → ClassId) (dI : Nat → Nat → Nat) (cT : Nat → ClassId) (cf : Nat → Nat) (hC : CF cf) (ad : Nat → Nat) (E : Nat → va_E) (sz : Nat) (a1 : Int32) (a2 : Int32) (a3 : Int32) (a4 : Int32) (a5 : Int32) (hI0 : IXL cT (shC cf) (spC cf) (LC cf) ad E)  : Met l yX12_feed v_u_feedX rm_u_feedX (va_Pc [.ref (ad 0), .int a1, .int a2, .int a3, .int a4, .int a5] (HWL dC dI (TYC cT) cf ad E sz)) (va_Qi (S := Nat → va_E) (fun r u => IXL cT (shC cf) (spC cf) (LC cf) ad u ∧ Kp w_u_feedX E u ∧ ((r = -1 ∧ (¬ ((xi (E 2) 1).toInt + ((nbN a1 : Int) + (nbN a2 : Int) + (nbN a3 : Int) + (nbN a4 : Int) + (nbN a5 : Int)) ≤ 200)) ∧ (FedC [] E u)) ∨ ((0 ≤ r.toInt ∧ r.toInt ≤ 200) ∧ ((xi (E 2) 1).toInt + ((nbN a1 : Int) + (nbN a2 : Int) + (nbN a3 : Int) + (nbN a4 : Int) + (nbN a5 : Int)) ≤ 200) ∧ (r.toInt = (xi (u 2) 1).toInt) ∧ (FedC (bys a1 ++ bys a2 ++ bys a3 ++ bys a4 ++ bys a5) E u)))) (HBL dC dI (LC cf) ad) (va_A (WL (LC cf) ad E) sz)) 0 0 (va_A (WL (LC cf) ad E) sz) := by
  obtain ⟨⟨hc0, hc1, hc2, hc3, hc4, hc5⟩, hcr⟩ := id hC
  refine Met.ofW (cc := cX12_feed) (maxL := 7) (ret := (some .int)) (by decide) rfl ?_
  intro p e s m args below meth c s₁ B hml hv
  obtain ⟨hargs, hsz, hP, hK, hD0, hEV⟩ := hv
  subst hsz
  have hx := B.exec
  have hb := B.bytes
  have hr := B.returns
  have hts := atoms_spec (ws := v_u_feedX) B.pre
  have hown : s.vm.findClass RX12 = some m.cls := findClass_of_methodNamed B.named
  have hlocks := B.notSynchronized
  have hinX10 : ∀ w ∈ u_ws RX10 TX10 10, w ∈ v_u_feedX := fun w h => vA_in _ w (in_X10 w h)
  have hinX12 : ∀ w ∈ u_ws RX12 TX12 6, w ∈ v_u_feedX := fun w h => vA_in _ w (in_X12 w h)
  generalize hAe : va_A (WL (LC cf) ad E) s.heap.size = A at hEV ⊢
  have hA : ∀ q : Nat, s.heap.size ≤ q → A q := fun q h => by rw [← hAe]; exact Or.inr h
  have hD : va_D A (WL (LC cf) ad E) := by rw [← hAe]; exact hD0.self
  have hS : va_S A s.heap s.heap [] := va_S.rf
  have hI := hI0
  have hKp : Kp w_u_feedX E E := Kp.rf
  have hl := lv_entry ([.ref (ad 0), .int a1, .int a2, .int a3, .int a4, .int a5]) (n := 7) (Nat.le_of_ble_eq_true rfl)
  obtain ⟨Q, hQ⟩ : ∃ Q, Q = MQ below (va_Qi (S := Nat → va_E) (fun r u => IXL cT (shC cf) (spC cf) (LC cf) ad u ∧ Kp w_u_feedX E u ∧ ((r = -1 ∧ (¬ ((xi (E 2) 1).toInt + ((nbN a1 : Int) + (nbN a2 : Int) + (nbN a3 : Int) + (nbN a4 : Int) + (nbN a5 : Int)) ≤ 200)) ∧ (FedC [] E u)) ∨ ((0 ≤ r.toInt ∧ r.toInt ≤ 200) ∧ ((xi (E 2) 1).toInt + ((nbN a1 : Int) + (nbN a2 : Int) + (nbN a3 : Int) + (nbN a4 : Int) + (nbN a5 : Int)) ≤ 200) ∧ (r.toInt = (xi (u 2) 1).toInt) ∧ (FedC (bys a1 ++ bys a2 ++ bys a3 ++ bys a4 ++ bys a5) E u)))) (HBL dC dI (LC cf) ad) (A)) args s 0 0 (A) := ⟨_, rfl⟩
  rw [← hQ, show entryFrame m args 7 = _ from (congrArg (fun z => entryFrame m z 7) hargs).trans (lg_entry_eq _ _ _)]
  generalize (lg_sl ([.ref (ad 0), .int a1, .int a2, .int a3, .int a4, .int a5]) ++ List.replicate (7 - (lg_sl ([.ref (ad 0), .int a1, .int a2, .int a3, .int a4, .int a5])).length) Slot.unset).toArray = ls at hl ⊢
  have hl : lv_has ls 7 [(0, .ref (ad 0)), (1, .int a1), (2, .int a2), (3, .int a3), (4, .int a4), (5, .int a5)] := hl
  obtain ⟨y1, ey1⟩ : ∃ y, xi (E 2) 1 = y := ⟨_, rfl⟩
  have fy1 : xv (E 2) 1 = .int y1 := (hI.fi 2 (mF 2 rfl) rfl (Nat.le_of_ble_eq_true rfl) rfl).trans (congrArg Value.int ey1)
  have i2 : 0 ≤ y1.toInt ∧ y1.toInt ≤ 200 := by rw [← ey1]; exact hI.iv 2 (mF 2 rfl) rfl (Nat.le_of_ble_eq_true rfl) rfl
  refine lv_iload_n hx hb dX12_feed_0 rfl (lv_at hl 1 rfl) ?_
  refine th_pi (va_runS (As := [.int a1]) (rest := []) ⟨hx, hb, hml, hown, hts⟩ (q_cbytesInX l a1) (va_cwS 1 hts (gi_S (in_18 _ (zs4 (zs4 (zs1 (zs1 (zs1 (zs0))))))) (in_18 _ (zs4 (zs4 (zs4 (zs0))))) (in_4 _ (zs16 (zs4 (zs1 (zs1 (zs1 (zs0))))))) (in_10 _ (zs16 (zs1 (zs1 (zs1 (zs0))))))) rfl rfl rfl hz_yX12_bytesIn_1 ⟨Nat.le_of_ble_eq_true rfl, Nat.le_of_ble_eq_true rfl⟩) ⟨fun _ _ _ _ q => q, fun _ _ _ => ⟨rfl, trivial⟩⟩ rfl rfl hl.1 rfl (lv_room (Nat.le_of_ble_eq_true rfl)) dX12_feed_1 ⟨Nat.le_of_ble_eq_true rfl, Nat.le_of_ble_eq_true rfl⟩) hS (fun r3 H1 locs1 hw hk1 hS => ?_)
  have hP := ub_keep hP hk1
  generalize H1 = H at hP hS ⊢
  generalize locs1 = locs at hS ⊢
  obtain ⟨f4, f5⟩ := hw
  refine lv_iload_n hx hb dX12_feed_4 rfl (lv_at hl 2 rfl) ?_
  refine th_pi (va_runS (As := [.int a2]) (rest := [.int r3]) ⟨hx, hb, hml, hown, hts⟩ (q_cbytesInX l a2) (va_cwS 1 hts (gi_S (in_18 _ (zs4 (zs4 (zs1 (zs1 (zs1 (zs0))))))) (in_18 _ (zs4 (zs4 (zs4 (zs0))))) (in_4 _ (zs16 (zs4 (zs1 (zs1 (zs1 (zs0))))))) (in_10 _ (zs16 (zs1 (zs1 (zs1 (zs0))))))) rfl rfl rfl hz_yX12_bytesIn_1 ⟨Nat.le_of_ble_eq_true rfl, Nat.le_of_ble_eq_true rfl⟩) ⟨fun _ _ _ _ q => q, fun _ _ _ => ⟨rfl, trivial⟩⟩ rfl rfl hl.1 rfl (lv_room (Nat.le_of_ble_eq_true rfl)) dX12_feed_5 ⟨Nat.le_of_ble_eq_true rfl, Nat.le_of_ble_eq_true rfl⟩) hS (fun r6 H1 locs1 hw hk1 hS => ?_)
  have hP := ub_keep hP hk1
  generalize H1 = H at hP hS ⊢
  generalize locs1 = locs at hS ⊢
  obtain ⟨f7, f8⟩ := hw
  refine lv_iadd hx hb dX12_feed_8 ?_
  refine lv_topi (fun y9 ey9 => ?_)
  obtain ⟨ty9, iy9⟩ := ti_add (e := 0) (f := 8) f4 f7 ey9 (by decide)
  have ty9 : y9.toInt = r3.toInt + r6.toInt := ty9
  have iy9 : 0 ≤ y9.toInt ∧ y9.toInt ≤ 8 := iy9
  refine lv_iload_n hx hb dX12_feed_9 rfl (lv_at hl 3 rfl) ?_
  refine th_pi (va_runS (As := [.int a3]) (rest := [.int y9]) ⟨hx, hb, hml, hown, hts⟩ (q_cbytesInX l a3) (va_cwS 1 hts (gi_S (in_18 _ (zs4 (zs4 (zs1 (zs1 (zs1 (zs0))))))) (in_18 _ (zs4 (zs4 (zs4 (zs0))))) (in_4 _ (zs16 (zs4 (zs1 (zs1 (zs1 (zs0))))))) (in_10 _ (zs16 (zs1 (zs1 (zs1 (zs0))))))) rfl rfl rfl hz_yX12_bytesIn_1 ⟨Nat.le_of_ble_eq_true rfl, Nat.le_of_ble_eq_true rfl⟩) ⟨fun _ _ _ _ q => q, fun _ _ _ => ⟨rfl, trivial⟩⟩ rfl rfl hl.1 rfl (lv_room (Nat.le_of_ble_eq_true rfl)) dX12_feed_10 ⟨Nat.le_of_ble_eq_true rfl, Nat.le_of_ble_eq_true rfl⟩) hS (fun r10 H1 locs1 hw hk1 hS => ?_)
  have hP := ub_keep hP hk1
  generalize H1 = H at hP hS ⊢
  generalize locs1 = locs at hS ⊢
  obtain ⟨f11, f12⟩ := hw
  refine lv_iadd hx hb dX12_feed_13 ?_
  refine lv_topi (fun y13 ey13 => ?_)
  obtain ⟨ty13, iy13⟩ := ti_add (e := 0) (f := 12) iy9 f11 ey13 (by decide)
  have ty13 : y13.toInt = y9.toInt + r10.toInt := ty13
  have iy13 : 0 ≤ y13.toInt ∧ y13.toInt ≤ 12 := iy13
  refine lv_iload hx hb dX12_feed_14 (lv_at hl 4 rfl) ?_
  refine th_pi (va_runS (As := [.int a4]) (rest := [.int y13]) ⟨hx, hb, hml, hown, hts⟩ (q_cbytesInX l a4) (va_cwS 1 hts (gi_S (in_18 _ (zs4 (zs4 (zs1 (zs1 (zs1 (zs0))))))) (in_18 _ (zs4 (zs4 (zs4 (zs0))))) (in_4 _ (zs16 (zs4 (zs1 (zs1 (zs1 (zs0))))))) (in_10 _ (zs16 (zs1 (zs1 (zs1 (zs0))))))) rfl rfl rfl hz_yX12_bytesIn_1 ⟨Nat.le_of_ble_eq_true rfl, Nat.le_of_ble_eq_true rfl⟩) ⟨fun _ _ _ _ q => q, fun _ _ _ => ⟨rfl, trivial⟩⟩ rfl rfl hl.1 rfl (lv_room (Nat.le_of_ble_eq_true rfl)) dX12_feed_16 ⟨Nat.le_of_ble_eq_true rfl, Nat.le_of_ble_eq_true rfl⟩) hS (fun r14 H1 locs1 hw hk1 hS => ?_)
  have hP := ub_keep hP hk1
  generalize H1 = H at hP hS ⊢
  generalize locs1 = locs at hS ⊢
  obtain ⟨f15, f16⟩ := hw
  refine lv_iadd hx hb dX12_feed_19 ?_
  refine lv_topi (fun y17 ey17 => ?_)
  obtain ⟨ty17, iy17⟩ := ti_add (e := 0) (f := 16) iy13 f15 ey17 (by decide)
  have ty17 : y17.toInt = y13.toInt + r14.toInt := ty17
  have iy17 : 0 ≤ y17.toInt ∧ y17.toInt ≤ 16 := iy17
  refine lv_iload hx hb dX12_feed_20 (lv_at hl 5 rfl) ?_
  refine th_pi (va_runS (As := [.int a5]) (rest := [.int y17]) ⟨hx, hb, hml, hown, hts⟩ (q_cbytesInX l a5) (va_cwS 1 hts (gi_S (in_18 _ (zs4 (zs4 (zs1 (zs1 (zs1 (zs0))))))) (in_18 _ (zs4 (zs4 (zs4 (zs0))))) (in_4 _ (zs16 (zs4 (zs1 (zs1 (zs1 (zs0))))))) (in_10 _ (zs16 (zs1 (zs1 (zs1 (zs0))))))) rfl rfl rfl hz_yX12_bytesIn_1 ⟨Nat.le_of_ble_eq_true rfl, Nat.le_of_ble_eq_true rfl⟩) ⟨fun _ _ _ _ q => q, fun _ _ _ => ⟨rfl, trivial⟩⟩ rfl rfl hl.1 rfl (lv_room (Nat.le_of_ble_eq_true rfl)) dX12_feed_22 ⟨Nat.le_of_ble_eq_true rfl, Nat.le_of_ble_eq_true rfl⟩) hS (fun r18 H1 locs1 hw hk1 hS => ?_)
  have hP := ub_keep hP hk1
  generalize H1 = H at hP hS ⊢
  generalize locs1 = locs at hS ⊢
  obtain ⟨f19, f20⟩ := hw
  refine lv_iadd hx hb dX12_feed_25 ?_
  refine lv_topi (fun y21 ey21 => ?_)
  obtain ⟨ty21, iy21⟩ := ti_add (e := 0) (f := 20) iy17 f19 ey21 (by decide)
  have ty21 : y21.toInt = y17.toInt + r18.toInt := ty21
  have iy21 : 0 ≤ y21.toInt ∧ y21.toInt ≤ 20 := iy21
  refine lv_istore (lv' := [(6, .int y21), (0, .ref (ad 0)), (1, .int a1), (2, .int a2), (3, .int a3), (4, .int a4), (5, .int a5)]) hx hb dX12_feed_26 hl (by decide) rfl (fun ls hl => ?_)
  refine lv_aload_n hx hb dX12_feed_28 rfl (lv_at hl 1 rfl) ?_
  refine th_getL (ci := 13) (C := RX12) (T := TX12) (N := 6) (v := .ref (ad 2)) hx hb hts hinX12 hown hK hP hI 0 (mF 0 rfl) rfl rfl 1 (Nat.le_of_ble_eq_true rfl) (hts _ (vA_in _ _ (in_14 _ (zs4 (zs4 (zs1 (zs1 (zs1 (zs0))))))))) (fun _ h9 => h9) (hI.fr 0 (mF 0 rfl) rfl (Nat.le_of_ble_eq_true rfl) 2 rfl) dX12_feed_29 ?_
  refine th_getL (ci := 11) (C := RX10) (T := TX10) (N := 10) (v := .int y1) hx hb hts hinX10 hown hK hP hI 2 (mF 2 rfl) rfl rfl 1 (Nat.le_of_ble_eq_true rfl) (hts _ (vA_in _ _ (in_14 _ (zs4 (zs4 (zs4 (zs0))))))) (fun _ h9 => h9) fy1 dX12_feed_32 ?_
  refine lv_iload hx hb dX12_feed_35 (lv_at hl 0 rfl) ?_
  refine lv_iadd hx hb dX12_feed_37 ?_
  refine lv_topi (fun y22 ey22 => ?_)
  obtain ⟨ty22, iy22⟩ := ti_add (e := 0) (f := 220) i2 iy21 ey22 (by decide)
  have ty22 : y22.toInt = y1.toInt + y21.toInt := ty22
  have iy22 : 0 ≤ y22.toInt ∧ y22.toInt ≤ 220 := iy22
  refine lv_sipush (v := 200) hx hb dX12_feed_38 (by decide) ?_
  refine lv_icmp_le (tgt := 46) hx hb dX12_feed_41 (by decide) (fun c23 => ?_) (fun c23 => ?_)
  · --41 taken
    have t24 : y22.toInt ≤ 200 := ti_le c23
    have i25 : 0 ≤ y22.toInt ∧ y22.toInt ≤ 200 := iv_le_l t24 iy22 (il_ 200) (by decide)
    refine lv_aload_n hx hb dX12_feed_46 rfl (lv_at hl 1 rfl) ?_
    refine th_getL (ci := 13) (C := RX12) (T := TX12) (N := 6) (v := .ref (ad 2)) hx hb hts hinX12 hown hK hP hI 0 (mF 0 rfl) rfl rfl 1 (Nat.le_of_ble_eq_true rfl) (hts _ (vA_in _ _ (in_14 _ (zs4 (zs4 (zs1 (zs1 (zs1 (zs0))))))))) (fun _ h9 => h9) (hI.fr 0 (mF 0 rfl) rfl (Nat.le_of_ble_eq_true rfl) 2 rfl) dX12_feed_47 ?_
    refine lv_iload_n hx hb dX12_feed_50 rfl (lv_at hl 2 rfl) ?_
    refine th_vL (va_runV (As := [.int a1]) (rest := []) ⟨hx, hb, hml, hown, hts⟩ (q_putX l dC dI cT cf hC ad E H.size a1 hI (by (try rw [(show xi (E 2) 1 = y1 from vi_e fy1)]); omega)) (cwV 1 hts (gi_V (in_18 _ (zs4 (zs4 (zs4 (zs1 (zs0)))))) (in_18 _ (zs4 (zs4 (zs4 (zs1 (zs1 (zs0))))))) (in_18 _ (zs4 (zs4 (zs4 (zs1 (zs1 (zs1 (zs0)))))))) (in_8 _ (zs4 (zs4 (zs4 (zs1 (zs1 (zs0))))))) (in_8 _ (zs16 (zs4 (zs1 (zs0)))))) rfl rfl rfl ⟨rfl, hz_yX10_put_1⟩ ⟨Nat.le_of_ble_eq_true rfl, Nat.le_of_ble_eq_true rfl⟩) ⟨HWL_bl, va_recv hK hP (ci := 11) (q0 := posL 2 (LC cf)) rfl (hI.ob 2 (mF 2 rfl) rfl), (HWL_wi hP hK (WL_D hD) hS hA hEV)⟩ rfl rfl hl.1 rfl (lv_room (Nat.le_of_ble_eq_true rfl)) dX12_feed_51 ⟨Nat.le_of_ble_eq_true rfl, Nat.le_of_ble_eq_true rfl⟩) (WL_D hD) hS hA (fun E27 H locs hw hP hS => ?_)
    obtain ⟨hI, kq28, hw⟩ := hw
    have hKb := hKp
    have hKp := hKp.tr kq28 (wl_sub rfl rfl)
    obtain ⟨y29, ey29⟩ : ∃ y, xi (E27 2) 1 = y := ⟨_, rfl⟩
    have fy29 : xv (E27 2) 1 = .int y29 := (hI.fi 2 (mF 2 rfl) rfl (Nat.le_of_ble_eq_true rfl) rfl).trans (congrArg Value.int ey29)
    have i30 : 0 ≤ y29.toInt ∧ y29.toInt ≤ 200 := by rw [← ey29]; exact hI.iv 2 (mF 2 rfl) rfl (Nat.le_of_ble_eq_true rfl) rfl
    obtain ⟨f31, f32⟩ := hw
    try rw [(show xi (E 2) 1 = y1 from vi_e fy1)] at f31
    try rw [(show xi (E27 2) 1 = y29 from vi_e fy29)] at f31
    refine lv_aload_n hx hb dX12_feed_54 rfl (lv_at hl 1 rfl) ?_
    refine th_getL (ci := 13) (C := RX12) (T := TX12) (N := 6) (v := .ref (ad 2)) hx hb hts hinX12 hown hK hP hI 0 (mF 0 rfl) rfl rfl 1 (Nat.le_of_ble_eq_true rfl) (hts _ (vA_in _ _ (in_14 _ (zs4 (zs4 (zs1 (zs1 (zs1 (zs0))))))))) (fun _ h9 => h9) (hI.fr 0 (mF 0 rfl) rfl (Nat.le_of_ble_eq_true rfl) 2 rfl) dX12_feed_55 ?_
    refine lv_iload_n hx hb dX12_feed_58 rfl (lv_at hl 3 rfl) ?_
    refine th_vL (va_runV (As := [.int a2]) (rest := []) ⟨hx, hb, hml, hown, hts⟩ (q_putX l dC dI cT cf hC ad E27 H.size a2 hI (by (try rw [(show xi (E27 2) 1 = y29 from vi_e fy29)]); omega)) (cwV 1 hts (gi_V (in_18 _ (zs4 (zs4 (zs4 (zs1 (zs0)))))) (in_18 _ (zs4 (zs4 (zs4 (zs1 (zs1 (zs0))))))) (in_18 _ (zs4 (zs4 (zs4 (zs1 (zs1 (zs1 (zs0)))))))) (in_8 _ (zs4 (zs4 (zs4 (zs1 (zs1 (zs0))))))) (in_8 _ (zs16 (zs4 (zs1 (zs0)))))) rfl rfl rfl ⟨rfl, hz_yX10_put_1⟩ ⟨Nat.le_of_ble_eq_true rfl, Nat.le_of_ble_eq_true rfl⟩) ⟨HWL_bl, va_recv hK hP (ci := 11) (q0 := posL 2 (LC cf)) rfl (hI.ob 2 (mF 2 rfl) rfl), (HWL_wi hP hK (WL_D hD) hS hA hEV)⟩ rfl rfl hl.1 rfl (lv_room (Nat.le_of_ble_eq_true rfl)) dX12_feed_59 ⟨Nat.le_of_ble_eq_true rfl, Nat.le_of_ble_eq_true rfl⟩) (WL_D hD) hS hA (fun E34 H locs hw hP hS => ?_)
    obtain ⟨hI, kq35, hw⟩ := hw
    have hKb := hKp
    have hKp := hKp.tr kq35 (wl_sub rfl rfl)
    obtain ⟨y36, ey36⟩ : ∃ y, xi (E34 2) 1 = y := ⟨_, rfl⟩
    have fy36 : xv (E34 2) 1 = .int y36 := (hI.fi 2 (mF 2 rfl) rfl (Nat.le_of_ble_eq_true rfl) rfl).trans (congrArg Value.int ey36)
    have i37 : 0 ≤ y36.toInt ∧ y36.toInt ≤ 200 := by rw [← ey36]; exact hI.iv 2 (mF 2 rfl) rfl (Nat.le_of_ble_eq_true rfl) rfl
    obtain ⟨f38, f39⟩ := hw
    try rw [(show xi (E27 2) 1 = y29 from vi_e fy29)] at f38
    try rw [(show xi (E34 2) 1 = y36 from vi_e fy36)] at f38
    refine lv_aload_n hx hb dX12_feed_62 rfl (lv_at hl 1 rfl) ?_
    refine th_getL (ci := 13) (C := RX12) (T := TX12) (N := 6) (v := .ref (ad 2)) hx hb hts hinX12 hown hK hP hI 0 (mF 0 rfl) rfl rfl 1 (Nat.le_of_ble_eq_true rfl) (hts _ (vA_in _ _ (in_14 _ (zs4 (zs4 (zs1 (zs1 (zs1 (zs0))))))))) (fun _ h9 => h9) (hI.fr 0 (mF 0 rfl) rfl (Nat.le_of_ble_eq_true rfl) 2 rfl) dX12_feed_63 ?_
    refine lv_iload_n hx hb dX12_feed_66 rfl (lv_at hl 4 rfl) ?_
    refine th_vL (va_runV (As := [.int a3]) (rest := []) ⟨hx, hb, hml, hown, hts⟩ (q_putX l dC dI cT cf hC ad E34 H.size a3 hI (by (try rw [(show xi (E34 2) 1 = y36 from vi_e fy36)]); omega)) (cwV 1 hts (gi_V (in_18 _ (zs4 (zs4 (zs4 (zs1 (zs0)))))) (in_18 _ (zs4 (zs4 (zs4 (zs1 (zs1 (zs0))))))) (in_18 _ (zs4 (zs4 (zs4 (zs1 (zs1 (zs1 (zs0)))))))) (in_8 _ (zs4 (zs4 (zs4 (zs1 (zs1 (zs0))))))) (in_8 _ (zs16 (zs4 (zs1 (zs0)))))) rfl rfl rfl ⟨rfl, hz_yX10_put_1⟩ ⟨Nat.le_of_ble_eq_true rfl, Nat.le_of_ble_eq_true rfl⟩) ⟨HWL_bl, va_recv hK hP (ci := 11) (q0 := posL 2 (LC cf)) rfl (hI.ob 2 (mF 2 rfl) rfl), (HWL_wi hP hK (WL_D hD) hS hA hEV)⟩ rfl rfl hl.1 rfl (lv_room (Nat.le_of_ble_eq_true rfl)) dX12_feed_67 ⟨Nat.le_of_ble_eq_true rfl, Nat.le_of_ble_eq_true rfl⟩) (WL_D hD) hS hA (fun E41 H locs hw hP hS => ?_)
    obtain ⟨hI, kq42, hw⟩ := hw
    have hKb := hKp
    have hKp := hKp.tr kq42 (wl_sub rfl rfl)
    obtain ⟨y43, ey43⟩ : ∃ y, xi (E41 2) 1 = y := ⟨_, rfl⟩
    have fy43 : xv (E41 2) 1 = .int y43 := (hI.fi 2 (mF 2 rfl) rfl (Nat.le_of_ble_eq_true rfl) rfl).trans (congrArg Value.int ey43)
    have i44 : 0 ≤ y43.toInt ∧ y43.toInt ≤ 200 := by rw [← ey43]; exact hI.iv 2 (mF 2 rfl) rfl (Nat.le_of_ble_eq_true rfl) rfl
    obtain ⟨f45, f46⟩ := hw
    try rw [(show xi (E34 2) 1 = y36 from vi_e fy36)] at f45
    try rw [(show xi (E41 2) 1 = y43 from vi_e fy43)] at f45
    refine lv_aload_n hx hb dX12_feed_70 rfl (lv_at hl 1 rfl) ?_
    refine th_getL (ci := 13) (C := RX12) (T := TX12) (N := 6) (v := .ref (ad 2)) hx hb hts hinX12 hown hK hP hI 0 (mF 0 rfl) rfl rfl 1 (Nat.le_of_ble_eq_true rfl) (hts _ (vA_in _ _ (in_14 _ (zs4 (zs4 (zs1 (zs1 (zs1 (zs0))))))))) (fun _ h9 => h9) (hI.fr 0 (mF 0 rfl) rfl (Nat.le_of_ble_eq_true rfl) 2 rfl) dX12_feed_71 ?_
    refine lv_iload hx hb dX12_feed_74 (lv_at hl 5 rfl) ?_
    refine th_vL (va_runV (As := [.int a4]) (rest := []) ⟨hx, hb, hml, hown, hts⟩ (q_putX l dC dI cT cf hC ad E41 H.size a4 hI (by (try rw [(show xi (E41 2) 1 = y43 from vi_e fy43)]); omega)) (cwV 1 hts (gi_V (in_18 _ (zs4 (zs4 (zs4 (zs1 (zs0)))))) (in_18 _ (zs4 (zs4 (zs4 (zs1 (zs1 (zs0))))))) (in_18 _ (zs4 (zs4 (zs4 (zs1 (zs1 (zs1 (zs0)))))))) (in_8 _ (zs4 (zs4 (zs4 (zs1 (zs1 (zs0))))))) (in_8 _ (zs16 (zs4 (zs1 (zs0)))))) rfl rfl rfl ⟨rfl, hz_yX10_put_1⟩ ⟨Nat.le_of_ble_eq_true rfl, Nat.le_of_ble_eq_true rfl⟩) ⟨HWL_bl, va_recv hK hP (ci := 11) (q0 := posL 2 (LC cf)) rfl (hI.ob 2 (mF 2 rfl) rfl), (HWL_wi hP hK (WL_D hD) hS hA hEV)⟩ rfl rfl hl.1 rfl (lv_room (Nat.le_of_ble_eq_true rfl)) dX12_feed_76 ⟨Nat.le_of_ble_eq_true rfl, Nat.le_of_ble_eq_true rfl⟩) (WL_D hD) hS hA (fun E48 H locs hw hP hS => ?_)
    obtain ⟨hI, kq49, hw⟩ := hw
    have hKb := hKp
    have hKp := hKp.tr kq49 (wl_sub rfl rfl)
    obtain ⟨y50, ey50⟩ : ∃ y, xi (E48 2) 1 = y := ⟨_, rfl⟩
    have fy50 : xv (E48 2) 1 = .int y50 := (hI.fi 2 (mF 2 rfl) rfl (Nat.le_of_ble_eq_true rfl) rfl).trans (congrArg Value.int ey50)
    have i51 : 0 ≤ y50.toInt ∧ y50.toInt ≤ 200 := by rw [← ey50]; exact hI.iv 2 (mF 2 rfl) rfl (Nat.le_of_ble_eq_true rfl) rfl
    obtain ⟨f52, f53⟩ := hw
    try rw [(show xi (E41 2) 1 = y43 from vi_e fy43)] at f52
    try rw [(show xi (E48 2) 1 = y50 from vi_e fy50)] at f52
    refine lv_aload_n hx hb dX12_feed_79 rfl (lv_at hl 1 rfl) ?_
    refine th_getL (ci := 13) (C := RX12) (T := TX12) (N := 6) (v := .ref (ad 2)) hx hb hts hinX12 hown hK hP hI 0 (mF 0 rfl) rfl rfl 1 (Nat.le_of_ble_eq_true rfl) (hts _ (vA_in _ _ (in_14 _ (zs4 (zs4 (zs1 (zs1 (zs1 (zs0))))))))) (fun _ h9 => h9) (hI.fr 0 (mF 0 rfl) rfl (Nat.le_of_ble_eq_true rfl) 2 rfl) dX12_feed_80 ?_
    refine lv_iload hx hb dX12_feed_83 (lv_at hl 6 rfl) ?_
    refine th_vL (va_runV (As := [.int a5]) (rest := []) ⟨hx, hb, hml, hown, hts⟩ (q_putX l dC dI cT cf hC ad E48 H.size a5 hI (by (try rw [(show xi (E48 2) 1 = y50 from vi_e fy50)]); omega)) (cwV 1 hts (gi_V (in_18 _ (zs4 (zs4 (zs4 (zs1 (zs0)))))) (in_18 _ (zs4 (zs4 (zs4 (zs1 (zs1 (zs0))))))) (in_18 _ (zs4 (zs4 (zs4 (zs1 (zs1 (zs1 (zs0)))))))) (in_8 _ (zs4 (zs4 (zs4 (zs1 (zs1 (zs0))))))) (in_8 _ (zs16 (zs4 (zs1 (zs0)))))) rfl rfl rfl ⟨rfl, hz_yX10_put_1⟩ ⟨Nat.le_of_ble_eq_true rfl, Nat.le_of_ble_eq_true rfl⟩) ⟨HWL_bl, va_recv hK hP (ci := 11) (q0 := posL 2 (LC cf)) rfl (hI.ob 2 (mF 2 rfl) rfl), (HWL_wi hP hK (WL_D hD) hS hA hEV)⟩ rfl rfl hl.1 rfl (lv_room (Nat.le_of_ble_eq_true rfl)) dX12_feed_85 ⟨Nat.le_of_ble_eq_true rfl, Nat.le_of_ble_eq_true rfl⟩) (WL_D hD) hS hA (fun E55 H locs hw hP hS => ?_)
    obtain ⟨hI, kq56, hw⟩ := hw
    have hKb := hKp
    have hKp := hKp.tr kq56 (wl_sub rfl rfl)
    obtain ⟨y57, ey57⟩ : ∃ y, xi (E55 2) 1 = y := ⟨_, rfl⟩
    have fy57 : xv (E55 2) 1 = .int y57 := (hI.fi 2 (mF 2 rfl) rfl (Nat.le_of_ble_eq_true rfl) rfl).trans (congrArg Value.int ey57)
    have i58 : 0 ≤ y57.toInt ∧ y57.toInt ≤ 200 := by rw [← ey57]; exact hI.iv 2 (mF 2 rfl) rfl (Nat.le_of_ble_eq_true rfl) rfl
    obtain ⟨f59, f60⟩ := hw
    try rw [(show xi (E48 2) 1 = y50 from vi_e fy50)] at f59
    try rw [(show xi (E55 2) 1 = y57 from vi_e fy57)] at f59
    refine lv_aload_n hx hb dX12_feed_88 rfl (lv_at hl 1 rfl) ?_
    refine th_getL (ci := 13) (C := RX12) (T := TX12) (N := 6) (v := .ref (ad 2)) hx hb hts hinX12 hown hK hP hI 0 (mF 0 rfl) rfl rfl 1 (Nat.le_of_ble_eq_true rfl) (hts _ (vA_in _ _ (in_14 _ (zs4 (zs4 (zs1 (zs1 (zs1 (zs0))))))))) (fun _ h9 => h9) (hI.fr 0 (mF 0 rfl) rfl (Nat.le_of_ble_eq_true rfl) 2 rfl) dX12_feed_89 ?_
    refine th_getL (ci := 11) (C := RX10) (T := TX10) (N := 10) (v := .int y57) hx hb hts hinX10 hown hK hP hI 2 (mF 2 rfl) rfl rfl 1 (Nat.le_of_ble_eq_true rfl) (hts _ (vA_in _ _ (in_14 _ (zs4 (zs4 (zs4 (zs0))))))) (fun _ h9 => h9) fy57 dX12_feed_92 ?_
    rw [hQ]
    exact W.iret (v := y57) hx hb hr (fun t ht hW => ⟨⟨y57, E55, rfl, ⟨hI, hKp, Or.inr (⟨i58, by (try rw [(show xi (E55 2) 1 = y57 from vi_e fy57)]); (try rw [ey1]); all_goals omega, by (try rw [(show xi (E55 2) 1 = y57 from vi_e fy57)]); (try rw [ey1]); all_goals omega, ((((f32.tr f39).tr f46).tr f53).tr f60)⟩)⟩, by show va_P (dC, dI) vwCl (WL (LC cf) ad E55) t.heap; rw [ht]; exact hP⟩, hS.F ht⟩) hS.2.2 dX12_feed_95
  · --41 not
    have t61 : (200 : Int) < y22.toInt := ti_nle c23
    have i62 : 201 ≤ y22.toInt ∧ y22.toInt ≤ 220 := iv_lt_r t61 (il_ 200) iy22 (by decide)
    refine lv_iconst (v := -1) hx hb dX12_feed_44 (by decide) ?_
    rw [hQ]
    exact W.iret (v := (-1)) hx hb hr (fun t ht hW => ⟨⟨(-1), E, rfl, ⟨hI, hKp, Or.inl ⟨rfl, by have h8 := ln_m1; (try rw [(show xi (E 2) 1 = y1 from vi_e fy1)]); (try rw [ey1]); all_goals omega, Fed.rf⟩⟩, by show va_P (dC, dI) vwCl (WL (LC cf) ad E) t.heap; rw [ht]; exact hP⟩, hS.F ht⟩) hS.2.2 dX12_feed_45
def v_u_endX : List Cond := .code yX12_end cX12_end 2 (some .boolean) :: vA
abbrev rm_u_endX : Room := { frames := 1, cells := 0, slots := 0, locals := 40 }
def w_u_endX : Nat → Nat → Bool := wl [] [(2, 1)]
set_option maxHeartbeats 4000000 in
set_option maxRecDepth 100000 in
theorem q_u_endX (l : Launch) (dC : Nat → ClassId) (dI : Nat → Nat → Nat) (cT : Nat → ClassId) (cf : Nat → Nat) (hC : CF cf) (ad : Nat → Nat) (E : Nat → va_E) (sz : Nat) (a0 : Int32) (hI0 : IXL cT (shC cf) (spC cf) (LC cf) ad E)  : Met l yX12_end v_u_endX rm_u_endX (va_Pc [.ref (ad 0), .int a0] (HWL dC dI (TYC cT) cf ad E sz)) (va_Qi (S := Nat → va_E) (fun r u => IXL cT (shC cf) (spC cf) (LC cf) ad u ∧ Kp w_u_endX E u ∧ ((r = 1 ∧ (0 ≤ a0.toInt ∧ a0.toInt ≤ (xi (E 2) 1).toInt) ∧ ((xi (u 2) 1).toInt = a0.toInt) ∧ (xi (u 21) = xi (E 21))) ∨ (r = 0 ∧ (¬ (0 ≤ a0.toInt ∧ a0.toInt ≤ (xi (E 2) 1).toInt)) ∧ ((xi (u 2) 1).toInt = (xi (E 2) 1).toInt) ∧ (xi (u 21) = xi (E 21))))) (HBL dC dI (LC cf) ad) (va_A (WL (LC cf) ad E) sz)) 0 0 (va_A (WL (LC cf) ad E) sz) := by
  obtain ⟨⟨hc0, hc1, hc2, hc3, hc4, hc5⟩, hcr⟩ := id hC
  refine Met.ofW (cc := cX12_end) (maxL := 2) (ret := (some .boolean)) (by decide) rfl ?_
  intro p e s m args below meth c s₁ B hml hv
  obtain ⟨hargs, hsz, hP, hK, hD0, hEV⟩ := hv
  subst hsz
  have hx := B.exec
  have hb := B.bytes
  have hr := B.returns
  have hts := atoms_spec (ws := v_u_endX) B.pre
  have hown : s.vm.findClass RX12 = some m.cls := findClass_of_methodNamed B.named
  have hlocks := B.notSynchronized
  have hinX10 : ∀ w ∈ u_ws RX10 TX10 10, w ∈ v_u_endX := fun w h => vA_in _ w (in_X10 w h)
  have hinX12 : ∀ w ∈ u_ws RX12 TX12 6, w ∈ v_u_endX := fun w h => vA_in _ w (in_X12 w h)
  generalize hAe : va_A (WL (LC cf) ad E) s.heap.size = A at hEV ⊢
  have hA : ∀ q : Nat, s.heap.size ≤ q → A q := fun q h => by rw [← hAe]; exact Or.inr h
  have hD : va_D A (WL (LC cf) ad E) := by rw [← hAe]; exact hD0.self
  have hS : va_S A s.heap s.heap [] := va_S.rf
  have hI := hI0
  have hKp : Kp w_u_endX E E := Kp.rf
  have hl := lv_entry ([.ref (ad 0), .int a0]) (n := 2) (Nat.le_of_ble_eq_true rfl)
  obtain ⟨Q, hQ⟩ : ∃ Q, Q = MQ below (va_Qi (S := Nat → va_E) (fun r u => IXL cT (shC cf) (spC cf) (LC cf) ad u ∧ Kp w_u_endX E u ∧ ((r = 1 ∧ (0 ≤ a0.toInt ∧ a0.toInt ≤ (xi (E 2) 1).toInt) ∧ ((xi (u 2) 1).toInt = a0.toInt) ∧ (xi (u 21) = xi (E 21))) ∨ (r = 0 ∧ (¬ (0 ≤ a0.toInt ∧ a0.toInt ≤ (xi (E 2) 1).toInt)) ∧ ((xi (u 2) 1).toInt = (xi (E 2) 1).toInt) ∧ (xi (u 21) = xi (E 21))))) (HBL dC dI (LC cf) ad) (A)) args s 0 0 (A) := ⟨_, rfl⟩
  rw [← hQ, show entryFrame m args 2 = _ from (congrArg (fun z => entryFrame m z 2) hargs).trans (lg_entry_eq _ _ _)]
  generalize (lg_sl ([.ref (ad 0), .int a0]) ++ List.replicate (2 - (lg_sl ([.ref (ad 0), .int a0])).length) Slot.unset).toArray = ls at hl ⊢
  have hl : lv_has ls 2 [(0, .ref (ad 0)), (1, .int a0)] := hl
  obtain ⟨y1, ey1⟩ : ∃ y, xi (E 2) 1 = y := ⟨_, rfl⟩
  have fy1 : xv (E 2) 1 = .int y1 := (hI.fi 2 (mF 2 rfl) rfl (Nat.le_of_ble_eq_true rfl) rfl).trans (congrArg Value.int ey1)
  have i2 : 0 ≤ y1.toInt ∧ y1.toInt ≤ 200 := by rw [← ey1]; exact hI.iv 2 (mF 2 rfl) rfl (Nat.le_of_ble_eq_true rfl) rfl
  refine lv_iload_n hx hb dX12_end_0 rfl (lv_at hl 1 rfl) ?_
  refine lv_iconst (v := 0) hx hb dX12_end_1 (by decide) ?_
  refine lv_aload_n hx hb dX12_end_2 rfl (lv_at hl 0 rfl) ?_
  refine th_getL (ci := 13) (C := RX12) (T := TX12) (N := 6) (v := .ref (ad 2)) hx hb hts hinX12 hown hK hP hI 0 (mF 0 rfl) rfl rfl 1 (Nat.le_of_ble_eq_true rfl) (hts _ (vA_in _ _ (in_14 _ (zs4 (zs4 (zs1 (zs1 (zs1 (zs0))))))))) (fun _ h9 => h9) (hI.fr 0 (mF 0 rfl) rfl (Nat.le_of_ble_eq_true rfl) 2 rfl) dX12_end_3 ?_
  refine th_getL (ci := 11) (C := RX10) (T := TX10) (N := 10) (v := .int y1) hx hb hts hinX10 hown hK hP hI 2 (mF 2 rfl) rfl rfl 1 (Nat.le_of_ble_eq_true rfl) (hts _ (vA_in _ _ (in_14 _ (zs4 (zs4 (zs4 (zs0))))))) (fun _ h9 => h9) fy1 dX12_end_6 ?_
  refine th_pi (va_runS (As := [.int a0, .int 0, .int y1]) (rest := []) ⟨hx, hb, hml, hown, hts⟩ (q_cwithin l a0 (0 : Int32) y1) (va_cwS 3 hts (gi_S (in_10 _ (zs16 (zs4 (zs4 (zs4 (zs1 (zs1 (zs1 (zs0))))))))) (in_4 _ (zs16 (zs4 (zs1 (zs1 (zs0)))))) (in_4 _ (zs16 (zs4 (zs1 (zs1 (zs1 (zs0))))))) (in_4 _ (zs16 (zs4 (zs4 (zs0)))))) rfl rfl rfl hz_yX12_within_3 ⟨Nat.le_of_ble_eq_true rfl, Nat.le_of_ble_eq_true rfl⟩) ⟨fun _ _ _ _ q => q, fun _ _ _ => ⟨rfl, trivial⟩⟩ rfl rfl hl.1 rfl (lv_room (Nat.le_of_ble_eq_true rfl)) dX12_end_9 ⟨Nat.le_of_ble_eq_true rfl, Nat.le_of_ble_eq_true rfl⟩) hS (fun r3 H1 locs1 hw hk1 hS => ?_)
  have hP := ub_keep hP hk1
  generalize H1 = H at hP hS ⊢
  generalize locs1 = locs at hS ⊢
  rcases hw with hw | hw
  · -- cwithin, case 0
    obtain ⟨rfl, f4⟩ := hw
    have t5 : (0 : Int) ≤ a0.toInt := f4.1
    have t6 : a0.toInt ≤ y1.toInt := f4.2
    have i7 : 0 ≤ a0.toInt ∧ a0.toInt ≤ 2147483647 := iv_le_r t5 (il_ 0) (iv_all _) (by decide)
    have i8 : 0 ≤ a0.toInt ∧ a0.toInt ≤ 200 := iv_le_l t6 i7 i2 (by decide)
    refine lv_if_ne (tgt := 17) hx hb dX12_end_12 (by decide) (fun c9 => ?_) (fun c9 => ?_)
    · --12 taken
      refine lv_aload_n hx hb dX12_end_17 rfl (lv_at hl 0 rfl) ?_
      refine th_getL (ci := 13) (C := RX12) (T := TX12) (N := 6) (v := .ref (ad 2)) hx hb hts hinX12 hown hK hP hI 0 (mF 0 rfl) rfl rfl 1 (Nat.le_of_ble_eq_true rfl) (hts _ (vA_in _ _ (in_14 _ (zs4 (zs4 (zs1 (zs1 (zs1 (zs0))))))))) (fun _ h9 => h9) (hI.fr 0 (mF 0 rfl) rfl (Nat.le_of_ble_eq_true rfl) 2 rfl) dX12_end_18 ?_
      refine lv_iload_n hx hb dX12_end_21 rfl (lv_at hl 1 rfl) ?_
      refine th_putL (ci := 11) (C := RX10) (T := TX10) (N := 10) (v := .int a0) (ty := .int) hx hb hts hinX10 tyX10 tyX10_ok nmX10 hown hK hP (WL_D hD) hS hI 2 (mF 2 rfl) rfl rfl 1 (Nat.le_of_ble_eq_true rfl) (hts _ (vA_in _ _ (in_14 _ (zs4 (zs4 (zs4 (zs0))))))) (fun _ h9 => h9) rfl (by decide +kernel) rfl rfl (okI rfl i8) dX12_end_22 (fun H locs E10 pw11 hI hP hS => ?_)
      have hKp := hKp.pw pw11 rfl
      refine lv_iconst (v := 1) hx hb dX12_end_25 (by decide) ?_
      rw [hQ]
      exact W.zret (v := 1) hx hb hr rfl (fun t ht hW => ⟨⟨1, E10, rfl, ⟨hI, hKp, Or.inl ⟨rfl, by have h8 := ln_1; (try rw [(show xi (E10 2) 1 = a0 from vi_e pw11.1)]); (try rw [ey1]); all_goals omega, by have h8 := ln_1; (try rw [(show xi (E10 2) 1 = a0 from vi_e pw11.1)]); (try rw [ey1]); all_goals omega, (by show xi (E10 21) = xi (E 21); exact funext (fun j => congrArg vi (pw11.2 21 j (by omega))))⟩⟩, by show va_P (dC, dI) vwCl (WL (LC cf) ad E10) t.heap; rw [ht]; exact hP⟩, hS.F ht⟩) hS.2.2 dX12_end_26
    · --12 not
      exact absurd c9 (by decide)
  · -- cwithin, case 1
    obtain ⟨rfl, f12⟩ := hw
    have t13 : ¬ ((0 : Int) ≤ a0.toInt ∧ a0.toInt ≤ y1.toInt) := f12
    refine lv_if_ne (tgt := 17) hx hb dX12_end_12 (by decide) (fun c14 => ?_) (fun c14 => ?_)
    · --12 taken
      exact absurd c14 (by decide)
    · --12 not
      refine lv_iconst (v := 0) hx hb dX12_end_15 (by decide) ?_
      rw [hQ]
      exact W.zret (v := 0) hx hb hr rfl (fun t ht hW => ⟨⟨0, E, rfl, ⟨hI, hKp, Or.inr (⟨rfl, by have h8 := ln_0; (try rw [(show xi (E 2) 1 = y1 from vi_e fy1)]); (try rw [ey1]); all_goals omega, by have h8 := ln_0; (try rw [(show xi (E 2) 1 = y1 from vi_e fy1)]); (try rw [ey1]); all_goals omega, rfl⟩)⟩, by show va_P (dC, dI) vwCl (WL (LC cf) ad E) t.heap; rw [ht]; exact hP⟩, hS.F ht⟩) hS.2.2 dX12_end_16
def v_u_faultX : List Cond := .code yX12_fault cX12_fault 1 (some .int) :: vA
abbrev rm_u_faultX : Room := { frames := 72, cells := 0, slots := 0, locals := 2880 }
def w_u_faultX : Nat → Nat → Bool := wl [22, 23, 24, 25] [(2, 2), (2, 3), (2, 5), (2, 9)]
set_option maxHeartbeats 4000000 in
set_option maxRecDepth 100000 in
theorem q_u_faultX (l : Launch) (dC : Nat → ClassId) (dI : Nat → Nat → Nat) (cT : Nat → ClassId) (cf : Nat → Nat) (hC : CF cf) (ad : Nat → Nat) (E : Nat → va_E) (sz : Nat)  (hI0 : IXL cT (shC cf) (spC cf) (LC cf) ad E)  : Met l yX12_fault v_u_faultX rm_u_faultX (va_Pc [.ref (ad 0)] (HWL dC dI (TYC cT) cf ad E sz)) (va_Qi (S := Nat → va_E) (fun r u => IXL cT (shC cf) (spC cf) (LC cf) ad u ∧ Kp w_u_faultX E u ∧ ((-1 ≤ r.toInt ∧ r.toInt ≤ 200) ∧ (r.toInt = (textS false (tT E) (tN E)).flt))) (HBL dC dI (LC cf) ad) (va_A (WL (LC cf) ad E) sz)) 0 0 (va_A (WL (LC cf) ad E) sz) := by
  obtain ⟨⟨hc0, hc1, hc2, hc3, hc4, hc5⟩, hcr⟩ := id hC
  refine Met.ofW (cc := cX12_fault) (maxL := 1) (ret := (some .int)) (by decide) rfl ?_
  intro p e s m args below meth c s₁ B hml hv
  obtain ⟨hargs, hsz, hP, hK, hD0, hEV⟩ := hv
  subst hsz
  have hx := B.exec
  have hb := B.bytes
  have hr := B.returns
  have hts := atoms_spec (ws := v_u_faultX) B.pre
  have hown : s.vm.findClass RX12 = some m.cls := findClass_of_methodNamed B.named
  have hlocks := B.notSynchronized
  have hinX12 : ∀ w ∈ u_ws RX12 TX12 6, w ∈ v_u_faultX := fun w h => vA_in _ w (in_X12 w h)
  generalize hAe : va_A (WL (LC cf) ad E) s.heap.size = A at hEV ⊢
  have hA : ∀ q : Nat, s.heap.size ≤ q → A q := fun q h => by rw [← hAe]; exact Or.inr h
  have hD : va_D A (WL (LC cf) ad E) := by rw [← hAe]; exact hD0.self
  have hS : va_S A s.heap s.heap [] := va_S.rf
  have hI := hI0
  have hKp : Kp w_u_faultX E E := Kp.rf
  have hl := lv_entry ([.ref (ad 0)]) (n := 1) (Nat.le_of_ble_eq_true rfl)
  obtain ⟨Q, hQ⟩ : ∃ Q, Q = MQ below (va_Qi (S := Nat → va_E) (fun r u => IXL cT (shC cf) (spC cf) (LC cf) ad u ∧ Kp w_u_faultX E u ∧ ((-1 ≤ r.toInt ∧ r.toInt ≤ 200) ∧ (r.toInt = (textS false (tT E) (tN E)).flt))) (HBL dC dI (LC cf) ad) (A)) args s 0 0 (A) := ⟨_, rfl⟩
  rw [← hQ, show entryFrame m args 1 = _ from (congrArg (fun z => entryFrame m z 1) hargs).trans (lg_entry_eq _ _ _)]
  generalize (lg_sl ([.ref (ad 0)]) ++ List.replicate (1 - (lg_sl ([.ref (ad 0)])).length) Slot.unset).toArray = ls at hl ⊢
  have hl : lv_has ls 1 [(0, .ref (ad 0))] := hl
  refine lv_aload_n hx hb dX12_fault_0 rfl (lv_at hl 0 rfl) ?_
  refine th_getL (ci := 13) (C := RX12) (T := TX12) (N := 6) (v := .ref (ad 2)) hx hb hts hinX12 hown hK hP hI 0 (mF 0 rfl) rfl rfl 1 (Nat.le_of_ble_eq_true rfl) (hts _ (vA_in _ _ (in_14 _ (zs4 (zs4 (zs1 (zs1 (zs1 (zs0))))))))) (fun _ h9 => h9) (hI.fr 0 (mF 0 rfl) rfl (Nat.le_of_ble_eq_true rfl) 2 rfl) dX12_fault_1 ?_
  refine th_iL (va_runV (As := []) (rest := []) ⟨hx, hb, hml, hown, hts⟩ (q_readX l dC dI cT cf hC ad E s.heap.size hI) (cwV 0 hts (gi_V (in_18 _ (zs4 (zs1 (zs1 (zs1 (zs0)))))) (in_18 _ (zs4 (zs4 (zs0)))) (in_18 _ (zs4 (zs4 (zs1 (zs0))))) (in_8 _ (zs4 (zs4 (zs4 (zs1 (zs1 (zs0))))))) (in_8 _ (zs16 (zs4 (zs1 (zs1 (zs0))))))) rfl rfl rfl ⟨rfl, hz_yX10_read_0⟩ ⟨Nat.le_of_ble_eq_true rfl, Nat.le_of_ble_eq_true rfl⟩) ⟨HWL_bl, va_recv hK hP (ci := 11) (q0 := posL 2 (LC cf)) rfl (hI.ob 2 (mF 2 rfl) rfl), (HWL_wi hP hK (WL_D hD) hS hA hEV)⟩ rfl rfl hl.1 rfl (lv_room (Nat.le_of_ble_eq_true rfl)) dX12_fault_4 ⟨Nat.le_of_ble_eq_true rfl, Nat.le_of_ble_eq_true rfl⟩) (WL_D hD) hS hA (fun r1 E2 H locs hw hP hS => ?_)
  obtain ⟨hI, kq3, hw⟩ := hw
  have hKb := hKp
  have hKp := hKp.tr kq3 (wl_sub rfl rfl)
  obtain ⟨f4, f5, f6, f7⟩ := hw
  have i8 : 0 ≤ (xi (E 2) 1).toInt ∧ (xi (E 2) 1).toInt ≤ 200 := hI0.iv 2 (mF 2 rfl) rfl (Nat.le_of_ble_eq_true rfl) rfl
  rw [hQ]
  exact W.iret (v := r1) hx hb hr (fun t ht hW => ⟨⟨r1, E2, rfl, ⟨hI, hKp, ⟨f4, (f7.trans f6.2)⟩⟩, by show va_P (dC, dI) vwCl (WL (LC cf) ad E2) t.heap; rw [ht]; exact hP⟩, hS.F ht⟩) hS.2.2 dX12_fault_7
