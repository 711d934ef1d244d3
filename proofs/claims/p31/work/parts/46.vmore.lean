set_option maxRecDepth 100000 in
theorem zh_dX13_put_0_0 : zc cX13_put 0 [16, 24, 61, 28, 155, 0, 45, 27, 28, 122, 17, 0, 255, 126, 154, 0] = true := by decide +kernel
set_option maxRecDepth 100000 in
theorem zh_dX13_put_14_16 : zc cX13_put 16 [6, 167, 0, 26, 42, 180, 0, 28, 42, 180, 1, 3, 27, 28, 122, 145] = true := by decide +kernel
set_option maxRecDepth 100000 in
theorem zh_dX13_put_32_32 : zc cX13_put 32 [84, 42, 89, 180, 1, 3, 4, 96, 181, 1, 3, 132, 2, 248, 167, 255] = true := by decide +kernel
set_option maxRecDepth 100000 in
theorem zh_dX13_put_46_48 : zc cX13_put 48 [213, 177] = true := by decide +kernel
set_option maxRecDepth 100000 in
theorem zh_dX13_feed_0_0 : zc cX13_feed 0 [42, 3, 181, 0, 228, 42, 180, 1, 3, 27, 184, 1, 6, 96, 28, 184] = true := by decide +kernel
set_option maxRecDepth 100000 in
theorem zh_dX13_feed_15_16 : zc cX13_feed 16 [1, 6, 96, 29, 184, 1, 6, 96, 21, 4, 184, 1, 6, 96, 21, 5] = true := by decide +kernel
set_option maxRecDepth 100000 in
theorem zh_dX13_feed_32_32 : zc cX13_feed 32 [184, 1, 6, 96, 17, 0, 200, 164, 0, 5, 2, 172, 42, 27, 182, 1] = true := by decide +kernel
set_option maxRecDepth 100000 in
theorem zh_dX13_feed_46_48 : zc cX13_feed 48 [10, 42, 28, 182, 1, 10, 42, 29, 182, 1, 10, 42, 21, 4, 182, 1] = true := by decide +kernel
set_option maxRecDepth 100000 in
theorem zh_dX13_feed_62_64 : zc cX13_feed 64 [10, 42, 21, 5, 182, 1, 10, 42, 180, 1, 3, 172] = true := by decide +kernel
set_option maxRecDepth 100000 in
theorem zh_dX13_end_0_0 : zc cX13_end 0 [42, 3, 181, 0, 228, 27, 155, 0, 11, 27, 42, 180, 1, 3, 164, 0] = true := by decide +kernel
set_option maxRecDepth 100000 in
theorem zh_dX13_end_14_16 : zc cX13_end 16 [5, 3, 172, 42, 27, 181, 1, 3, 4, 172] = true := by decide +kernel
theorem dX13_put_0 : decode cX13_put 0 = .ok (.bipush 24, 2) := zo_16 (zi_at zh_dX13_put_0_0 0 rfl) (zi_at zh_dX13_put_0_0 1 rfl) rfl
theorem dX13_put_2 : decode cX13_put 2 = .ok (.istore_n 2, 1) := zo_61 (zi_at zh_dX13_put_0_0 2 rfl)
theorem dX13_put_3 : decode cX13_put 3 = .ok (.iload_n 2, 1) := zo_28 (zi_at zh_dX13_put_0_0 3 rfl)
theorem dX13_put_4 : decode cX13_put 4 = .ok (.ifCond .lt 45, 3) := zo_155 (zi_at zh_dX13_put_0_0 4 rfl) (zi_at zh_dX13_put_0_0 5 rfl) (zi_at zh_dX13_put_0_0 6 rfl) rfl
theorem dX13_put_7 : decode cX13_put 7 = .ok (.iload_n 1, 1) := zo_27 (zi_at zh_dX13_put_0_0 7 rfl)
theorem dX13_put_8 : decode cX13_put 8 = .ok (.iload_n 2, 1) := zo_28 (zi_at zh_dX13_put_0_0 8 rfl)
theorem dX13_put_9 : decode cX13_put 9 = .ok (.ishr, 1) := zo_122 (zi_at zh_dX13_put_0_0 9 rfl)
theorem dX13_put_10 : decode cX13_put 10 = .ok (.sipush 255, 3) := zo_17 (zi_at zh_dX13_put_0_0 10 rfl) (zi_at zh_dX13_put_0_0 11 rfl) (zi_at zh_dX13_put_0_0 12 rfl) rfl
theorem dX13_put_13 : decode cX13_put 13 = .ok (.iand, 1) := zo_126 (zi_at zh_dX13_put_0_0 13 rfl)
theorem dX13_put_14 : decode cX13_put 14 = .ok (.ifCond .ne 6, 3) := zo_154 (zi_at zh_dX13_put_0_0 14 rfl) (zi_at zh_dX13_put_0_0 15 rfl) (zi_at zh_dX13_put_14_16 0 rfl) rfl
theorem dX13_put_17 : decode cX13_put 17 = .ok (.goto 26, 3) := zo_167 (zi_at zh_dX13_put_14_16 1 rfl) (zi_at zh_dX13_put_14_16 2 rfl) (zi_at zh_dX13_put_14_16 3 rfl) rfl
theorem dX13_put_20 : decode cX13_put 20 = .ok (.aload_n 0, 1) := zo_42 (zi_at zh_dX13_put_14_16 4 rfl)
theorem dX13_put_21 : decode cX13_put 21 = .ok (.getfield 28, 3) := zo_180 (zi_at zh_dX13_put_14_16 5 rfl) (zi_at zh_dX13_put_14_16 6 rfl) (zi_at zh_dX13_put_14_16 7 rfl) rfl
theorem dX13_put_24 : decode cX13_put 24 = .ok (.aload_n 0, 1) := zo_42 (zi_at zh_dX13_put_14_16 8 rfl)
theorem dX13_put_25 : decode cX13_put 25 = .ok (.getfield 259, 3) := zo_180 (zi_at zh_dX13_put_14_16 9 rfl) (zi_at zh_dX13_put_14_16 10 rfl) (zi_at zh_dX13_put_14_16 11 rfl) rfl
theorem dX13_put_28 : decode cX13_put 28 = .ok (.iload_n 1, 1) := zo_27 (zi_at zh_dX13_put_14_16 12 rfl)
theorem dX13_put_29 : decode cX13_put 29 = .ok (.iload_n 2, 1) := zo_28 (zi_at zh_dX13_put_14_16 13 rfl)
theorem dX13_put_30 : decode cX13_put 30 = .ok (.ishr, 1) := zo_122 (zi_at zh_dX13_put_14_16 14 rfl)
theorem dX13_put_31 : decode cX13_put 31 = .ok (.i2b, 1) := zo_145 (zi_at zh_dX13_put_14_16 15 rfl)
theorem dX13_put_32 : decode cX13_put 32 = .ok (.bastore, 1) := zo_84 (zi_at zh_dX13_put_32_32 0 rfl)
theorem dX13_put_33 : decode cX13_put 33 = .ok (.aload_n 0, 1) := zo_42 (zi_at zh_dX13_put_32_32 1 rfl)
theorem dX13_put_34 : decode cX13_put 34 = .ok (.dup, 1) := zo_89 (zi_at zh_dX13_put_32_32 2 rfl)
theorem dX13_put_35 : decode cX13_put 35 = .ok (.getfield 259, 3) := zo_180 (zi_at zh_dX13_put_32_32 3 rfl) (zi_at zh_dX13_put_32_32 4 rfl) (zi_at zh_dX13_put_32_32 5 rfl) rfl
theorem dX13_put_38 : decode cX13_put 38 = .ok (.iconst 1, 1) := zo_4 (zi_at zh_dX13_put_32_32 6 rfl)
theorem dX13_put_39 : decode cX13_put 39 = .ok (.iadd, 1) := zo_96 (zi_at zh_dX13_put_32_32 7 rfl)
theorem dX13_put_40 : decode cX13_put 40 = .ok (.putfield 259, 3) := zo_181 (zi_at zh_dX13_put_32_32 8 rfl) (zi_at zh_dX13_put_32_32 9 rfl) (zi_at zh_dX13_put_32_32 10 rfl) rfl
theorem dX13_put_43 : decode cX13_put 43 = .ok (.iinc 2 (-8), 3) := zo_132 (zi_at zh_dX13_put_32_32 11 rfl) (zi_at zh_dX13_put_32_32 12 rfl) (zi_at zh_dX13_put_32_32 13 rfl) rfl
theorem dX13_put_46 : decode cX13_put 46 = .ok (.goto (-43), 3) := zo_167 (zi_at zh_dX13_put_32_32 14 rfl) (zi_at zh_dX13_put_32_32 15 rfl) (zi_at zh_dX13_put_46_48 0 rfl) rfl
theorem dX13_put_49 : decode cX13_put 49 = .ok (.return_, 1) := zo_177 (zi_at zh_dX13_put_46_48 1 rfl)
theorem dX13_feed_0 : decode cX13_feed 0 = .ok (.aload_n 0, 1) := zo_42 (zi_at zh_dX13_feed_0_0 0 rfl)
theorem dX13_feed_1 : decode cX13_feed 1 = .ok (.iconst 0, 1) := zo_3 (zi_at zh_dX13_feed_0_0 1 rfl)
theorem dX13_feed_2 : decode cX13_feed 2 = .ok (.putfield 228, 3) := zo_181 (zi_at zh_dX13_feed_0_0 2 rfl) (zi_at zh_dX13_feed_0_0 3 rfl) (zi_at zh_dX13_feed_0_0 4 rfl) rfl
theorem dX13_feed_5 : decode cX13_feed 5 = .ok (.aload_n 0, 1) := zo_42 (zi_at zh_dX13_feed_0_0 5 rfl)
theorem dX13_feed_6 : decode cX13_feed 6 = .ok (.getfield 259, 3) := zo_180 (zi_at zh_dX13_feed_0_0 6 rfl) (zi_at zh_dX13_feed_0_0 7 rfl) (zi_at zh_dX13_feed_0_0 8 rfl) rfl
theorem dX13_feed_9 : decode cX13_feed 9 = .ok (.iload_n 1, 1) := zo_27 (zi_at zh_dX13_feed_0_0 9 rfl)
theorem dX13_feed_10 : decode cX13_feed 10 = .ok (.invokestatic 262, 3) := zo_184 (zi_at zh_dX13_feed_0_0 10 rfl) (zi_at zh_dX13_feed_0_0 11 rfl) (zi_at zh_dX13_feed_0_0 12 rfl) rfl
theorem dX13_feed_13 : decode cX13_feed 13 = .ok (.iadd, 1) := zo_96 (zi_at zh_dX13_feed_0_0 13 rfl)
theorem dX13_feed_14 : decode cX13_feed 14 = .ok (.iload_n 2, 1) := zo_28 (zi_at zh_dX13_feed_0_0 14 rfl)
theorem dX13_feed_15 : decode cX13_feed 15 = .ok (.invokestatic 262, 3) := zo_184 (zi_at zh_dX13_feed_0_0 15 rfl) (zi_at zh_dX13_feed_15_16 0 rfl) (zi_at zh_dX13_feed_15_16 1 rfl) rfl
theorem dX13_feed_18 : decode cX13_feed 18 = .ok (.iadd, 1) := zo_96 (zi_at zh_dX13_feed_15_16 2 rfl)
theorem dX13_feed_19 : decode cX13_feed 19 = .ok (.iload_n 3, 1) := zo_29 (zi_at zh_dX13_feed_15_16 3 rfl)
theorem dX13_feed_20 : decode cX13_feed 20 = .ok (.invokestatic 262, 3) := zo_184 (zi_at zh_dX13_feed_15_16 4 rfl) (zi_at zh_dX13_feed_15_16 5 rfl) (zi_at zh_dX13_feed_15_16 6 rfl) rfl
theorem dX13_feed_23 : decode cX13_feed 23 = .ok (.iadd, 1) := zo_96 (zi_at zh_dX13_feed_15_16 7 rfl)
theorem dX13_feed_24 : decode cX13_feed 24 = .ok (.iload 4, 2) := zo_21 (zi_at zh_dX13_feed_15_16 8 rfl) (zi_at zh_dX13_feed_15_16 9 rfl)
theorem dX13_feed_26 : decode cX13_feed 26 = .ok (.invokestatic 262, 3) := zo_184 (zi_at zh_dX13_feed_15_16 10 rfl) (zi_at zh_dX13_feed_15_16 11 rfl) (zi_at zh_dX13_feed_15_16 12 rfl) rfl
theorem dX13_feed_29 : decode cX13_feed 29 = .ok (.iadd, 1) := zo_96 (zi_at zh_dX13_feed_15_16 13 rfl)
theorem dX13_feed_30 : decode cX13_feed 30 = .ok (.iload 5, 2) := zo_21 (zi_at zh_dX13_feed_15_16 14 rfl) (zi_at zh_dX13_feed_15_16 15 rfl)
theorem dX13_feed_32 : decode cX13_feed 32 = .ok (.invokestatic 262, 3) := zo_184 (zi_at zh_dX13_feed_32_32 0 rfl) (zi_at zh_dX13_feed_32_32 1 rfl) (zi_at zh_dX13_feed_32_32 2 rfl) rfl
theorem dX13_feed_35 : decode cX13_feed 35 = .ok (.iadd, 1) := zo_96 (zi_at zh_dX13_feed_32_32 3 rfl)
theorem dX13_feed_36 : decode cX13_feed 36 = .ok (.sipush 200, 3) := zo_17 (zi_at zh_dX13_feed_32_32 4 rfl) (zi_at zh_dX13_feed_32_32 5 rfl) (zi_at zh_dX13_feed_32_32 6 rfl) rfl
theorem dX13_feed_39 : decode cX13_feed 39 = .ok (.if_icmp .le 5, 3) := zo_164 (zi_at zh_dX13_feed_32_32 7 rfl) (zi_at zh_dX13_feed_32_32 8 rfl) (zi_at zh_dX13_feed_32_32 9 rfl) rfl
theorem dX13_feed_42 : decode cX13_feed 42 = .ok (.iconst (-1), 1) := zo_2 (zi_at zh_dX13_feed_32_32 10 rfl)
theorem dX13_feed_43 : decode cX13_feed 43 = .ok (.ireturn, 1) := zo_172 (zi_at zh_dX13_feed_32_32 11 rfl)
theorem dX13_feed_44 : decode cX13_feed 44 = .ok (.aload_n 0, 1) := zo_42 (zi_at zh_dX13_feed_32_32 12 rfl)
theorem dX13_feed_45 : decode cX13_feed 45 = .ok (.iload_n 1, 1) := zo_27 (zi_at zh_dX13_feed_32_32 13 rfl)
theorem dX13_feed_46 : decode cX13_feed 46 = .ok (.invokevirtual 266, 3) := zo_182 (zi_at zh_dX13_feed_32_32 14 rfl) (zi_at zh_dX13_feed_32_32 15 rfl) (zi_at zh_dX13_feed_46_48 0 rfl) rfl
theorem dX13_feed_49 : decode cX13_feed 49 = .ok (.aload_n 0, 1) := zo_42 (zi_at zh_dX13_feed_46_48 1 rfl)
theorem dX13_feed_50 : decode cX13_feed 50 = .ok (.iload_n 2, 1) := zo_28 (zi_at zh_dX13_feed_46_48 2 rfl)
theorem dX13_feed_51 : decode cX13_feed 51 = .ok (.invokevirtual 266, 3) := zo_182 (zi_at zh_dX13_feed_46_48 3 rfl) (zi_at zh_dX13_feed_46_48 4 rfl) (zi_at zh_dX13_feed_46_48 5 rfl) rfl
theorem dX13_feed_54 : decode cX13_feed 54 = .ok (.aload_n 0, 1) := zo_42 (zi_at zh_dX13_feed_46_48 6 rfl)
theorem dX13_feed_55 : decode cX13_feed 55 = .ok (.iload_n 3, 1) := zo_29 (zi_at zh_dX13_feed_46_48 7 rfl)
theorem dX13_feed_56 : decode cX13_feed 56 = .ok (.invokevirtual 266, 3) := zo_182 (zi_at zh_dX13_feed_46_48 8 rfl) (zi_at zh_dX13_feed_46_48 9 rfl) (zi_at zh_dX13_feed_46_48 10 rfl) rfl
theorem dX13_feed_59 : decode cX13_feed 59 = .ok (.aload_n 0, 1) := zo_42 (zi_at zh_dX13_feed_46_48 11 rfl)
theorem dX13_feed_60 : decode cX13_feed 60 = .ok (.iload 4, 2) := zo_21 (zi_at zh_dX13_feed_46_48 12 rfl) (zi_at zh_dX13_feed_46_48 13 rfl)
theorem dX13_feed_62 : decode cX13_feed 62 = .ok (.invokevirtual 266, 3) := zo_182 (zi_at zh_dX13_feed_46_48 14 rfl) (zi_at zh_dX13_feed_46_48 15 rfl) (zi_at zh_dX13_feed_62_64 0 rfl) rfl
theorem dX13_feed_65 : decode cX13_feed 65 = .ok (.aload_n 0, 1) := zo_42 (zi_at zh_dX13_feed_62_64 1 rfl)
theorem dX13_feed_66 : decode cX13_feed 66 = .ok (.iload 5, 2) := zo_21 (zi_at zh_dX13_feed_62_64 2 rfl) (zi_at zh_dX13_feed_62_64 3 rfl)
theorem dX13_feed_68 : decode cX13_feed 68 = .ok (.invokevirtual 266, 3) := zo_182 (zi_at zh_dX13_feed_62_64 4 rfl) (zi_at zh_dX13_feed_62_64 5 rfl) (zi_at zh_dX13_feed_62_64 6 rfl) rfl
theorem dX13_feed_71 : decode cX13_feed 71 = .ok (.aload_n 0, 1) := zo_42 (zi_at zh_dX13_feed_62_64 7 rfl)
theorem dX13_feed_72 : decode cX13_feed 72 = .ok (.getfield 259, 3) := zo_180 (zi_at zh_dX13_feed_62_64 8 rfl) (zi_at zh_dX13_feed_62_64 9 rfl) (zi_at zh_dX13_feed_62_64 10 rfl) rfl
theorem dX13_feed_75 : decode cX13_feed 75 = .ok (.ireturn, 1) := zo_172 (zi_at zh_dX13_feed_62_64 11 rfl)
theorem dX13_end_0 : decode cX13_end 0 = .ok (.aload_n 0, 1) := zo_42 (zi_at zh_dX13_end_0_0 0 rfl)
theorem dX13_end_1 : decode cX13_end 1 = .ok (.iconst 0, 1) := zo_3 (zi_at zh_dX13_end_0_0 1 rfl)
theorem dX13_end_2 : decode cX13_end 2 = .ok (.putfield 228, 3) := zo_181 (zi_at zh_dX13_end_0_0 2 rfl) (zi_at zh_dX13_end_0_0 3 rfl) (zi_at zh_dX13_end_0_0 4 rfl) rfl
theorem dX13_end_5 : decode cX13_end 5 = .ok (.iload_n 1, 1) := zo_27 (zi_at zh_dX13_end_0_0 5 rfl)
theorem dX13_end_6 : decode cX13_end 6 = .ok (.ifCond .lt 11, 3) := zo_155 (zi_at zh_dX13_end_0_0 6 rfl) (zi_at zh_dX13_end_0_0 7 rfl) (zi_at zh_dX13_end_0_0 8 rfl) rfl
theorem dX13_end_9 : decode cX13_end 9 = .ok (.iload_n 1, 1) := zo_27 (zi_at zh_dX13_end_0_0 9 rfl)
theorem dX13_end_10 : decode cX13_end 10 = .ok (.aload_n 0, 1) := zo_42 (zi_at zh_dX13_end_0_0 10 rfl)
theorem dX13_end_11 : decode cX13_end 11 = .ok (.getfield 259, 3) := zo_180 (zi_at zh_dX13_end_0_0 11 rfl) (zi_at zh_dX13_end_0_0 12 rfl) (zi_at zh_dX13_end_0_0 13 rfl) rfl
theorem dX13_end_14 : decode cX13_end 14 = .ok (.if_icmp .le 5, 3) := zo_164 (zi_at zh_dX13_end_0_0 14 rfl) (zi_at zh_dX13_end_0_0 15 rfl) (zi_at zh_dX13_end_14_16 0 rfl) rfl
theorem dX13_end_17 : decode cX13_end 17 = .ok (.iconst 0, 1) := zo_3 (zi_at zh_dX13_end_14_16 1 rfl)
theorem dX13_end_18 : decode cX13_end 18 = .ok (.ireturn, 1) := zo_172 (zi_at zh_dX13_end_14_16 2 rfl)
theorem dX13_end_19 : decode cX13_end 19 = .ok (.aload_n 0, 1) := zo_42 (zi_at zh_dX13_end_14_16 3 rfl)
theorem dX13_end_20 : decode cX13_end 20 = .ok (.iload_n 1, 1) := zo_27 (zi_at zh_dX13_end_14_16 4 rfl)
theorem dX13_end_21 : decode cX13_end 21 = .ok (.putfield 259, 3) := zo_181 (zi_at zh_dX13_end_14_16 5 rfl) (zi_at zh_dX13_end_14_16 6 rfl) (zi_at zh_dX13_end_14_16 7 rfl) rfl
theorem dX13_end_24 : decode cX13_end 24 = .ok (.iconst 1, 1) := zo_4 (zi_at zh_dX13_end_14_16 8 rfl)
theorem dX13_end_25 : decode cX13_end 25 = .ok (.ireturn, 1) := zo_172 (zi_at zh_dX13_end_14_16 9 rfl)
theorem hz_yX13_bytesIn_1 : yX13_bytesIn.cls ≠ "java/lang/invoke/MethodHandle" ∧ yX13_bytesIn.cls ≠ "java/lang/invoke/VarHandle" ∧ (parseMethodDescriptor yX13_bytesIn.desc).map (fun d => d.parameters.length) = some 1 := by decide +kernel
theorem hz_yX13_put_1 : yX13_put.cls ≠ "java/lang/invoke/MethodHandle" ∧ yX13_put.cls ≠ "java/lang/invoke/VarHandle" ∧ (parseMethodDescriptor yX13_put.desc).map (fun d => d.parameters.length) = some 1 := by decide +kernel

def v_putMX : List Cond := .code yX13_put cX13_put 3 none :: vA
abbrev rm_putMX : Room := { frames := 0, cells := 0, slots := 0, locals := 0 }
def w_putMX : Nat → Nat → Bool := wl [7] [(0, 16)]
set_option maxHeartbeats 4000000 in
set_option maxRecDepth 100000 in
theorem q_putMX (l : Launch) (dC : Nat → ClassId) (dI : Nat → Nat → Nat) (cT : Nat → ClassId) (ad : Nat → Nat) (E : Nat → va_E) (sz : Nat) (a0 : Int32) (hI0 : IX cT shM spM 72 ad E) (hh0 : (xi (E 0) 16).toInt + (nbN a0 : Int) ≤ 200) : Met l yX13_put v_putMX rm_putMX (va_Pc [.ref (ad 0), .int a0] (HW dC dI (TYM cT) 72 ad E sz)) (va_Qv (S := Nat → va_E) (fun u => IX cT shM spM 72 ad u ∧ Kp w_putMX E u ∧ (((xi (u 0) 16).toInt = (xi (E 0) 16).toInt + (nbN a0 : Int)) ∧ (FedM (bys a0) E u))) (HB dC dI 72 ad) (va_A (WX 72 ad E) sz)) 0 0 (va_A (WX 72 ad E) sz) := by
  refine Met.ofW (cc := cX13_put) (maxL := 3) (ret := none) (by decide) rfl ?_
  intro p e s m args below meth c s₁ B hml hv
  obtain ⟨hargs, hsz, hP, hK, hD0, hEV⟩ := hv
  subst hsz
  have hx := B.exec
  have hb := B.bytes
  have hr := B.returns
  have hts := atoms_spec (ws := v_putMX) B.pre
  have hown : s.vm.findClass RX13 = some m.cls := findClass_of_methodNamed B.named
  have hlocks := B.notSynchronized
  have hinX13 : ∀ w ∈ u_ws RX13 TX13 97, w ∈ v_putMX := fun w h => vA_in _ w (in_X13 w h)
  generalize hAe : va_A (WX 72 ad E) s.heap.size = A at hEV ⊢
  have hA : ∀ q : Nat, s.heap.size ≤ q → A q := fun q h => by rw [← hAe]; exact Or.inr h
  have hD : va_D A (WX 72 ad E) := by rw [← hAe]; exact hD0.self
  have hS : va_S A s.heap s.heap [] := va_S.rf
  have hI := hI0
  have hKp : Kp w_putMX E E := Kp.rf
  have hl := lv_entry ([.ref (ad 0), .int a0]) (n := 3) (Nat.le_of_ble_eq_true rfl)
  obtain ⟨Q, hQ⟩ : ∃ Q, Q = MQ below (va_Qv (S := Nat → va_E) (fun u => IX cT shM spM 72 ad u ∧ Kp w_putMX E u ∧ (((xi (u 0) 16).toInt = (xi (E 0) 16).toInt + (nbN a0 : Int)) ∧ (FedM (bys a0) E u))) (HB dC dI 72 ad) (A)) args s 0 0 (A) := ⟨_, rfl⟩
  rw [← hQ, show entryFrame m args 3 = _ from (congrArg (fun z => entryFrame m z 3) hargs).trans (lg_entry_eq _ _ _)]
  generalize (lg_sl ([.ref (ad 0), .int a0]) ++ List.replicate (3 - (lg_sl ([.ref (ad 0), .int a0])).length) Slot.unset).toArray = ls at hl ⊢
  have hl : lv_has ls 3 [(0, .ref (ad 0)), (1, .int a0)] := hl
  have hnb : nbN a0 = bN (ub_by a0 24) + bN (ub_by a0 16) + bN (ub_by a0 8) + bN (ub_by a0 0) := rfl
  have hb24 := bN_le (ub_by a0 24)
  have hb16 := bN_le (ub_by a0 16)
  have hb8 := bN_le (ub_by a0 8)
  have hb0 := bN_le (ub_by a0 0)
  obtain ⟨y1, ey1⟩ : ∃ y, xi (E 0) 16 = y := ⟨_, rfl⟩
  have fy1 : xv (E 0) 16 = .int y1 := (hI.fi 0 (Nat.le_of_ble_eq_true rfl) rfl (Nat.le_of_ble_eq_true rfl) rfl).trans (congrArg Value.int ey1)
  have iy1 : 0 ≤ y1.toInt ∧ y1.toInt ≤ 200 := by rw [← ey1]; exact hI.iv 0 (Nat.le_of_ble_eq_true rfl) rfl (Nat.le_of_ble_eq_true rfl) rfl
  rw [ey1] at hh0
  refine lv_bipush (v := 24) hx hb dX13_put_0 (by decide) ?_
  refine lv_istore_n (lv' := [(2, .int 24), (0, .ref (ad 0)), (1, .int a0)]) hx hb dX13_put_2 rfl hl (by decide) rfl (fun ls hl => ?_)
  refine lv_iload_n hx hb dX13_put_3 rfl (lv_at hl 0 rfl) ?_
  refine lv_if_lt (tgt := 49) hx hb dX13_put_4 (by decide) (fun c2 => ?_) (fun c2 => ?_)
  · --4 taken
    exact absurd c2 (by decide)
  · --4 not
    refine lv_iload_n hx hb dX13_put_7 rfl (lv_at hl 2 rfl) ?_
    refine lv_iload_n hx hb dX13_put_8 rfl (lv_at hl 0 rfl) ?_
    refine lv_ishr hx hb dX13_put_9 ?_
    refine lv_topi (fun y3 ey3 => ?_)
    refine lv_sipush (v := 255) hx hb dX13_put_10 (by decide) ?_
    refine lv_iand hx hb dX13_put_13 ?_
    refine lv_topi (fun y4 ey4 => ?_)
    have iy4 : 0 ≤ y4.toInt ∧ y4.toInt ≤ 255 := ti_and (by decide) ey4
    refine lv_if_ne (tgt := 20) hx hb dX13_put_14 (by decide) (fun c5 => ?_) (fun c5 => ?_)
    · --14 taken
      have t6 : ¬ y4.toInt = 0 := ti_ne c5
      have i7 : 1 ≤ y4.toInt ∧ y4.toInt ≤ 255 := iv_ne_l t6 iy4 (il_ 0)
      have b24 : bN (ub_by a0 24) = 1 := bN_1 (fun q9 => c5 ((show ub_by a0 24 = y4 from by rw [← ub_sh 24 (by decide) a0, ey4, ey3]; rfl).symm.trans q9))
      refine lv_aload_n hx hb dX13_put_20 rfl (lv_at hl 1 rfl) ?_
      refine th_get (ci := 14) (C := RX13) (T := TX13) (N := 97) (v := .ref (ad 7)) hx hb hts hinX13 hown hK hP hI 0 (Nat.le_of_ble_eq_true rfl) rfl rfl 10 (Nat.le_of_ble_eq_true rfl) (hts _ (vA_in _ _ (in_31 _ (zs16 (zs4 (zs4 (zs4 (zs1 (zs0))))))))) (fun _ h9 => h9) (hI.fr 0 (Nat.le_of_ble_eq_true rfl) rfl (Nat.le_of_ble_eq_true rfl) 7 rfl) dX13_put_21 ?_
      refine lv_aload_n hx hb dX13_put_24 rfl (lv_at hl 1 rfl) ?_
      refine th_get (ci := 14) (C := RX13) (T := TX13) (N := 97) (v := .int y1) hx hb hts hinX13 hown hK hP hI 0 (Nat.le_of_ble_eq_true rfl) rfl rfl 16 (Nat.le_of_ble_eq_true rfl) (hts _ (vA_in _ _ (in_30 _ (zs16 (zs4 (zs0)))))) (fun _ h9 => h9) fy1 dX13_put_25 ?_
      refine lv_iload_n hx hb dX13_put_28 rfl (lv_at hl 2 rfl) ?_
      refine lv_iload_n hx hb dX13_put_29 rfl (lv_at hl 0 rfl) ?_
      refine lv_ishr hx hb dX13_put_30 ?_
      refine lv_topi (fun y8 ey8 => ?_)
      refine lv_i2b hx hb dX13_put_31 rfl ?_
      refine lv_topi (fun y9 ey9 => ?_)
      have iy9 : -128 ≤ y9.toInt ∧ y9.toInt ≤ 127 := iv_i2b ey9
      have i13 : 0 ≤ y1.toInt ∧ y1.toInt ≤ 199 := by omega
      have n10 : vp_in y1 200 := (iv_in (n := 200) i13 (by decide))
      refine th_bast hx hb hK hP (WX_D hD) hS hI 7 (Nat.le_of_ble_eq_true rfl) rfl rfl n10 (okI rfl (iv_nb _)) dX13_put_32 (fun H locs E11 pw12 hI hP hS => ?_)
      have hKp := hKp.pw pw12 rfl
      refine lv_aload_n hx hb dX13_put_33 rfl (lv_at hl 1 rfl) ?_
      refine lv_dup hx hb dX13_put_34 rfl ?_
      refine th_get (ci := 14) (C := RX13) (T := TX13) (N := 97) (v := .int y1) hx hb hts hinX13 hown hK hP hI 0 (Nat.le_of_ble_eq_true rfl) rfl rfl 16 (Nat.le_of_ble_eq_true rfl) (hts _ (vA_in _ _ (in_30 _ (zs16 (zs4 (zs0)))))) (fun _ h9 => h9) ((pw12.2 0 16 (fun q9 => absurd q9.1 (Nat.ne_of_beq_eq_false rfl))).trans fy1) dX13_put_35 ?_
      refine lv_iconst (v := 1) hx hb dX13_put_38 (by decide) ?_
      refine lv_iadd hx hb dX13_put_39 ?_
      refine lv_topi (fun y14 ey14 => ?_)
      obtain ⟨ty14, iy14⟩ := ti_add (e := 1) (f := 200) i13 ln_1 ey14 (by decide)
      have ty14 : y14.toInt = y1.toInt + 1 := ty14
      have iy14 : 1 ≤ y14.toInt ∧ y14.toInt ≤ 200 := iy14
      refine th_put (ci := 14) (C := RX13) (T := TX13) (N := 97) (v := .int y14) (ty := .int) hx hb hts hinX13 tyX13 tyX13_ok nmX13 hown hK hP (WX_D hD) hS hI 0 (Nat.le_of_ble_eq_true rfl) rfl rfl 16 (Nat.le_of_ble_eq_true rfl) (hts _ (vA_in _ _ (in_30 _ (zs16 (zs4 (zs0)))))) (fun _ h9 => h9) rfl (by decide +kernel) rfl rfl (okI rfl (iv_w iy14 (by decide))) dX13_put_40 (fun H locs E15 pw16 hI hP hS => ?_)
      have hKp := hKp.pw pw16 rfl
      have k19 : (vp_nar .byte y9).toInt % 256 = y4.toInt := byt_n ey9 ey8 ey3 ey4
      have k18 := FedM.push pw12 pw16 (vi_e fy1) ty14 (by omega) k19
      have k17 : bysP a0 1 = bysP a0 0 ++ [y4.toInt] := bysP_1 (k := 0) (show ub_by a0 24 = y4 from by rw [← ub_sh 24 (by decide) a0, ey4, ey3]; rfl) c5
      refine lv_iinc (v := 16) (lv' := [(2, .int 16), (0, .ref (ad 0)), (1, .int a0)]) hx hb dX13_put_43 hl (k := 0) rfl (by decide) (by decide) rfl (fun ls hl => ?_)
      refine lv_goto (tgt := 3) hx hb dX13_put_46 (by decide) ?_
      refine lv_iload_n hx hb dX13_put_3 rfl (lv_at hl 0 rfl) ?_
      refine lv_if_lt (tgt := 49) hx hb dX13_put_4 (by decide) (fun c20 => ?_) (fun c20 => ?_)
      · --4 taken
        exact absurd c20 (by decide)
      · --4 not
        refine lv_iload_n hx hb dX13_put_7 rfl (lv_at hl 2 rfl) ?_
        refine lv_iload_n hx hb dX13_put_8 rfl (lv_at hl 0 rfl) ?_
        refine lv_ishr hx hb dX13_put_9 ?_
        refine lv_topi (fun y21 ey21 => ?_)
        refine lv_sipush (v := 255) hx hb dX13_put_10 (by decide) ?_
        refine lv_iand hx hb dX13_put_13 ?_
        refine lv_topi (fun y22 ey22 => ?_)
        have iy22 : 0 ≤ y22.toInt ∧ y22.toInt ≤ 255 := ti_and (by decide) ey22
        refine lv_if_ne (tgt := 20) hx hb dX13_put_14 (by decide) (fun c23 => ?_) (fun c23 => ?_)
        · --14 taken
          have t24 : ¬ y22.toInt = 0 := ti_ne c23
          have i25 : 1 ≤ y22.toInt ∧ y22.toInt ≤ 255 := iv_ne_l t24 iy22 (il_ 0)
          have b16 : bN (ub_by a0 16) = 1 := bN_1 (fun q9 => c23 ((show ub_by a0 16 = y22 from by rw [← ub_sh 16 (by decide) a0, ey22, ey21]; rfl).symm.trans q9))
          refine lv_aload_n hx hb dX13_put_20 rfl (lv_at hl 1 rfl) ?_
          refine th_get (ci := 14) (C := RX13) (T := TX13) (N := 97) (v := .ref (ad 7)) hx hb hts hinX13 hown hK hP hI 0 (Nat.le_of_ble_eq_true rfl) rfl rfl 10 (Nat.le_of_ble_eq_true rfl) (hts _ (vA_in _ _ (in_31 _ (zs16 (zs4 (zs4 (zs4 (zs1 (zs0))))))))) (fun _ h9 => h9) (hI.fr 0 (Nat.le_of_ble_eq_true rfl) rfl (Nat.le_of_ble_eq_true rfl) 7 rfl) dX13_put_21 ?_
          refine lv_aload_n hx hb dX13_put_24 rfl (lv_at hl 1 rfl) ?_
          refine th_get (ci := 14) (C := RX13) (T := TX13) (N := 97) (v := .int y14) hx hb hts hinX13 hown hK hP hI 0 (Nat.le_of_ble_eq_true rfl) rfl rfl 16 (Nat.le_of_ble_eq_true rfl) (hts _ (vA_in _ _ (in_30 _ (zs16 (zs4 (zs0)))))) (fun _ h9 => h9) pw16.1 dX13_put_25 ?_
          refine lv_iload_n hx hb dX13_put_28 rfl (lv_at hl 2 rfl) ?_
          refine lv_iload_n hx hb dX13_put_29 rfl (lv_at hl 0 rfl) ?_
          refine lv_ishr hx hb dX13_put_30 ?_
          refine lv_topi (fun y26 ey26 => ?_)
          refine lv_i2b hx hb dX13_put_31 rfl ?_
          refine lv_topi (fun y27 ey27 => ?_)
          have iy27 : -128 ≤ y27.toInt ∧ y27.toInt ≤ 127 := iv_i2b ey27
          have i31 : 1 ≤ y14.toInt ∧ y14.toInt ≤ 199 := by omega
          have n28 : vp_in y14 200 := (iv_in (n := 200) i31 (by decide))
          refine th_bast hx hb hK hP (WX_D hD) hS hI 7 (Nat.le_of_ble_eq_true rfl) rfl rfl n28 (okI rfl (iv_nb _)) dX13_put_32 (fun H locs E29 pw30 hI hP hS => ?_)
          have hKp := hKp.pw pw30 rfl
          refine lv_aload_n hx hb dX13_put_33 rfl (lv_at hl 1 rfl) ?_
          refine lv_dup hx hb dX13_put_34 rfl ?_
          refine th_get (ci := 14) (C := RX13) (T := TX13) (N := 97) (v := .int y14) hx hb hts hinX13 hown hK hP hI 0 (Nat.le_of_ble_eq_true rfl) rfl rfl 16 (Nat.le_of_ble_eq_true rfl) (hts _ (vA_in _ _ (in_30 _ (zs16 (zs4 (zs0)))))) (fun _ h9 => h9) ((pw30.2 0 16 (fun q9 => absurd q9.1 (Nat.ne_of_beq_eq_false rfl))).trans pw16.1) dX13_put_35 ?_
          refine lv_iconst (v := 1) hx hb dX13_put_38 (by decide) ?_
          refine lv_iadd hx hb dX13_put_39 ?_
          refine lv_topi (fun y32 ey32 => ?_)
          obtain ⟨ty32, iy32⟩ := ti_add (e := 2) (f := 200) i31 ln_1 ey32 (by decide)
          have ty32 : y32.toInt = y14.toInt + 1 := ty32
          have iy32 : 2 ≤ y32.toInt ∧ y32.toInt ≤ 200 := iy32
          refine th_put (ci := 14) (C := RX13) (T := TX13) (N := 97) (v := .int y32) (ty := .int) hx hb hts hinX13 tyX13 tyX13_ok nmX13 hown hK hP (WX_D hD) hS hI 0 (Nat.le_of_ble_eq_true rfl) rfl rfl 16 (Nat.le_of_ble_eq_true rfl) (hts _ (vA_in _ _ (in_30 _ (zs16 (zs4 (zs0)))))) (fun _ h9 => h9) rfl (by decide +kernel) rfl rfl (okI rfl (iv_w iy32 (by decide))) dX13_put_40 (fun H locs E33 pw34 hI hP hS => ?_)
          have hKp := hKp.pw pw34 rfl
          have k37 : (vp_nar .byte y27).toInt % 256 = y22.toInt := byt_n ey27 ey26 ey21 ey22
          have k36 := FedM.push pw30 pw34 (vi_e pw16.1) ty32 (by omega) k37
          have k35 : bysP a0 2 = bysP a0 1 ++ [y22.toInt] := bysP_1 (k := 1) (show ub_by a0 16 = y22 from by rw [← ub_sh 16 (by decide) a0, ey22, ey21]; rfl) c23
          refine lv_iinc (v := 8) (lv' := [(2, .int 8), (0, .ref (ad 0)), (1, .int a0)]) hx hb dX13_put_43 hl (k := 0) rfl (by decide) (by decide) rfl (fun ls hl => ?_)
          refine lv_goto (tgt := 3) hx hb dX13_put_46 (by decide) ?_
          refine lv_iload_n hx hb dX13_put_3 rfl (lv_at hl 0 rfl) ?_
          refine lv_if_lt (tgt := 49) hx hb dX13_put_4 (by decide) (fun c38 => ?_) (fun c38 => ?_)
          · --4 taken
            exact absurd c38 (by decide)
          · --4 not
            refine lv_iload_n hx hb dX13_put_7 rfl (lv_at hl 2 rfl) ?_
            refine lv_iload_n hx hb dX13_put_8 rfl (lv_at hl 0 rfl) ?_
            refine lv_ishr hx hb dX13_put_9 ?_
            refine lv_topi (fun y39 ey39 => ?_)
            refine lv_sipush (v := 255) hx hb dX13_put_10 (by decide) ?_
            refine lv_iand hx hb dX13_put_13 ?_
            refine lv_topi (fun y40 ey40 => ?_)
            have iy40 : 0 ≤ y40.toInt ∧ y40.toInt ≤ 255 := ti_and (by decide) ey40
            refine lv_if_ne (tgt := 20) hx hb dX13_put_14 (by decide) (fun c41 => ?_) (fun c41 => ?_)
            · --14 taken
              have t42 : ¬ y40.toInt = 0 := ti_ne c41
              have i43 : 1 ≤ y40.toInt ∧ y40.toInt ≤ 255 := iv_ne_l t42 iy40 (il_ 0)
              have b8 : bN (ub_by a0 8) = 1 := bN_1 (fun q9 => c41 ((show ub_by a0 8 = y40 from by rw [← ub_sh 8 (by decide) a0, ey40, ey39]; rfl).symm.trans q9))
              refine lv_aload_n hx hb dX13_put_20 rfl (lv_at hl 1 rfl) ?_
              refine th_get (ci := 14) (C := RX13) (T := TX13) (N := 97) (v := .ref (ad 7)) hx hb hts hinX13 hown hK hP hI 0 (Nat.le_of_ble_eq_true rfl) rfl rfl 10 (Nat.le_of_ble_eq_true rfl) (hts _ (vA_in _ _ (in_31 _ (zs16 (zs4 (zs4 (zs4 (zs1 (zs0))))))))) (fun _ h9 => h9) (hI.fr 0 (Nat.le_of_ble_eq_true rfl) rfl (Nat.le_of_ble_eq_true rfl) 7 rfl) dX13_put_21 ?_
              refine lv_aload_n hx hb dX13_put_24 rfl (lv_at hl 1 rfl) ?_
              refine th_get (ci := 14) (C := RX13) (T := TX13) (N := 97) (v := .int y32) hx hb hts hinX13 hown hK hP hI 0 (Nat.le_of_ble_eq_true rfl) rfl rfl 16 (Nat.le_of_ble_eq_true rfl) (hts _ (vA_in _ _ (in_30 _ (zs16 (zs4 (zs0)))))) (fun _ h9 => h9) pw34.1 dX13_put_25 ?_
              refine lv_iload_n hx hb dX13_put_28 rfl (lv_at hl 2 rfl) ?_
              refine lv_iload_n hx hb dX13_put_29 rfl (lv_at hl 0 rfl) ?_
              refine lv_ishr hx hb dX13_put_30 ?_
              refine lv_topi (fun y44 ey44 => ?_)
              refine lv_i2b hx hb dX13_put_31 rfl ?_
              refine lv_topi (fun y45 ey45 => ?_)
              have iy45 : -128 ≤ y45.toInt ∧ y45.toInt ≤ 127 := iv_i2b ey45
              have i49 : 2 ≤ y32.toInt ∧ y32.toInt ≤ 199 := by omega
              have n46 : vp_in y32 200 := (iv_in (n := 200) i49 (by decide))
              refine th_bast hx hb hK hP (WX_D hD) hS hI 7 (Nat.le_of_ble_eq_true rfl) rfl rfl n46 (okI rfl (iv_nb _)) dX13_put_32 (fun H locs E47 pw48 hI hP hS => ?_)
              have hKp := hKp.pw pw48 rfl
              refine lv_aload_n hx hb dX13_put_33 rfl (lv_at hl 1 rfl) ?_
              refine lv_dup hx hb dX13_put_34 rfl ?_
              refine th_get (ci := 14) (C := RX13) (T := TX13) (N := 97) (v := .int y32) hx hb hts hinX13 hown hK hP hI 0 (Nat.le_of_ble_eq_true rfl) rfl rfl 16 (Nat.le_of_ble_eq_true rfl) (hts _ (vA_in _ _ (in_30 _ (zs16 (zs4 (zs0)))))) (fun _ h9 => h9) ((pw48.2 0 16 (fun q9 => absurd q9.1 (Nat.ne_of_beq_eq_false rfl))).trans pw34.1) dX13_put_35 ?_
              refine lv_iconst (v := 1) hx hb dX13_put_38 (by decide) ?_
              refine lv_iadd hx hb dX13_put_39 ?_
              refine lv_topi (fun y50 ey50 => ?_)
              obtain ⟨ty50, iy50⟩ := ti_add (e := 3) (f := 200) i49 ln_1 ey50 (by decide)
              have ty50 : y50.toInt = y32.toInt + 1 := ty50
              have iy50 : 3 ≤ y50.toInt ∧ y50.toInt ≤ 200 := iy50
              refine th_put (ci := 14) (C := RX13) (T := TX13) (N := 97) (v := .int y50) (ty := .int) hx hb hts hinX13 tyX13 tyX13_ok nmX13 hown hK hP (WX_D hD) hS hI 0 (Nat.le_of_ble_eq_true rfl) rfl rfl 16 (Nat.le_of_ble_eq_true rfl) (hts _ (vA_in _ _ (in_30 _ (zs16 (zs4 (zs0)))))) (fun _ h9 => h9) rfl (by decide +kernel) rfl rfl (okI rfl (iv_w iy50 (by decide))) dX13_put_40 (fun H locs E51 pw52 hI hP hS => ?_)
              have hKp := hKp.pw pw52 rfl
              have k55 : (vp_nar .byte y45).toInt % 256 = y40.toInt := byt_n ey45 ey44 ey39 ey40
              have k54 := FedM.push pw48 pw52 (vi_e pw34.1) ty50 (by omega) k55
              have k53 : bysP a0 3 = bysP a0 2 ++ [y40.toInt] := bysP_1 (k := 2) (show ub_by a0 8 = y40 from by rw [← ub_sh 8 (by decide) a0, ey40, ey39]; rfl) c41
              refine lv_iinc (v := 0) (lv' := [(2, .int 0), (0, .ref (ad 0)), (1, .int a0)]) hx hb dX13_put_43 hl (k := 0) rfl (by decide) (by decide) rfl (fun ls hl => ?_)
              refine lv_goto (tgt := 3) hx hb dX13_put_46 (by decide) ?_
              refine lv_iload_n hx hb dX13_put_3 rfl (lv_at hl 0 rfl) ?_
              refine lv_if_lt (tgt := 49) hx hb dX13_put_4 (by decide) (fun c56 => ?_) (fun c56 => ?_)
              · --4 taken
                exact absurd c56 (by decide)
              · --4 not
                refine lv_iload_n hx hb dX13_put_7 rfl (lv_at hl 2 rfl) ?_
                refine lv_iload_n hx hb dX13_put_8 rfl (lv_at hl 0 rfl) ?_
                refine lv_ishr hx hb dX13_put_9 ?_
                refine lv_topi (fun y57 ey57 => ?_)
                refine lv_sipush (v := 255) hx hb dX13_put_10 (by decide) ?_
                refine lv_iand hx hb dX13_put_13 ?_
                refine lv_topi (fun y58 ey58 => ?_)
                have iy58 : 0 ≤ y58.toInt ∧ y58.toInt ≤ 255 := ti_and (by decide) ey58
                refine lv_if_ne (tgt := 20) hx hb dX13_put_14 (by decide) (fun c59 => ?_) (fun c59 => ?_)
                · --14 taken
                  have t60 : ¬ y58.toInt = 0 := ti_ne c59
                  have i61 : 1 ≤ y58.toInt ∧ y58.toInt ≤ 255 := iv_ne_l t60 iy58 (il_ 0)
                  have b0 : bN (ub_by a0 0) = 1 := bN_1 (fun q9 => c59 ((show ub_by a0 0 = y58 from by rw [← ub_sh 0 (by decide) a0, ey58, ey57]; rfl).symm.trans q9))
                  refine lv_aload_n hx hb dX13_put_20 rfl (lv_at hl 1 rfl) ?_
                  refine th_get (ci := 14) (C := RX13) (T := TX13) (N := 97) (v := .ref (ad 7)) hx hb hts hinX13 hown hK hP hI 0 (Nat.le_of_ble_eq_true rfl) rfl rfl 10 (Nat.le_of_ble_eq_true rfl) (hts _ (vA_in _ _ (in_31 _ (zs16 (zs4 (zs4 (zs4 (zs1 (zs0))))))))) (fun _ h9 => h9) (hI.fr 0 (Nat.le_of_ble_eq_true rfl) rfl (Nat.le_of_ble_eq_true rfl) 7 rfl) dX13_put_21 ?_
                  refine lv_aload_n hx hb dX13_put_24 rfl (lv_at hl 1 rfl) ?_
                  refine th_get (ci := 14) (C := RX13) (T := TX13) (N := 97) (v := .int y50) hx hb hts hinX13 hown hK hP hI 0 (Nat.le_of_ble_eq_true rfl) rfl rfl 16 (Nat.le_of_ble_eq_true rfl) (hts _ (vA_in _ _ (in_30 _ (zs16 (zs4 (zs0)))))) (fun _ h9 => h9) pw52.1 dX13_put_25 ?_
                  refine lv_iload_n hx hb dX13_put_28 rfl (lv_at hl 2 rfl) ?_
                  refine lv_iload_n hx hb dX13_put_29 rfl (lv_at hl 0 rfl) ?_
                  refine lv_ishr hx hb dX13_put_30 ?_
                  refine lv_topi (fun y62 ey62 => ?_)
                  refine lv_i2b hx hb dX13_put_31 rfl ?_
                  refine lv_topi (fun y63 ey63 => ?_)
                  have iy63 : -128 ≤ y63.toInt ∧ y63.toInt ≤ 127 := iv_i2b ey63
                  have i67 : 3 ≤ y50.toInt ∧ y50.toInt ≤ 199 := by omega
                  have n64 : vp_in y50 200 := (iv_in (n := 200) i67 (by decide))
                  refine th_bast hx hb hK hP (WX_D hD) hS hI 7 (Nat.le_of_ble_eq_true rfl) rfl rfl n64 (okI rfl (iv_nb _)) dX13_put_32 (fun H locs E65 pw66 hI hP hS => ?_)
                  have hKp := hKp.pw pw66 rfl
                  refine lv_aload_n hx hb dX13_put_33 rfl (lv_at hl 1 rfl) ?_
                  refine lv_dup hx hb dX13_put_34 rfl ?_
                  refine th_get (ci := 14) (C := RX13) (T := TX13) (N := 97) (v := .int y50) hx hb hts hinX13 hown hK hP hI 0 (Nat.le_of_ble_eq_true rfl) rfl rfl 16 (Nat.le_of_ble_eq_true rfl) (hts _ (vA_in _ _ (in_30 _ (zs16 (zs4 (zs0)))))) (fun _ h9 => h9) ((pw66.2 0 16 (fun q9 => absurd q9.1 (Nat.ne_of_beq_eq_false rfl))).trans pw52.1) dX13_put_35 ?_
                  refine lv_iconst (v := 1) hx hb dX13_put_38 (by decide) ?_
                  refine lv_iadd hx hb dX13_put_39 ?_
                  refine lv_topi (fun y68 ey68 => ?_)
                  obtain ⟨ty68, iy68⟩ := ti_add (e := 4) (f := 200) i67 ln_1 ey68 (by decide)
                  have ty68 : y68.toInt = y50.toInt + 1 := ty68
                  have iy68 : 4 ≤ y68.toInt ∧ y68.toInt ≤ 200 := iy68
                  refine th_put (ci := 14) (C := RX13) (T := TX13) (N := 97) (v := .int y68) (ty := .int) hx hb hts hinX13 tyX13 tyX13_ok nmX13 hown hK hP (WX_D hD) hS hI 0 (Nat.le_of_ble_eq_true rfl) rfl rfl 16 (Nat.le_of_ble_eq_true rfl) (hts _ (vA_in _ _ (in_30 _ (zs16 (zs4 (zs0)))))) (fun _ h9 => h9) rfl (by decide +kernel) rfl rfl (okI rfl (iv_w iy68 (by decide))) dX13_put_40 (fun H locs E69 pw70 hI hP hS => ?_)
                  have hKp := hKp.pw pw70 rfl
                  have k73 : (vp_nar .byte y63).toInt % 256 = y58.toInt := byt_n ey63 ey62 ey57 ey58
                  have k72 := FedM.push pw66 pw70 (vi_e pw52.1) ty68 (by omega) k73
                  have k71 : bysP a0 4 = bysP a0 3 ++ [y58.toInt] := bysP_1 (k := 3) (show ub_by a0 0 = y58 from by rw [← ub_sh 0 (by decide) a0, ey58, ey57]; rfl) c59
                  refine lv_iinc (v := -8) (lv' := [(2, .int (-8)), (0, .ref (ad 0)), (1, .int a0)]) hx hb dX13_put_43 hl (k := 0) rfl (by decide) (by decide) rfl (fun ls hl => ?_)
                  refine lv_goto (tgt := 3) hx hb dX13_put_46 (by decide) ?_
                  refine lv_iload_n hx hb dX13_put_3 rfl (lv_at hl 0 rfl) ?_
                  refine lv_if_lt (tgt := 49) hx hb dX13_put_4 (by decide) (fun c74 => ?_) (fun c74 => ?_)
                  · --4 taken
                    rw [hQ]
                    exact W.vret hx hb hr (fun t ht hW => ⟨⟨E69, rfl, ⟨hI, hKp, ⟨by (try rw [(show xi (E69 0) 16 = y68 from vi_e pw70.1)]); (try rw [ey1]); all_goals omega, by show FedM (bysP a0 4) _ _; rw [k71, k53, k35, k17]; exact ((((Fed.rf.tr k18).tr k36).tr k54).tr k72)⟩⟩, by show va_P (dC, dI) vwCl (WX 72 ad E69) t.heap; rw [ht]; exact hP⟩, hS.F ht⟩) hS.2.2 dX13_put_49
                  · --4 not
                    exact absurd c74 (by decide)
                · --14 not
                  have t75 : y58.toInt = 0 := ti_eq c59
                  have i76 : 0 ≤ y58.toInt ∧ y58.toInt ≤ 0 := iv_eqi t75 iy58 (il_ 0) (by decide)
                  have b0 : bN (ub_by a0 0) = 0 := bN_0 ((show ub_by a0 0 = y58 from by rw [← ub_sh 0 (by decide) a0, ey58, ey57]; rfl).trans c59)
                  refine lv_goto (tgt := 43) hx hb dX13_put_17 (by decide) ?_
                  have k77 : bysP a0 4 = bysP a0 3 := bysP_0 (k := 3) (show ub_by a0 0 = y58 from by rw [← ub_sh 0 (by decide) a0, ey58, ey57]; rfl) c59
                  refine lv_iinc (v := -8) (lv' := [(2, .int (-8)), (0, .ref (ad 0)), (1, .int a0)]) hx hb dX13_put_43 hl (k := 0) rfl (by decide) (by decide) rfl (fun ls hl => ?_)
                  refine lv_goto (tgt := 3) hx hb dX13_put_46 (by decide) ?_
                  refine lv_iload_n hx hb dX13_put_3 rfl (lv_at hl 0 rfl) ?_
                  refine lv_if_lt (tgt := 49) hx hb dX13_put_4 (by decide) (fun c78 => ?_) (fun c78 => ?_)
                  · --4 taken
                    rw [hQ]
                    exact W.vret hx hb hr (fun t ht hW => ⟨⟨E51, rfl, ⟨hI, hKp, ⟨by (try rw [(show xi (E51 0) 16 = y50 from vi_e pw52.1)]); (try rw [ey1]); all_goals omega, by show FedM (bysP a0 4) _ _; rw [k77, k53, k35, k17]; exact (((Fed.rf.tr k18).tr k36).tr k54)⟩⟩, by show va_P (dC, dI) vwCl (WX 72 ad E51) t.heap; rw [ht]; exact hP⟩, hS.F ht⟩) hS.2.2 dX13_put_49
                  · --4 not
                    exact absurd c78 (by decide)
            · --14 not
              have t79 : y40.toInt = 0 := ti_eq c41
              have i80 : 0 ≤ y40.toInt ∧ y40.toInt ≤ 0 := iv_eqi t79 iy40 (il_ 0) (by decide)
              have b8 : bN (ub_by a0 8) = 0 := bN_0 ((show ub_by a0 8 = y40 from by rw [← ub_sh 8 (by decide) a0, ey40, ey39]; rfl).trans c41)
              refine lv_goto (tgt := 43) hx hb dX13_put_17 (by decide) ?_
              have k81 : bysP a0 3 = bysP a0 2 := bysP_0 (k := 2) (show ub_by a0 8 = y40 from by rw [← ub_sh 8 (by decide) a0, ey40, ey39]; rfl) c41
              refine lv_iinc (v := 0) (lv' := [(2, .int 0), (0, .ref (ad 0)), (1, .int a0)]) hx hb dX13_put_43 hl (k := 0) rfl (by decide) (by decide) rfl (fun ls hl => ?_)
              refine lv_goto (tgt := 3) hx hb dX13_put_46 (by decide) ?_
              refine lv_iload_n hx hb dX13_put_3 rfl (lv_at hl 0 rfl) ?_
              refine lv_if_lt (tgt := 49) hx hb dX13_put_4 (by decide) (fun c82 => ?_) (fun c82 => ?_)
              · --4 taken
                exact absurd c82 (by decide)
              · --4 not
                refine lv_iload_n hx hb dX13_put_7 rfl (lv_at hl 2 rfl) ?_
                refine lv_iload_n hx hb dX13_put_8 rfl (lv_at hl 0 rfl) ?_
                refine lv_ishr hx hb dX13_put_9 ?_
                refine lv_topi (fun y83 ey83 => ?_)
                refine lv_sipush (v := 255) hx hb dX13_put_10 (by decide) ?_
                refine lv_iand hx hb dX13_put_13 ?_
                refine lv_topi (fun y84 ey84 => ?_)
                have iy84 : 0 ≤ y84.toInt ∧ y84.toInt ≤ 255 := ti_and (by decide) ey84
                refine lv_if_ne (tgt := 20) hx hb dX13_put_14 (by decide) (fun c85 => ?_) (fun c85 => ?_)
                · --14 taken
                  have t86 : ¬ y84.toInt = 0 := ti_ne c85
                  have i87 : 1 ≤ y84.toInt ∧ y84.toInt ≤ 255 := iv_ne_l t86 iy84 (il_ 0)
                  have b0 : bN (ub_by a0 0) = 1 := bN_1 (fun q9 => c85 ((show ub_by a0 0 = y84 from by rw [← ub_sh 0 (by decide) a0, ey84, ey83]; rfl).symm.trans q9))
                  refine lv_aload_n hx hb dX13_put_20 rfl (lv_at hl 1 rfl) ?_
                  refine th_get (ci := 14) (C := RX13) (T := TX13) (N := 97) (v := .ref (ad 7)) hx hb hts hinX13 hown hK hP hI 0 (Nat.le_of_ble_eq_true rfl) rfl rfl 10 (Nat.le_of_ble_eq_true rfl) (hts _ (vA_in _ _ (in_31 _ (zs16 (zs4 (zs4 (zs4 (zs1 (zs0))))))))) (fun _ h9 => h9) (hI.fr 0 (Nat.le_of_ble_eq_true rfl) rfl (Nat.le_of_ble_eq_true rfl) 7 rfl) dX13_put_21 ?_
                  refine lv_aload_n hx hb dX13_put_24 rfl (lv_at hl 1 rfl) ?_
                  refine th_get (ci := 14) (C := RX13) (T := TX13) (N := 97) (v := .int y32) hx hb hts hinX13 hown hK hP hI 0 (Nat.le_of_ble_eq_true rfl) rfl rfl 16 (Nat.le_of_ble_eq_true rfl) (hts _ (vA_in _ _ (in_30 _ (zs16 (zs4 (zs0)))))) (fun _ h9 => h9) pw34.1 dX13_put_25 ?_
                  refine lv_iload_n hx hb dX13_put_28 rfl (lv_at hl 2 rfl) ?_
                  refine lv_iload_n hx hb dX13_put_29 rfl (lv_at hl 0 rfl) ?_
                  refine lv_ishr hx hb dX13_put_30 ?_
                  refine lv_topi (fun y88 ey88 => ?_)
                  refine lv_i2b hx hb dX13_put_31 rfl ?_
                  refine lv_topi (fun y89 ey89 => ?_)
                  have iy89 : -128 ≤ y89.toInt ∧ y89.toInt ≤ 127 := iv_i2b ey89
                  have i93 : 2 ≤ y32.toInt ∧ y32.toInt ≤ 199 := by omega
                  have n90 : vp_in y32 200 := (iv_in (n := 200) i93 (by decide))
                  refine th_bast hx hb hK hP (WX_D hD) hS hI 7 (Nat.le_of_ble_eq_true rfl) rfl rfl n90 (okI rfl (iv_nb _)) dX13_put_32 (fun H locs E91 pw92 hI hP hS => ?_)
                  have hKp := hKp.pw pw92 rfl
                  refine lv_aload_n hx hb dX13_put_33 rfl (lv_at hl 1 rfl) ?_
                  refine lv_dup hx hb dX13_put_34 rfl ?_
                  refine th_get (ci := 14) (C := RX13) (T := TX13) (N := 97) (v := .int y32) hx hb hts hinX13 hown hK hP hI 0 (Nat.le_of_ble_eq_true rfl) rfl rfl 16 (Nat.le_of_ble_eq_true rfl) (hts _ (vA_in _ _ (in_30 _ (zs16 (zs4 (zs0)))))) (fun _ h9 => h9) ((pw92.2 0 16 (fun q9 => absurd q9.1 (Nat.ne_of_beq_eq_false rfl))).trans pw34.1) dX13_put_35 ?_
                  refine lv_iconst (v := 1) hx hb dX13_put_38 (by decide) ?_
                  refine lv_iadd hx hb dX13_put_39 ?_
                  refine lv_topi (fun y94 ey94 => ?_)
                  obtain ⟨ty94, iy94⟩ := ti_add (e := 3) (f := 200) i93 ln_1 ey94 (by decide)
                  have ty94 : y94.toInt = y32.toInt + 1 := ty94
                  have iy94 : 3 ≤ y94.toInt ∧ y94.toInt ≤ 200 := iy94
                  refine th_put (ci := 14) (C := RX13) (T := TX13) (N := 97) (v := .int y94) (ty := .int) hx hb hts hinX13 tyX13 tyX13_ok nmX13 hown hK hP (WX_D hD) hS hI 0 (Nat.le_of_ble_eq_true rfl) rfl rfl 16 (Nat.le_of_ble_eq_true rfl) (hts _ (vA_in _ _ (in_30 _ (zs16 (zs4 (zs0)))))) (fun _ h9 => h9) rfl (by decide +kernel) rfl rfl (okI rfl (iv_w iy94 (by decide))) dX13_put_40 (fun H locs E95 pw96 hI hP hS => ?_)
                  have hKp := hKp.pw pw96 rfl
                  have k99 : (vp_nar .byte y89).toInt % 256 = y84.toInt := byt_n ey89 ey88 ey83 ey84
                  have k98 := FedM.push pw92 pw96 (vi_e pw34.1) ty94 (by omega) k99
                  have k97 : bysP a0 4 = bysP a0 3 ++ [y84.toInt] := bysP_1 (k := 3) (show ub_by a0 0 = y84 from by rw [← ub_sh 0 (by decide) a0, ey84, ey83]; rfl) c85
                  refine lv_iinc (v := -8) (lv' := [(2, .int (-8)), (0, .ref (ad 0)), (1, .int a0)]) hx hb dX13_put_43 hl (k := 0) rfl (by decide) (by decide) rfl (fun ls hl => ?_)
                  refine lv_goto (tgt := 3) hx hb dX13_put_46 (by decide) ?_
                  refine lv_iload_n hx hb dX13_put_3 rfl (lv_at hl 0 rfl) ?_
                  refine lv_if_lt (tgt := 49) hx hb dX13_put_4 (by decide) (fun c100 => ?_) (fun c100 => ?_)
                  · --4 taken
                    rw [hQ]
                    exact W.vret hx hb hr (fun t ht hW => ⟨⟨E95, rfl, ⟨hI, hKp, ⟨by (try rw [(show xi (E95 0) 16 = y94 from vi_e pw96.1)]); (try rw [ey1]); all_goals omega, by show FedM (bysP a0 4) _ _; rw [k97, k81, k35, k17]; exact (((Fed.rf.tr k18).tr k36).tr k98)⟩⟩, by show va_P (dC, dI) vwCl (WX 72 ad E95) t.heap; rw [ht]; exact hP⟩, hS.F ht⟩) hS.2.2 dX13_put_49
                  · --4 not
                    exact absurd c100 (by decide)
                · --14 not
                  have t101 : y84.toInt = 0 := ti_eq c85
                  have i102 : 0 ≤ y84.toInt ∧ y84.toInt ≤ 0 := iv_eqi t101 iy84 (il_ 0) (by decide)
                  have b0 : bN (ub_by a0 0) = 0 := bN_0 ((show ub_by a0 0 = y84 from by rw [← ub_sh 0 (by decide) a0, ey84, ey83]; rfl).trans c85)
                  refine lv_goto (tgt := 43) hx hb dX13_put_17 (by decide) ?_
                  have k103 : bysP a0 4 = bysP a0 3 := bysP_0 (k := 3) (show ub_by a0 0 = y84 from by rw [← ub_sh 0 (by decide) a0, ey84, ey83]; rfl) c85
                  refine lv_iinc (v := -8) (lv' := [(2, .int (-8)), (0, .ref (ad 0)), (1, .int a0)]) hx hb dX13_put_43 hl (k := 0) rfl (by decide) (by decide) rfl (fun ls hl => ?_)
                  refine lv_goto (tgt := 3) hx hb dX13_put_46 (by decide) ?_
                  refine lv_iload_n hx hb dX13_put_3 rfl (lv_at hl 0 rfl) ?_
                  refine lv_if_lt (tgt := 49) hx hb dX13_put_4 (by decide) (fun c104 => ?_) (fun c104 => ?_)
                  · --4 taken
                    rw [hQ]
                    exact W.vret hx hb hr (fun t ht hW => ⟨⟨E33, rfl, ⟨hI, hKp, ⟨by (try rw [(show xi (E33 0) 16 = y32 from vi_e pw34.1)]); (try rw [ey1]); all_goals omega, by show FedM (bysP a0 4) _ _; rw [k103, k81, k35, k17]; exact ((Fed.rf.tr k18).tr k36)⟩⟩, by show va_P (dC, dI) vwCl (WX 72 ad E33) t.heap; rw [ht]; exact hP⟩, hS.F ht⟩) hS.2.2 dX13_put_49
                  · --4 not
                    exact absurd c104 (by decide)
        · --14 not
          have t105 : y22.toInt = 0 := ti_eq c23
          have i106 : 0 ≤ y22.toInt ∧ y22.toInt ≤ 0 := iv_eqi t105 iy22 (il_ 0) (by decide)
          have b16 : bN (ub_by a0 16) = 0 := bN_0 ((show ub_by a0 16 = y22 from by rw [← ub_sh 16 (by decide) a0, ey22, ey21]; rfl).trans c23)
          refine lv_goto (tgt := 43) hx hb dX13_put_17 (by decide) ?_
          have k107 : bysP a0 2 = bysP a0 1 := bysP_0 (k := 1) (show ub_by a0 16 = y22 from by rw [← ub_sh 16 (by decide) a0, ey22, ey21]; rfl) c23
          refine lv_iinc (v := 8) (lv' := [(2, .int 8), (0, .ref (ad 0)), (1, .int a0)]) hx hb dX13_put_43 hl (k := 0) rfl (by decide) (by decide) rfl (fun ls hl => ?_)
          refine lv_goto (tgt := 3) hx hb dX13_put_46 (by decide) ?_
          refine lv_iload_n hx hb dX13_put_3 rfl (lv_at hl 0 rfl) ?_
          refine lv_if_lt (tgt := 49) hx hb dX13_put_4 (by decide) (fun c108 => ?_) (fun c108 => ?_)
          · --4 taken
            exact absurd c108 (by decide)
          · --4 not
            refine lv_iload_n hx hb dX13_put_7 rfl (lv_at hl 2 rfl) ?_
            refine lv_iload_n hx hb dX13_put_8 rfl (lv_at hl 0 rfl) ?_
            refine lv_ishr hx hb dX13_put_9 ?_
            refine lv_topi (fun y109 ey109 => ?_)
            refine lv_sipush (v := 255) hx hb dX13_put_10 (by decide) ?_
            refine lv_iand hx hb dX13_put_13 ?_
            refine lv_topi (fun y110 ey110 => ?_)
            have iy110 : 0 ≤ y110.toInt ∧ y110.toInt ≤ 255 := ti_and (by decide) ey110
            refine lv_if_ne (tgt := 20) hx hb dX13_put_14 (by decide) (fun c111 => ?_) (fun c111 => ?_)
            · --14 taken
              have t112 : ¬ y110.toInt = 0 := ti_ne c111
              have i113 : 1 ≤ y110.toInt ∧ y110.toInt ≤ 255 := iv_ne_l t112 iy110 (il_ 0)
              have b8 : bN (ub_by a0 8) = 1 := bN_1 (fun q9 => c111 ((show ub_by a0 8 = y110 from by rw [← ub_sh 8 (by decide) a0, ey110, ey109]; rfl).symm.trans q9))
              refine lv_aload_n hx hb dX13_put_20 rfl (lv_at hl 1 rfl) ?_
              refine th_get (ci := 14) (C := RX13) (T := TX13) (N := 97) (v := .ref (ad 7)) hx hb hts hinX13 hown hK hP hI 0 (Nat.le_of_ble_eq_true rfl) rfl rfl 10 (Nat.le_of_ble_eq_true rfl) (hts _ (vA_in _ _ (in_31 _ (zs16 (zs4 (zs4 (zs4 (zs1 (zs0))))))))) (fun _ h9 => h9) (hI.fr 0 (Nat.le_of_ble_eq_true rfl) rfl (Nat.le_of_ble_eq_true rfl) 7 rfl) dX13_put_21 ?_
              refine lv_aload_n hx hb dX13_put_24 rfl (lv_at hl 1 rfl) ?_
              refine th_get (ci := 14) (C := RX13) (T := TX13) (N := 97) (v := .int y14) hx hb hts hinX13 hown hK hP hI 0 (Nat.le_of_ble_eq_true rfl) rfl rfl 16 (Nat.le_of_ble_eq_true rfl) (hts _ (vA_in _ _ (in_30 _ (zs16 (zs4 (zs0)))))) (fun _ h9 => h9) pw16.1 dX13_put_25 ?_
              refine lv_iload_n hx hb dX13_put_28 rfl (lv_at hl 2 rfl) ?_
              refine lv_iload_n hx hb dX13_put_29 rfl (lv_at hl 0 rfl) ?_
              refine lv_ishr hx hb dX13_put_30 ?_
              refine lv_topi (fun y114 ey114 => ?_)
              refine lv_i2b hx hb dX13_put_31 rfl ?_
              refine lv_topi (fun y115 ey115 => ?_)
              have iy115 : -128 ≤ y115.toInt ∧ y115.toInt ≤ 127 := iv_i2b ey115
              have i119 : 1 ≤ y14.toInt ∧ y14.toInt ≤ 199 := by omega
              have n116 : vp_in y14 200 := (iv_in (n := 200) i119 (by decide))
              refine th_bast hx hb hK hP (WX_D hD) hS hI 7 (Nat.le_of_ble_eq_true rfl) rfl rfl n116 (okI rfl (iv_nb _)) dX13_put_32 (fun H locs E117 pw118 hI hP hS => ?_)
              have hKp := hKp.pw pw118 rfl
              refine lv_aload_n hx hb dX13_put_33 rfl (lv_at hl 1 rfl) ?_
              refine lv_dup hx hb dX13_put_34 rfl ?_
              refine th_get (ci := 14) (C := RX13) (T := TX13) (N := 97) (v := .int y14) hx hb hts hinX13 hown hK hP hI 0 (Nat.le_of_ble_eq_true rfl) rfl rfl 16 (Nat.le_of_ble_eq_true rfl) (hts _ (vA_in _ _ (in_30 _ (zs16 (zs4 (zs0)))))) (fun _ h9 => h9) ((pw118.2 0 16 (fun q9 => absurd q9.1 (Nat.ne_of_beq_eq_false rfl))).trans pw16.1) dX13_put_35 ?_
              refine lv_iconst (v := 1) hx hb dX13_put_38 (by decide) ?_
              refine lv_iadd hx hb dX13_put_39 ?_
              refine lv_topi (fun y120 ey120 => ?_)
              obtain ⟨ty120, iy120⟩ := ti_add (e := 2) (f := 200) i119 ln_1 ey120 (by decide)
              have ty120 : y120.toInt = y14.toInt + 1 := ty120
              have iy120 : 2 ≤ y120.toInt ∧ y120.toInt ≤ 200 := iy120
              refine th_put (ci := 14) (C := RX13) (T := TX13) (N := 97) (v := .int y120) (ty := .int) hx hb hts hinX13 tyX13 tyX13_ok nmX13 hown hK hP (WX_D hD) hS hI 0 (Nat.le_of_ble_eq_true rfl) rfl rfl 16 (Nat.le_of_ble_eq_true rfl) (hts _ (vA_in _ _ (in_30 _ (zs16 (zs4 (zs0)))))) (fun _ h9 => h9) rfl (by decide +kernel) rfl rfl (okI rfl (iv_w iy120 (by decide))) dX13_put_40 (fun H locs E121 pw122 hI hP hS => ?_)
              have hKp := hKp.pw pw122 rfl
              have k125 : (vp_nar .byte y115).toInt % 256 = y110.toInt := byt_n ey115 ey114 ey109 ey110
              have k124 := FedM.push pw118 pw122 (vi_e pw16.1) ty120 (by omega) k125
              have k123 : bysP a0 3 = bysP a0 2 ++ [y110.toInt] := bysP_1 (k := 2) (show ub_by a0 8 = y110 from by rw [← ub_sh 8 (by decide) a0, ey110, ey109]; rfl) c111
              refine lv_iinc (v := 0) (lv' := [(2, .int 0), (0, .ref (ad 0)), (1, .int a0)]) hx hb dX13_put_43 hl (k := 0) rfl (by decide) (by decide) rfl (fun ls hl => ?_)
              refine lv_goto (tgt := 3) hx hb dX13_put_46 (by decide) ?_
              refine lv_iload_n hx hb dX13_put_3 rfl (lv_at hl 0 rfl) ?_
              refine lv_if_lt (tgt := 49) hx hb dX13_put_4 (by decide) (fun c126 => ?_) (fun c126 => ?_)
              · --4 taken
                exact absurd c126 (by decide)
              · --4 not
                refine lv_iload_n hx hb dX13_put_7 rfl (lv_at hl 2 rfl) ?_
                refine lv_iload_n hx hb dX13_put_8 rfl (lv_at hl 0 rfl) ?_
                refine lv_ishr hx hb dX13_put_9 ?_
                refine lv_topi (fun y127 ey127 => ?_)
                refine lv_sipush (v := 255) hx hb dX13_put_10 (by decide) ?_
                refine lv_iand hx hb dX13_put_13 ?_
                refine lv_topi (fun y128 ey128 => ?_)
                have iy128 : 0 ≤ y128.toInt ∧ y128.toInt ≤ 255 := ti_and (by decide) ey128
                refine lv_if_ne (tgt := 20) hx hb dX13_put_14 (by decide) (fun c129 => ?_) (fun c129 => ?_)
                · --14 taken
                  have t130 : ¬ y128.toInt = 0 := ti_ne c129
                  have i131 : 1 ≤ y128.toInt ∧ y128.toInt ≤ 255 := iv_ne_l t130 iy128 (il_ 0)
                  have b0 : bN (ub_by a0 0) = 1 := bN_1 (fun q9 => c129 ((show ub_by a0 0 = y128 from by rw [← ub_sh 0 (by decide) a0, ey128, ey127]; rfl).symm.trans q9))
                  refine lv_aload_n hx hb dX13_put_20 rfl (lv_at hl 1 rfl) ?_
                  refine th_get (ci := 14) (C := RX13) (T := TX13) (N := 97) (v := .ref (ad 7)) hx hb hts hinX13 hown hK hP hI 0 (Nat.le_of_ble_eq_true rfl) rfl rfl 10 (Nat.le_of_ble_eq_true rfl) (hts _ (vA_in _ _ (in_31 _ (zs16 (zs4 (zs4 (zs4 (zs1 (zs0))))))))) (fun _ h9 => h9) (hI.fr 0 (Nat.le_of_ble_eq_true rfl) rfl (Nat.le_of_ble_eq_true rfl) 7 rfl) dX13_put_21 ?_
                  refine lv_aload_n hx hb dX13_put_24 rfl (lv_at hl 1 rfl) ?_
                  refine th_get (ci := 14) (C := RX13) (T := TX13) (N := 97) (v := .int y120) hx hb hts hinX13 hown hK hP hI 0 (Nat.le_of_ble_eq_true rfl) rfl rfl 16 (Nat.le_of_ble_eq_true rfl) (hts _ (vA_in _ _ (in_30 _ (zs16 (zs4 (zs0)))))) (fun _ h9 => h9) pw122.1 dX13_put_25 ?_
                  refine lv_iload_n hx hb dX13_put_28 rfl (lv_at hl 2 rfl) ?_
                  refine lv_iload_n hx hb dX13_put_29 rfl (lv_at hl 0 rfl) ?_
                  refine lv_ishr hx hb dX13_put_30 ?_
                  refine lv_topi (fun y132 ey132 => ?_)
                  refine lv_i2b hx hb dX13_put_31 rfl ?_
                  refine lv_topi (fun y133 ey133 => ?_)
                  have iy133 : -128 ≤ y133.toInt ∧ y133.toInt ≤ 127 := iv_i2b ey133
                  have i137 : 2 ≤ y120.toInt ∧ y120.toInt ≤ 199 := by omega
                  have n134 : vp_in y120 200 := (iv_in (n := 200) i137 (by decide))
                  refine th_bast hx hb hK hP (WX_D hD) hS hI 7 (Nat.le_of_ble_eq_true rfl) rfl rfl n134 (okI rfl (iv_nb _)) dX13_put_32 (fun H locs E135 pw136 hI hP hS => ?_)
                  have hKp := hKp.pw pw136 rfl
                  refine lv_aload_n hx hb dX13_put_33 rfl (lv_at hl 1 rfl) ?_
                  refine lv_dup hx hb dX13_put_34 rfl ?_
                  refine th_get (ci := 14) (C := RX13) (T := TX13) (N := 97) (v := .int y120) hx hb hts hinX13 hown hK hP hI 0 (Nat.le_of_ble_eq_true rfl) rfl rfl 16 (Nat.le_of_ble_eq_true rfl) (hts _ (vA_in _ _ (in_30 _ (zs16 (zs4 (zs0)))))) (fun _ h9 => h9) ((pw136.2 0 16 (fun q9 => absurd q9.1 (Nat.ne_of_beq_eq_false rfl))).trans pw122.1) dX13_put_35 ?_
                  refine lv_iconst (v := 1) hx hb dX13_put_38 (by decide) ?_
                  refine lv_iadd hx hb dX13_put_39 ?_
                  refine lv_topi (fun y138 ey138 => ?_)
                  obtain ⟨ty138, iy138⟩ := ti_add (e := 3) (f := 200) i137 ln_1 ey138 (by decide)
                  have ty138 : y138.toInt = y120.toInt + 1 := ty138
                  have iy138 : 3 ≤ y138.toInt ∧ y138.toInt ≤ 200 := iy138
                  refine th_put (ci := 14) (C := RX13) (T := TX13) (N := 97) (v := .int y138) (ty := .int) hx hb hts hinX13 tyX13 tyX13_ok nmX13 hown hK hP (WX_D hD) hS hI 0 (Nat.le_of_ble_eq_true rfl) rfl rfl 16 (Nat.le_of_ble_eq_true rfl) (hts _ (vA_in _ _ (in_30 _ (zs16 (zs4 (zs0)))))) (fun _ h9 => h9) rfl (by decide +kernel) rfl rfl (okI rfl (iv_w iy138 (by decide))) dX13_put_40 (fun H locs E139 pw140 hI hP hS => ?_)
                  have hKp := hKp.pw pw140 rfl
                  have k143 : (vp_nar .byte y133).toInt % 256 = y128.toInt := byt_n ey133 ey132 ey127 ey128
                  have k142 := FedM.push pw136 pw140 (vi_e pw122.1) ty138 (by omega) k143
                  have k141 : bysP a0 4 = bysP a0 3 ++ [y128.toInt] := bysP_1 (k := 3) (show ub_by a0 0 = y128 from by rw [← ub_sh 0 (by decide) a0, ey128, ey127]; rfl) c129
                  refine lv_iinc (v := -8) (lv' := [(2, .int (-8)), (0, .ref (ad 0)), (1, .int a0)]) hx hb dX13_put_43 hl (k := 0) rfl (by decide) (by decide) rfl (fun ls hl => ?_)
                  refine lv_goto (tgt := 3) hx hb dX13_put_46 (by decide) ?_
                  refine lv_iload_n hx hb dX13_put_3 rfl (lv_at hl 0 rfl) ?_
                  refine lv_if_lt (tgt := 49) hx hb dX13_put_4 (by decide) (fun c144 => ?_) (fun c144 => ?_)
                  · --4 taken
                    rw [hQ]
                    exact W.vret hx hb hr (fun t ht hW => ⟨⟨E139, rfl, ⟨hI, hKp, ⟨by (try rw [(show xi (E139 0) 16 = y138 from vi_e pw140.1)]); (try rw [ey1]); all_goals omega, by show FedM (bysP a0 4) _ _; rw [k141, k123, k107, k17]; exact (((Fed.rf.tr k18).tr k124).tr k142)⟩⟩, by show va_P (dC, dI) vwCl (WX 72 ad E139) t.heap; rw [ht]; exact hP⟩, hS.F ht⟩) hS.2.2 dX13_put_49
                  · --4 not
                    exact absurd c144 (by decide)
                · --14 not
                  have t145 : y128.toInt = 0 := ti_eq c129
                  have i146 : 0 ≤ y128.toInt ∧ y128.toInt ≤ 0 := iv_eqi t145 iy128 (il_ 0) (by decide)
                  have b0 : bN (ub_by a0 0) = 0 := bN_0 ((show ub_by a0 0 = y128 from by rw [← ub_sh 0 (by decide) a0, ey128, ey127]; rfl).trans c129)
                  refine lv_goto (tgt := 43) hx hb dX13_put_17 (by decide) ?_
                  have k147 : bysP a0 4 = bysP a0 3 := bysP_0 (k := 3) (show ub_by a0 0 = y128 from by rw [← ub_sh 0 (by decide) a0, ey128, ey127]; rfl) c129
                  refine lv_iinc (v := -8) (lv' := [(2, .int (-8)), (0, .ref (ad 0)), (1, .int a0)]) hx hb dX13_put_43 hl (k := 0) rfl (by decide) (by decide) rfl (fun ls hl => ?_)
                  refine lv_goto (tgt := 3) hx hb dX13_put_46 (by decide) ?_
                  refine lv_iload_n hx hb dX13_put_3 rfl (lv_at hl 0 rfl) ?_
                  refine lv_if_lt (tgt := 49) hx hb dX13_put_4 (by decide) (fun c148 => ?_) (fun c148 => ?_)
                  · --4 taken
                    rw [hQ]
                    exact W.vret hx hb hr (fun t ht hW => ⟨⟨E121, rfl, ⟨hI, hKp, ⟨by (try rw [(show xi (E121 0) 16 = y120 from vi_e pw122.1)]); (try rw [ey1]); all_goals omega, by show FedM (bysP a0 4) _ _; rw [k147, k123, k107, k17]; exact ((Fed.rf.tr k18).tr k124)⟩⟩, by show va_P (dC, dI) vwCl (WX 72 ad E121) t.heap; rw [ht]; exact hP⟩, hS.F ht⟩) hS.2.2 dX13_put_49
                  · --4 not
                    exact absurd c148 (by decide)
            · --14 not
              have t149 : y110.toInt = 0 := ti_eq c111
              have i150 : 0 ≤ y110.toInt ∧ y110.toInt ≤ 0 := iv_eqi t149 iy110 (il_ 0) (by decide)
              have b8 : bN (ub_by a0 8) = 0 := bN_0 ((show ub_by a0 8 = y110 from by rw [← ub_sh 8 (by decide) a0, ey110, ey109]; rfl).trans c111)
              refine lv_goto (tgt := 43) hx hb dX13_put_17 (by decide) ?_
              have k151 : bysP a0 3 = bysP a0 2 := bysP_0 (k := 2) (show ub_by a0 8 = y110 from by rw [← ub_sh 8 (by decide) a0, ey110, ey109]; rfl) c111
              refine lv_iinc (v := 0) (lv' := [(2, .int 0), (0, .ref (ad 0)), (1, .int a0)]) hx hb dX13_put_43 hl (k := 0) rfl (by decide) (by decide) rfl (fun ls hl => ?_)
              refine lv_goto (tgt := 3) hx hb dX13_put_46 (by decide) ?_
              refine lv_iload_n hx hb dX13_put_3 rfl (lv_at hl 0 rfl) ?_
              refine lv_if_lt (tgt := 49) hx hb dX13_put_4 (by decide) (fun c152 => ?_) (fun c152 => ?_)
              · --4 taken
                exact absurd c152 (by decide)
              · --4 not
                refine lv_iload_n hx hb dX13_put_7 rfl (lv_at hl 2 rfl) ?_
                refine lv_iload_n hx hb dX13_put_8 rfl (lv_at hl 0 rfl) ?_
                refine lv_ishr hx hb dX13_put_9 ?_
                refine lv_topi (fun y153 ey153 => ?_)
                refine lv_sipush (v := 255) hx hb dX13_put_10 (by decide) ?_
                refine lv_iand hx hb dX13_put_13 ?_
                refine lv_topi (fun y154 ey154 => ?_)
                have iy154 : 0 ≤ y154.toInt ∧ y154.toInt ≤ 255 := ti_and (by decide) ey154
                refine lv_if_ne (tgt := 20) hx hb dX13_put_14 (by decide) (fun c155 => ?_) (fun c155 => ?_)
                · --14 taken
                  have t156 : ¬ y154.toInt = 0 := ti_ne c155
                  have i157 : 1 ≤ y154.toInt ∧ y154.toInt ≤ 255 := iv_ne_l t156 iy154 (il_ 0)
                  have b0 : bN (ub_by a0 0) = 1 := bN_1 (fun q9 => c155 ((show ub_by a0 0 = y154 from by rw [← ub_sh 0 (by decide) a0, ey154, ey153]; rfl).symm.trans q9))
                  refine lv_aload_n hx hb dX13_put_20 rfl (lv_at hl 1 rfl) ?_
                  refine th_get (ci := 14) (C := RX13) (T := TX13) (N := 97) (v := .ref (ad 7)) hx hb hts hinX13 hown hK hP hI 0 (Nat.le_of_ble_eq_true rfl) rfl rfl 10 (Nat.le_of_ble_eq_true rfl) (hts _ (vA_in _ _ (in_31 _ (zs16 (zs4 (zs4 (zs4 (zs1 (zs0))))))))) (fun _ h9 => h9) (hI.fr 0 (Nat.le_of_ble_eq_true rfl) rfl (Nat.le_of_ble_eq_true rfl) 7 rfl) dX13_put_21 ?_
                  refine lv_aload_n hx hb dX13_put_24 rfl (lv_at hl 1 rfl) ?_
                  refine th_get (ci := 14) (C := RX13) (T := TX13) (N := 97) (v := .int y14) hx hb hts hinX13 hown hK hP hI 0 (Nat.le_of_ble_eq_true rfl) rfl rfl 16 (Nat.le_of_ble_eq_true rfl) (hts _ (vA_in _ _ (in_30 _ (zs16 (zs4 (zs0)))))) (fun _ h9 => h9) pw16.1 dX13_put_25 ?_
                  refine lv_iload_n hx hb dX13_put_28 rfl (lv_at hl 2 rfl) ?_
                  refine lv_iload_n hx hb dX13_put_29 rfl (lv_at hl 0 rfl) ?_
                  refine lv_ishr hx hb dX13_put_30 ?_
                  refine lv_topi (fun y158 ey158 => ?_)
                  refine lv_i2b hx hb dX13_put_31 rfl ?_
                  refine lv_topi (fun y159 ey159 => ?_)
                  have iy159 : -128 ≤ y159.toInt ∧ y159.toInt ≤ 127 := iv_i2b ey159
                  have i163 : 1 ≤ y14.toInt ∧ y14.toInt ≤ 199 := by omega
                  have n160 : vp_in y14 200 := (iv_in (n := 200) i163 (by decide))
                  refine th_bast hx hb hK hP (WX_D hD) hS hI 7 (Nat.le_of_ble_eq_true rfl) rfl rfl n160 (okI rfl (iv_nb _)) dX13_put_32 (fun H locs E161 pw162 hI hP hS => ?_)
                  have hKp := hKp.pw pw162 rfl
                  refine lv_aload_n hx hb dX13_put_33 rfl (lv_at hl 1 rfl) ?_
                  refine lv_dup hx hb dX13_put_34 rfl ?_
                  refine th_get (ci := 14) (C := RX13) (T := TX13) (N := 97) (v := .int y14) hx hb hts hinX13 hown hK hP hI 0 (Nat.le_of_ble_eq_true rfl) rfl rfl 16 (Nat.le_of_ble_eq_true rfl) (hts _ (vA_in _ _ (in_30 _ (zs16 (zs4 (zs0)))))) (fun _ h9 => h9) ((pw162.2 0 16 (fun q9 => absurd q9.1 (Nat.ne_of_beq_eq_false rfl))).trans pw16.1) dX13_put_35 ?_
                  refine lv_iconst (v := 1) hx hb dX13_put_38 (by decide) ?_
                  refine lv_iadd hx hb dX13_put_39 ?_
                  refine lv_topi (fun y164 ey164 => ?_)
                  obtain ⟨ty164, iy164⟩ := ti_add (e := 2) (f := 200) i163 ln_1 ey164 (by decide)
                  have ty164 : y164.toInt = y14.toInt + 1 := ty164
                  have iy164 : 2 ≤ y164.toInt ∧ y164.toInt ≤ 200 := iy164
                  refine th_put (ci := 14) (C := RX13) (T := TX13) (N := 97) (v := .int y164) (ty := .int) hx hb hts hinX13 tyX13 tyX13_ok nmX13 hown hK hP (WX_D hD) hS hI 0 (Nat.le_of_ble_eq_true rfl) rfl rfl 16 (Nat.le_of_ble_eq_true rfl) (hts _ (vA_in _ _ (in_30 _ (zs16 (zs4 (zs0)))))) (fun _ h9 => h9) rfl (by decide +kernel) rfl rfl (okI rfl (iv_w iy164 (by decide))) dX13_put_40 (fun H locs E165 pw166 hI hP hS => ?_)
                  have hKp := hKp.pw pw166 rfl
                  have k169 : (vp_nar .byte y159).toInt % 256 = y154.toInt := byt_n ey159 ey158 ey153 ey154
                  have k168 := FedM.push pw162 pw166 (vi_e pw16.1) ty164 (by omega) k169
                  have k167 : bysP a0 4 = bysP a0 3 ++ [y154.toInt] := bysP_1 (k := 3) (show ub_by a0 0 = y154 from by rw [← ub_sh 0 (by decide) a0, ey154, ey153]; rfl) c155
                  refine lv_iinc (v := -8) (lv' := [(2, .int (-8)), (0, .ref (ad 0)), (1, .int a0)]) hx hb dX13_put_43 hl (k := 0) rfl (by decide) (by decide) rfl (fun ls hl => ?_)
                  refine lv_goto (tgt := 3) hx hb dX13_put_46 (by decide) ?_
                  refine lv_iload_n hx hb dX13_put_3 rfl (lv_at hl 0 rfl) ?_
                  refine lv_if_lt (tgt := 49) hx hb dX13_put_4 (by decide) (fun c170 => ?_) (fun c170 => ?_)
                  · --4 taken
                    rw [hQ]
                    exact W.vret hx hb hr (fun t ht hW => ⟨⟨E165, rfl, ⟨hI, hKp, ⟨by (try rw [(show xi (E165 0) 16 = y164 from vi_e pw166.1)]); (try rw [ey1]); all_goals omega, by show FedM (bysP a0 4) _ _; rw [k167, k151, k107, k17]; exact ((Fed.rf.tr k18).tr k168)⟩⟩, by show va_P (dC, dI) vwCl (WX 72 ad E165) t.heap; rw [ht]; exact hP⟩, hS.F ht⟩) hS.2.2 dX13_put_49
                  · --4 not
                    exact absurd c170 (by decide)
                · --14 not
                  have t171 : y154.toInt = 0 := ti_eq c155
                  have i172 : 0 ≤ y154.toInt ∧ y154.toInt ≤ 0 := iv_eqi t171 iy154 (il_ 0) (by decide)
                  have b0 : bN (ub_by a0 0) = 0 := bN_0 ((show ub_by a0 0 = y154 from by rw [← ub_sh 0 (by decide) a0, ey154, ey153]; rfl).trans c155)
                  refine lv_goto (tgt := 43) hx hb dX13_put_17 (by decide) ?_
                  have k173 : bysP a0 4 = bysP a0 3 := bysP_0 (k := 3) (show ub_by a0 0 = y154 from by rw [← ub_sh 0 (by decide) a0, ey154, ey153]; rfl) c155
                  refine lv_iinc (v := -8) (lv' := [(2, .int (-8)), (0, .ref (ad 0)), (1, .int a0)]) hx hb dX13_put_43 hl (k := 0) rfl (by decide) (by decide) rfl (fun ls hl => ?_)
                  refine lv_goto (tgt := 3) hx hb dX13_put_46 (by decide) ?_
                  refine lv_iload_n hx hb dX13_put_3 rfl (lv_at hl 0 rfl) ?_
                  refine lv_if_lt (tgt := 49) hx hb dX13_put_4 (by decide) (fun c174 => ?_) (fun c174 => ?_)
                  · --4 taken
                    rw [hQ]
                    exact W.vret hx hb hr (fun t ht hW => ⟨⟨E15, rfl, ⟨hI, hKp, ⟨by (try rw [(show xi (E15 0) 16 = y14 from vi_e pw16.1)]); (try rw [ey1]); all_goals omega, by show FedM (bysP a0 4) _ _; rw [k173, k151, k107, k17]; exact (Fed.rf.tr k18)⟩⟩, by show va_P (dC, dI) vwCl (WX 72 ad E15) t.heap; rw [ht]; exact hP⟩, hS.F ht⟩) hS.2.2 dX13_put_49
                  · --4 not
                    exact absurd c174 (by decide)
    · --14 not
      have t175 : y4.toInt = 0 := ti_eq c5
      have i176 : 0 ≤ y4.toInt ∧ y4.toInt ≤ 0 := iv_eqi t175 iy4 (il_ 0) (by decide)
      have b24 : bN (ub_by a0 24) = 0 := bN_0 ((show ub_by a0 24 = y4 from by rw [← ub_sh 24 (by decide) a0, ey4, ey3]; rfl).trans c5)
      refine lv_goto (tgt := 43) hx hb dX13_put_17 (by decide) ?_
      have k177 : bysP a0 1 = bysP a0 0 := bysP_0 (k := 0) (show ub_by a0 24 = y4 from by rw [← ub_sh 24 (by decide) a0, ey4, ey3]; rfl) c5
      refine lv_iinc (v := 16) (lv' := [(2, .int 16), (0, .ref (ad 0)), (1, .int a0)]) hx hb dX13_put_43 hl (k := 0) rfl (by decide) (by decide) rfl (fun ls hl => ?_)
      refine lv_goto (tgt := 3) hx hb dX13_put_46 (by decide) ?_
      refine lv_iload_n hx hb dX13_put_3 rfl (lv_at hl 0 rfl) ?_
      refine lv_if_lt (tgt := 49) hx hb dX13_put_4 (by decide) (fun c178 => ?_) (fun c178 => ?_)
      · --4 taken
        exact absurd c178 (by decide)
      · --4 not
        refine lv_iload_n hx hb dX13_put_7 rfl (lv_at hl 2 rfl) ?_
        refine lv_iload_n hx hb dX13_put_8 rfl (lv_at hl 0 rfl) ?_
        refine lv_ishr hx hb dX13_put_9 ?_
        refine lv_topi (fun y179 ey179 => ?_)
        refine lv_sipush (v := 255) hx hb dX13_put_10 (by decide) ?_
        refine lv_iand hx hb dX13_put_13 ?_
        refine lv_topi (fun y180 ey180 => ?_)
        have iy180 : 0 ≤ y180.toInt ∧ y180.toInt ≤ 255 := ti_and (by decide) ey180
        refine lv_if_ne (tgt := 20) hx hb dX13_put_14 (by decide) (fun c181 => ?_) (fun c181 => ?_)
        · --14 taken
          have t182 : ¬ y180.toInt = 0 := ti_ne c181
          have i183 : 1 ≤ y180.toInt ∧ y180.toInt ≤ 255 := iv_ne_l t182 iy180 (il_ 0)
          have b16 : bN (ub_by a0 16) = 1 := bN_1 (fun q9 => c181 ((show ub_by a0 16 = y180 from by rw [← ub_sh 16 (by decide) a0, ey180, ey179]; rfl).symm.trans q9))
          refine lv_aload_n hx hb dX13_put_20 rfl (lv_at hl 1 rfl) ?_
          refine th_get (ci := 14) (C := RX13) (T := TX13) (N := 97) (v := .ref (ad 7)) hx hb hts hinX13 hown hK hP hI 0 (Nat.le_of_ble_eq_true rfl) rfl rfl 10 (Nat.le_of_ble_eq_true rfl) (hts _ (vA_in _ _ (in_31 _ (zs16 (zs4 (zs4 (zs4 (zs1 (zs0))))))))) (fun _ h9 => h9) (hI.fr 0 (Nat.le_of_ble_eq_true rfl) rfl (Nat.le_of_ble_eq_true rfl) 7 rfl) dX13_put_21 ?_
          refine lv_aload_n hx hb dX13_put_24 rfl (lv_at hl 1 rfl) ?_
          refine th_get (ci := 14) (C := RX13) (T := TX13) (N := 97) (v := .int y1) hx hb hts hinX13 hown hK hP hI 0 (Nat.le_of_ble_eq_true rfl) rfl rfl 16 (Nat.le_of_ble_eq_true rfl) (hts _ (vA_in _ _ (in_30 _ (zs16 (zs4 (zs0)))))) (fun _ h9 => h9) fy1 dX13_put_25 ?_
          refine lv_iload_n hx hb dX13_put_28 rfl (lv_at hl 2 rfl) ?_
          refine lv_iload_n hx hb dX13_put_29 rfl (lv_at hl 0 rfl) ?_
          refine lv_ishr hx hb dX13_put_30 ?_
          refine lv_topi (fun y184 ey184 => ?_)
          refine lv_i2b hx hb dX13_put_31 rfl ?_
          refine lv_topi (fun y185 ey185 => ?_)
          have iy185 : -128 ≤ y185.toInt ∧ y185.toInt ≤ 127 := iv_i2b ey185
          have i189 : 0 ≤ y1.toInt ∧ y1.toInt ≤ 199 := by omega
          have n186 : vp_in y1 200 := (iv_in (n := 200) i189 (by decide))
          refine th_bast hx hb hK hP (WX_D hD) hS hI 7 (Nat.le_of_ble_eq_true rfl) rfl rfl n186 (okI rfl (iv_nb _)) dX13_put_32 (fun H locs E187 pw188 hI hP hS => ?_)
          have hKp := hKp.pw pw188 rfl
          refine lv_aload_n hx hb dX13_put_33 rfl (lv_at hl 1 rfl) ?_
          refine lv_dup hx hb dX13_put_34 rfl ?_
          refine th_get (ci := 14) (C := RX13) (T := TX13) (N := 97) (v := .int y1) hx hb hts hinX13 hown hK hP hI 0 (Nat.le_of_ble_eq_true rfl) rfl rfl 16 (Nat.le_of_ble_eq_true rfl) (hts _ (vA_in _ _ (in_30 _ (zs16 (zs4 (zs0)))))) (fun _ h9 => h9) ((pw188.2 0 16 (fun q9 => absurd q9.1 (Nat.ne_of_beq_eq_false rfl))).trans fy1) dX13_put_35 ?_
          refine lv_iconst (v := 1) hx hb dX13_put_38 (by decide) ?_
          refine lv_iadd hx hb dX13_put_39 ?_
          refine lv_topi (fun y190 ey190 => ?_)
          obtain ⟨ty190, iy190⟩ := ti_add (e := 1) (f := 200) i189 ln_1 ey190 (by decide)
          have ty190 : y190.toInt = y1.toInt + 1 := ty190
          have iy190 : 1 ≤ y190.toInt ∧ y190.toInt ≤ 200 := iy190
          refine th_put (ci := 14) (C := RX13) (T := TX13) (N := 97) (v := .int y190) (ty := .int) hx hb hts hinX13 tyX13 tyX13_ok nmX13 hown hK hP (WX_D hD) hS hI 0 (Nat.le_of_ble_eq_true rfl) rfl rfl 16 (Nat.le_of_ble_eq_true rfl) (hts _ (vA_in _ _ (in_30 _ (zs16 (zs4 (zs0)))))) (fun _ h9 => h9) rfl (by decide +kernel) rfl rfl (okI rfl (iv_w iy190 (by decide))) dX13_put_40 (fun H locs E191 pw192 hI hP hS => ?_)
          have hKp := hKp.pw pw192 rfl
          have k195 : (vp_nar .byte y185).toInt % 256 = y180.toInt := byt_n ey185 ey184 ey179 ey180
          have k194 := FedM.push pw188 pw192 (vi_e fy1) ty190 (by omega) k195
          have k193 : bysP a0 2 = bysP a0 1 ++ [y180.toInt] := bysP_1 (k := 1) (show ub_by a0 16 = y180 from by rw [← ub_sh 16 (by decide) a0, ey180, ey179]; rfl) c181
          refine lv_iinc (v := 8) (lv' := [(2, .int 8), (0, .ref (ad 0)), (1, .int a0)]) hx hb dX13_put_43 hl (k := 0) rfl (by decide) (by decide) rfl (fun ls hl => ?_)
          refine lv_goto (tgt := 3) hx hb dX13_put_46 (by decide) ?_
          refine lv_iload_n hx hb dX13_put_3 rfl (lv_at hl 0 rfl) ?_
          refine lv_if_lt (tgt := 49) hx hb dX13_put_4 (by decide) (fun c196 => ?_) (fun c196 => ?_)
          · --4 taken
            exact absurd c196 (by decide)
          · --4 not
            refine lv_iload_n hx hb dX13_put_7 rfl (lv_at hl 2 rfl) ?_
            refine lv_iload_n hx hb dX13_put_8 rfl (lv_at hl 0 rfl) ?_
            refine lv_ishr hx hb dX13_put_9 ?_
            refine lv_topi (fun y197 ey197 => ?_)
            refine lv_sipush (v := 255) hx hb dX13_put_10 (by decide) ?_
            refine lv_iand hx hb dX13_put_13 ?_
            refine lv_topi (fun y198 ey198 => ?_)
            have iy198 : 0 ≤ y198.toInt ∧ y198.toInt ≤ 255 := ti_and (by decide) ey198
            refine lv_if_ne (tgt := 20) hx hb dX13_put_14 (by decide) (fun c199 => ?_) (fun c199 => ?_)
            · --14 taken
              have t200 : ¬ y198.toInt = 0 := ti_ne c199
              have i201 : 1 ≤ y198.toInt ∧ y198.toInt ≤ 255 := iv_ne_l t200 iy198 (il_ 0)
              have b8 : bN (ub_by a0 8) = 1 := bN_1 (fun q9 => c199 ((show ub_by a0 8 = y198 from by rw [← ub_sh 8 (by decide) a0, ey198, ey197]; rfl).symm.trans q9))
              refine lv_aload_n hx hb dX13_put_20 rfl (lv_at hl 1 rfl) ?_
              refine th_get (ci := 14) (C := RX13) (T := TX13) (N := 97) (v := .ref (ad 7)) hx hb hts hinX13 hown hK hP hI 0 (Nat.le_of_ble_eq_true rfl) rfl rfl 10 (Nat.le_of_ble_eq_true rfl) (hts _ (vA_in _ _ (in_31 _ (zs16 (zs4 (zs4 (zs4 (zs1 (zs0))))))))) (fun _ h9 => h9) (hI.fr 0 (Nat.le_of_ble_eq_true rfl) rfl (Nat.le_of_ble_eq_true rfl) 7 rfl) dX13_put_21 ?_
              refine lv_aload_n hx hb dX13_put_24 rfl (lv_at hl 1 rfl) ?_
              refine th_get (ci := 14) (C := RX13) (T := TX13) (N := 97) (v := .int y190) hx hb hts hinX13 hown hK hP hI 0 (Nat.le_of_ble_eq_true rfl) rfl rfl 16 (Nat.le_of_ble_eq_true rfl) (hts _ (vA_in _ _ (in_30 _ (zs16 (zs4 (zs0)))))) (fun _ h9 => h9) pw192.1 dX13_put_25 ?_
              refine lv_iload_n hx hb dX13_put_28 rfl (lv_at hl 2 rfl) ?_
              refine lv_iload_n hx hb dX13_put_29 rfl (lv_at hl 0 rfl) ?_
              refine lv_ishr hx hb dX13_put_30 ?_
              refine lv_topi (fun y202 ey202 => ?_)
              refine lv_i2b hx hb dX13_put_31 rfl ?_
              refine lv_topi (fun y203 ey203 => ?_)
              have iy203 : -128 ≤ y203.toInt ∧ y203.toInt ≤ 127 := iv_i2b ey203
              have i207 : 1 ≤ y190.toInt ∧ y190.toInt ≤ 199 := by omega
              have n204 : vp_in y190 200 := (iv_in (n := 200) i207 (by decide))
              refine th_bast hx hb hK hP (WX_D hD) hS hI 7 (Nat.le_of_ble_eq_true rfl) rfl rfl n204 (okI rfl (iv_nb _)) dX13_put_32 (fun H locs E205 pw206 hI hP hS => ?_)
              have hKp := hKp.pw pw206 rfl
              refine lv_aload_n hx hb dX13_put_33 rfl (lv_at hl 1 rfl) ?_
              refine lv_dup hx hb dX13_put_34 rfl ?_
              refine th_get (ci := 14) (C := RX13) (T := TX13) (N := 97) (v := .int y190) hx hb hts hinX13 hown hK hP hI 0 (Nat.le_of_ble_eq_true rfl) rfl rfl 16 (Nat.le_of_ble_eq_true rfl) (hts _ (vA_in _ _ (in_30 _ (zs16 (zs4 (zs0)))))) (fun _ h9 => h9) ((pw206.2 0 16 (fun q9 => absurd q9.1 (Nat.ne_of_beq_eq_false rfl))).trans pw192.1) dX13_put_35 ?_
              refine lv_iconst (v := 1) hx hb dX13_put_38 (by decide) ?_
              refine lv_iadd hx hb dX13_put_39 ?_
              refine lv_topi (fun y208 ey208 => ?_)
              obtain ⟨ty208, iy208⟩ := ti_add (e := 2) (f := 200) i207 ln_1 ey208 (by decide)
              have ty208 : y208.toInt = y190.toInt + 1 := ty208
              have iy208 : 2 ≤ y208.toInt ∧ y208.toInt ≤ 200 := iy208
              refine th_put (ci := 14) (C := RX13) (T := TX13) (N := 97) (v := .int y208) (ty := .int) hx hb hts hinX13 tyX13 tyX13_ok nmX13 hown hK hP (WX_D hD) hS hI 0 (Nat.le_of_ble_eq_true rfl) rfl rfl 16 (Nat.le_of_ble_eq_true rfl) (hts _ (vA_in _ _ (in_30 _ (zs16 (zs4 (zs0)))))) (fun _ h9 => h9) rfl (by decide +kernel) rfl rfl (okI rfl (iv_w iy208 (by decide))) dX13_put_40 (fun H locs E209 pw210 hI hP hS => ?_)
              have hKp := hKp.pw pw210 rfl
              have k213 : (vp_nar .byte y203).toInt % 256 = y198.toInt := byt_n ey203 ey202 ey197 ey198
              have k212 := FedM.push pw206 pw210 (vi_e pw192.1) ty208 (by omega) k213
              have k211 : bysP a0 3 = bysP a0 2 ++ [y198.toInt] := bysP_1 (k := 2) (show ub_by a0 8 = y198 from by rw [← ub_sh 8 (by decide) a0, ey198, ey197]; rfl) c199
              refine lv_iinc (v := 0) (lv' := [(2, .int 0), (0, .ref (ad 0)), (1, .int a0)]) hx hb dX13_put_43 hl (k := 0) rfl (by decide) (by decide) rfl (fun ls hl => ?_)
              refine lv_goto (tgt := 3) hx hb dX13_put_46 (by decide) ?_
              refine lv_iload_n hx hb dX13_put_3 rfl (lv_at hl 0 rfl) ?_
              refine lv_if_lt (tgt := 49) hx hb dX13_put_4 (by decide) (fun c214 => ?_) (fun c214 => ?_)
              · --4 taken
                exact absurd c214 (by decide)
              · --4 not
                refine lv_iload_n hx hb dX13_put_7 rfl (lv_at hl 2 rfl) ?_
                refine lv_iload_n hx hb dX13_put_8 rfl (lv_at hl 0 rfl) ?_
                refine lv_ishr hx hb dX13_put_9 ?_
                refine lv_topi (fun y215 ey215 => ?_)
                refine lv_sipush (v := 255) hx hb dX13_put_10 (by decide) ?_
                refine lv_iand hx hb dX13_put_13 ?_
                refine lv_topi (fun y216 ey216 => ?_)
                have iy216 : 0 ≤ y216.toInt ∧ y216.toInt ≤ 255 := ti_and (by decide) ey216
                refine lv_if_ne (tgt := 20) hx hb dX13_put_14 (by decide) (fun c217 => ?_) (fun c217 => ?_)
                · --14 taken
                  have t218 : ¬ y216.toInt = 0 := ti_ne c217
                  have i219 : 1 ≤ y216.toInt ∧ y216.toInt ≤ 255 := iv_ne_l t218 iy216 (il_ 0)
                  have b0 : bN (ub_by a0 0) = 1 := bN_1 (fun q9 => c217 ((show ub_by a0 0 = y216 from by rw [← ub_sh 0 (by decide) a0, ey216, ey215]; rfl).symm.trans q9))
                  refine lv_aload_n hx hb dX13_put_20 rfl (lv_at hl 1 rfl) ?_
                  refine th_get (ci := 14) (C := RX13) (T := TX13) (N := 97) (v := .ref (ad 7)) hx hb hts hinX13 hown hK hP hI 0 (Nat.le_of_ble_eq_true rfl) rfl rfl 10 (Nat.le_of_ble_eq_true rfl) (hts _ (vA_in _ _ (in_31 _ (zs16 (zs4 (zs4 (zs4 (zs1 (zs0))))))))) (fun _ h9 => h9) (hI.fr 0 (Nat.le_of_ble_eq_true rfl) rfl (Nat.le_of_ble_eq_true rfl) 7 rfl) dX13_put_21 ?_
                  refine lv_aload_n hx hb dX13_put_24 rfl (lv_at hl 1 rfl) ?_
                  refine th_get (ci := 14) (C := RX13) (T := TX13) (N := 97) (v := .int y208) hx hb hts hinX13 hown hK hP hI 0 (Nat.le_of_ble_eq_true rfl) rfl rfl 16 (Nat.le_of_ble_eq_true rfl) (hts _ (vA_in _ _ (in_30 _ (zs16 (zs4 (zs0)))))) (fun _ h9 => h9) pw210.1 dX13_put_25 ?_
                  refine lv_iload_n hx hb dX13_put_28 rfl (lv_at hl 2 rfl) ?_
                  refine lv_iload_n hx hb dX13_put_29 rfl (lv_at hl 0 rfl) ?_
                  refine lv_ishr hx hb dX13_put_30 ?_
                  refine lv_topi (fun y220 ey220 => ?_)
                  refine lv_i2b hx hb dX13_put_31 rfl ?_
                  refine lv_topi (fun y221 ey221 => ?_)
                  have iy221 : -128 ≤ y221.toInt ∧ y221.toInt ≤ 127 := iv_i2b ey221
                  have i225 : 2 ≤ y208.toInt ∧ y208.toInt ≤ 199 := by omega
                  have n222 : vp_in y208 200 := (iv_in (n := 200) i225 (by decide))
                  refine th_bast hx hb hK hP (WX_D hD) hS hI 7 (Nat.le_of_ble_eq_true rfl) rfl rfl n222 (okI rfl (iv_nb _)) dX13_put_32 (fun H locs E223 pw224 hI hP hS => ?_)
                  have hKp := hKp.pw pw224 rfl
                  refine lv_aload_n hx hb dX13_put_33 rfl (lv_at hl 1 rfl) ?_
                  refine lv_dup hx hb dX13_put_34 rfl ?_
                  refine th_get (ci := 14) (C := RX13) (T := TX13) (N := 97) (v := .int y208) hx hb hts hinX13 hown hK hP hI 0 (Nat.le_of_ble_eq_true rfl) rfl rfl 16 (Nat.le_of_ble_eq_true rfl) (hts _ (vA_in _ _ (in_30 _ (zs16 (zs4 (zs0)))))) (fun _ h9 => h9) ((pw224.2 0 16 (fun q9 => absurd q9.1 (Nat.ne_of_beq_eq_false rfl))).trans pw210.1) dX13_put_35 ?_
                  refine lv_iconst (v := 1) hx hb dX13_put_38 (by decide) ?_
                  refine lv_iadd hx hb dX13_put_39 ?_
                  refine lv_topi (fun y226 ey226 => ?_)
                  obtain ⟨ty226, iy226⟩ := ti_add (e := 3) (f := 200) i225 ln_1 ey226 (by decide)
                  have ty226 : y226.toInt = y208.toInt + 1 := ty226
                  have iy226 : 3 ≤ y226.toInt ∧ y226.toInt ≤ 200 := iy226
                  refine th_put (ci := 14) (C := RX13) (T := TX13) (N := 97) (v := .int y226) (ty := .int) hx hb hts hinX13 tyX13 tyX13_ok nmX13 hown hK hP (WX_D hD) hS hI 0 (Nat.le_of_ble_eq_true rfl) rfl rfl 16 (Nat.le_of_ble_eq_true rfl) (hts _ (vA_in _ _ (in_30 _ (zs16 (zs4 (zs0)))))) (fun _ h9 => h9) rfl (by decide +kernel) rfl rfl (okI rfl (iv_w iy226 (by decide))) dX13_put_40 (fun H locs E227 pw228 hI hP hS => ?_)
                  have hKp := hKp.pw pw228 rfl
                  have k231 : (vp_nar .byte y221).toInt % 256 = y216.toInt := byt_n ey221 ey220 ey215 ey216
                  have k230 := FedM.push pw224 pw228 (vi_e pw210.1) ty226 (by omega) k231
                  have k229 : bysP a0 4 = bysP a0 3 ++ [y216.toInt] := bysP_1 (k := 3) (show ub_by a0 0 = y216 from by rw [← ub_sh 0 (by decide) a0, ey216, ey215]; rfl) c217
                  refine lv_iinc (v := -8) (lv' := [(2, .int (-8)), (0, .ref (ad 0)), (1, .int a0)]) hx hb dX13_put_43 hl (k := 0) rfl (by decide) (by decide) rfl (fun ls hl => ?_)
                  refine lv_goto (tgt := 3) hx hb dX13_put_46 (by decide) ?_
                  refine lv_iload_n hx hb dX13_put_3 rfl (lv_at hl 0 rfl) ?_
                  refine lv_if_lt (tgt := 49) hx hb dX13_put_4 (by decide) (fun c232 => ?_) (fun c232 => ?_)
                  · --4 taken
                    rw [hQ]
                    exact W.vret hx hb hr (fun t ht hW => ⟨⟨E227, rfl, ⟨hI, hKp, ⟨by (try rw [(show xi (E227 0) 16 = y226 from vi_e pw228.1)]); (try rw [ey1]); all_goals omega, by show FedM (bysP a0 4) _ _; rw [k229, k211, k193, k177]; exact (((Fed.rf.tr k194).tr k212).tr k230)⟩⟩, by show va_P (dC, dI) vwCl (WX 72 ad E227) t.heap; rw [ht]; exact hP⟩, hS.F ht⟩) hS.2.2 dX13_put_49
                  · --4 not
                    exact absurd c232 (by decide)
                · --14 not
                  have t233 : y216.toInt = 0 := ti_eq c217
                  have i234 : 0 ≤ y216.toInt ∧ y216.toInt ≤ 0 := iv_eqi t233 iy216 (il_ 0) (by decide)
                  have b0 : bN (ub_by a0 0) = 0 := bN_0 ((show ub_by a0 0 = y216 from by rw [← ub_sh 0 (by decide) a0, ey216, ey215]; rfl).trans c217)
                  refine lv_goto (tgt := 43) hx hb dX13_put_17 (by decide) ?_
                  have k235 : bysP a0 4 = bysP a0 3 := bysP_0 (k := 3) (show ub_by a0 0 = y216 from by rw [← ub_sh 0 (by decide) a0, ey216, ey215]; rfl) c217
                  refine lv_iinc (v := -8) (lv' := [(2, .int (-8)), (0, .ref (ad 0)), (1, .int a0)]) hx hb dX13_put_43 hl (k := 0) rfl (by decide) (by decide) rfl (fun ls hl => ?_)
                  refine lv_goto (tgt := 3) hx hb dX13_put_46 (by decide) ?_
                  refine lv_iload_n hx hb dX13_put_3 rfl (lv_at hl 0 rfl) ?_
                  refine lv_if_lt (tgt := 49) hx hb dX13_put_4 (by decide) (fun c236 => ?_) (fun c236 => ?_)
                  · --4 taken
                    rw [hQ]
                    exact W.vret hx hb hr (fun t ht hW => ⟨⟨E209, rfl, ⟨hI, hKp, ⟨by (try rw [(show xi (E209 0) 16 = y208 from vi_e pw210.1)]); (try rw [ey1]); all_goals omega, by show FedM (bysP a0 4) _ _; rw [k235, k211, k193, k177]; exact ((Fed.rf.tr k194).tr k212)⟩⟩, by show va_P (dC, dI) vwCl (WX 72 ad E209) t.heap; rw [ht]; exact hP⟩, hS.F ht⟩) hS.2.2 dX13_put_49
                  · --4 not
                    exact absurd c236 (by decide)
            · --14 not
              have t237 : y198.toInt = 0 := ti_eq c199
              have i238 : 0 ≤ y198.toInt ∧ y198.toInt ≤ 0 := iv_eqi t237 iy198 (il_ 0) (by decide)
              have b8 : bN (ub_by a0 8) = 0 := bN_0 ((show ub_by a0 8 = y198 from by rw [← ub_sh 8 (by decide) a0, ey198, ey197]; rfl).trans c199)
              refine lv_goto (tgt := 43) hx hb dX13_put_17 (by decide) ?_
              have k239 : bysP a0 3 = bysP a0 2 := bysP_0 (k := 2) (show ub_by a0 8 = y198 from by rw [← ub_sh 8 (by decide) a0, ey198, ey197]; rfl) c199
              refine lv_iinc (v := 0) (lv' := [(2, .int 0), (0, .ref (ad 0)), (1, .int a0)]) hx hb dX13_put_43 hl (k := 0) rfl (by decide) (by decide) rfl (fun ls hl => ?_)
              refine lv_goto (tgt := 3) hx hb dX13_put_46 (by decide) ?_
              refine lv_iload_n hx hb dX13_put_3 rfl (lv_at hl 0 rfl) ?_
              refine lv_if_lt (tgt := 49) hx hb dX13_put_4 (by decide) (fun c240 => ?_) (fun c240 => ?_)
              · --4 taken
                exact absurd c240 (by decide)
              · --4 not
                refine lv_iload_n hx hb dX13_put_7 rfl (lv_at hl 2 rfl) ?_
                refine lv_iload_n hx hb dX13_put_8 rfl (lv_at hl 0 rfl) ?_
                refine lv_ishr hx hb dX13_put_9 ?_
                refine lv_topi (fun y241 ey241 => ?_)
                refine lv_sipush (v := 255) hx hb dX13_put_10 (by decide) ?_
                refine lv_iand hx hb dX13_put_13 ?_
                refine lv_topi (fun y242 ey242 => ?_)
                have iy242 : 0 ≤ y242.toInt ∧ y242.toInt ≤ 255 := ti_and (by decide) ey242
                refine lv_if_ne (tgt := 20) hx hb dX13_put_14 (by decide) (fun c243 => ?_) (fun c243 => ?_)
                · --14 taken
                  have t244 : ¬ y242.toInt = 0 := ti_ne c243
                  have i245 : 1 ≤ y242.toInt ∧ y242.toInt ≤ 255 := iv_ne_l t244 iy242 (il_ 0)
                  have b0 : bN (ub_by a0 0) = 1 := bN_1 (fun q9 => c243 ((show ub_by a0 0 = y242 from by rw [← ub_sh 0 (by decide) a0, ey242, ey241]; rfl).symm.trans q9))
                  refine lv_aload_n hx hb dX13_put_20 rfl (lv_at hl 1 rfl) ?_
                  refine th_get (ci := 14) (C := RX13) (T := TX13) (N := 97) (v := .ref (ad 7)) hx hb hts hinX13 hown hK hP hI 0 (Nat.le_of_ble_eq_true rfl) rfl rfl 10 (Nat.le_of_ble_eq_true rfl) (hts _ (vA_in _ _ (in_31 _ (zs16 (zs4 (zs4 (zs4 (zs1 (zs0))))))))) (fun _ h9 => h9) (hI.fr 0 (Nat.le_of_ble_eq_true rfl) rfl (Nat.le_of_ble_eq_true rfl) 7 rfl) dX13_put_21 ?_
                  refine lv_aload_n hx hb dX13_put_24 rfl (lv_at hl 1 rfl) ?_
                  refine th_get (ci := 14) (C := RX13) (T := TX13) (N := 97) (v := .int y190) hx hb hts hinX13 hown hK hP hI 0 (Nat.le_of_ble_eq_true rfl) rfl rfl 16 (Nat.le_of_ble_eq_true rfl) (hts _ (vA_in _ _ (in_30 _ (zs16 (zs4 (zs0)))))) (fun _ h9 => h9) pw192.1 dX13_put_25 ?_
                  refine lv_iload_n hx hb dX13_put_28 rfl (lv_at hl 2 rfl) ?_
                  refine lv_iload_n hx hb dX13_put_29 rfl (lv_at hl 0 rfl) ?_
                  refine lv_ishr hx hb dX13_put_30 ?_
                  refine lv_topi (fun y246 ey246 => ?_)
                  refine lv_i2b hx hb dX13_put_31 rfl ?_
                  refine lv_topi (fun y247 ey247 => ?_)
                  have iy247 : -128 ≤ y247.toInt ∧ y247.toInt ≤ 127 := iv_i2b ey247
                  have i251 : 1 ≤ y190.toInt ∧ y190.toInt ≤ 199 := by omega
                  have n248 : vp_in y190 200 := (iv_in (n := 200) i251 (by decide))
                  refine th_bast hx hb hK hP (WX_D hD) hS hI 7 (Nat.le_of_ble_eq_true rfl) rfl rfl n248 (okI rfl (iv_nb _)) dX13_put_32 (fun H locs E249 pw250 hI hP hS => ?_)
                  have hKp := hKp.pw pw250 rfl
                  refine lv_aload_n hx hb dX13_put_33 rfl (lv_at hl 1 rfl) ?_
                  refine lv_dup hx hb dX13_put_34 rfl ?_
                  refine th_get (ci := 14) (C := RX13) (T := TX13) (N := 97) (v := .int y190) hx hb hts hinX13 hown hK hP hI 0 (Nat.le_of_ble_eq_true rfl) rfl rfl 16 (Nat.le_of_ble_eq_true rfl) (hts _ (vA_in _ _ (in_30 _ (zs16 (zs4 (zs0)))))) (fun _ h9 => h9) ((pw250.2 0 16 (fun q9 => absurd q9.1 (Nat.ne_of_beq_eq_false rfl))).trans pw192.1) dX13_put_35 ?_
                  refine lv_iconst (v := 1) hx hb dX13_put_38 (by decide) ?_
                  refine lv_iadd hx hb dX13_put_39 ?_
                  refine lv_topi (fun y252 ey252 => ?_)
                  obtain ⟨ty252, iy252⟩ := ti_add (e := 2) (f := 200) i251 ln_1 ey252 (by decide)
                  have ty252 : y252.toInt = y190.toInt + 1 := ty252
                  have iy252 : 2 ≤ y252.toInt ∧ y252.toInt ≤ 200 := iy252
                  refine th_put (ci := 14) (C := RX13) (T := TX13) (N := 97) (v := .int y252) (ty := .int) hx hb hts hinX13 tyX13 tyX13_ok nmX13 hown hK hP (WX_D hD) hS hI 0 (Nat.le_of_ble_eq_true rfl) rfl rfl 16 (Nat.le_of_ble_eq_true rfl) (hts _ (vA_in _ _ (in_30 _ (zs16 (zs4 (zs0)))))) (fun _ h9 => h9) rfl (by decide +kernel) rfl rfl (okI rfl (iv_w iy252 (by decide))) dX13_put_40 (fun H locs E253 pw254 hI hP hS => ?_)
                  have hKp := hKp.pw pw254 rfl
                  have k257 : (vp_nar .byte y247).toInt % 256 = y242.toInt := byt_n ey247 ey246 ey241 ey242
                  have k256 := FedM.push pw250 pw254 (vi_e pw192.1) ty252 (by omega) k257
                  have k255 : bysP a0 4 = bysP a0 3 ++ [y242.toInt] := bysP_1 (k := 3) (show ub_by a0 0 = y242 from by rw [← ub_sh 0 (by decide) a0, ey242, ey241]; rfl) c243
                  refine lv_iinc (v := -8) (lv' := [(2, .int (-8)), (0, .ref (ad 0)), (1, .int a0)]) hx hb dX13_put_43 hl (k := 0) rfl (by decide) (by decide) rfl (fun ls hl => ?_)
                  refine lv_goto (tgt := 3) hx hb dX13_put_46 (by decide) ?_
                  refine lv_iload_n hx hb dX13_put_3 rfl (lv_at hl 0 rfl) ?_
                  refine lv_if_lt (tgt := 49) hx hb dX13_put_4 (by decide) (fun c258 => ?_) (fun c258 => ?_)
                  · --4 taken
                    rw [hQ]
                    exact W.vret hx hb hr (fun t ht hW => ⟨⟨E253, rfl, ⟨hI, hKp, ⟨by (try rw [(show xi (E253 0) 16 = y252 from vi_e pw254.1)]); (try rw [ey1]); all_goals omega, by show FedM (bysP a0 4) _ _; rw [k255, k239, k193, k177]; exact ((Fed.rf.tr k194).tr k256)⟩⟩, by show va_P (dC, dI) vwCl (WX 72 ad E253) t.heap; rw [ht]; exact hP⟩, hS.F ht⟩) hS.2.2 dX13_put_49
                  · --4 not
                    exact absurd c258 (by decide)
                · --14 not
                  have t259 : y242.toInt = 0 := ti_eq c243
                  have i260 : 0 ≤ y242.toInt ∧ y242.toInt ≤ 0 := iv_eqi t259 iy242 (il_ 0) (by decide)
                  have b0 : bN (ub_by a0 0) = 0 := bN_0 ((show ub_by a0 0 = y242 from by rw [← ub_sh 0 (by decide) a0, ey242, ey241]; rfl).trans c243)
                  refine lv_goto (tgt := 43) hx hb dX13_put_17 (by decide) ?_
                  have k261 : bysP a0 4 = bysP a0 3 := bysP_0 (k := 3) (show ub_by a0 0 = y242 from by rw [← ub_sh 0 (by decide) a0, ey242, ey241]; rfl) c243
                  refine lv_iinc (v := -8) (lv' := [(2, .int (-8)), (0, .ref (ad 0)), (1, .int a0)]) hx hb dX13_put_43 hl (k := 0) rfl (by decide) (by decide) rfl (fun ls hl => ?_)
                  refine lv_goto (tgt := 3) hx hb dX13_put_46 (by decide) ?_
                  refine lv_iload_n hx hb dX13_put_3 rfl (lv_at hl 0 rfl) ?_
                  refine lv_if_lt (tgt := 49) hx hb dX13_put_4 (by decide) (fun c262 => ?_) (fun c262 => ?_)
                  · --4 taken
                    rw [hQ]
                    exact W.vret hx hb hr (fun t ht hW => ⟨⟨E191, rfl, ⟨hI, hKp, ⟨by (try rw [(show xi (E191 0) 16 = y190 from vi_e pw192.1)]); (try rw [ey1]); all_goals omega, by show FedM (bysP a0 4) _ _; rw [k261, k239, k193, k177]; exact (Fed.rf.tr k194)⟩⟩, by show va_P (dC, dI) vwCl (WX 72 ad E191) t.heap; rw [ht]; exact hP⟩, hS.F ht⟩) hS.2.2 dX13_put_49
                  · --4 not
                    exact absurd c262 (by decide)
        · --14 not
          have t263 : y180.toInt = 0 := ti_eq c181
          have i264 : 0 ≤ y180.toInt ∧ y180.toInt ≤ 0 := iv_eqi t263 iy180 (il_ 0) (by decide)
          have b16 : bN (ub_by a0 16) = 0 := bN_0 ((show ub_by a0 16 = y180 from by rw [← ub_sh 16 (by decide) a0, ey180, ey179]; rfl).trans c181)
          refine lv_goto (tgt := 43) hx hb dX13_put_17 (by decide) ?_
          have k265 : bysP a0 2 = bysP a0 1 := bysP_0 (k := 1) (show ub_by a0 16 = y180 from by rw [← ub_sh 16 (by decide) a0, ey180, ey179]; rfl) c181
          refine lv_iinc (v := 8) (lv' := [(2, .int 8), (0, .ref (ad 0)), (1, .int a0)]) hx hb dX13_put_43 hl (k := 0) rfl (by decide) (by decide) rfl (fun ls hl => ?_)
          refine lv_goto (tgt := 3) hx hb dX13_put_46 (by decide) ?_
          refine lv_iload_n hx hb dX13_put_3 rfl (lv_at hl 0 rfl) ?_
          refine lv_if_lt (tgt := 49) hx hb dX13_put_4 (by decide) (fun c266 => ?_) (fun c266 => ?_)
          · --4 taken
            exact absurd c266 (by decide)
          · --4 not
            refine lv_iload_n hx hb dX13_put_7 rfl (lv_at hl 2 rfl) ?_
            refine lv_iload_n hx hb dX13_put_8 rfl (lv_at hl 0 rfl) ?_
            refine lv_ishr hx hb dX13_put_9 ?_
            refine lv_topi (fun y267 ey267 => ?_)
            refine lv_sipush (v := 255) hx hb dX13_put_10 (by decide) ?_
            refine lv_iand hx hb dX13_put_13 ?_
            refine lv_topi (fun y268 ey268 => ?_)
            have iy268 : 0 ≤ y268.toInt ∧ y268.toInt ≤ 255 := ti_and (by decide) ey268
            refine lv_if_ne (tgt := 20) hx hb dX13_put_14 (by decide) (fun c269 => ?_) (fun c269 => ?_)
            · --14 taken
              have t270 : ¬ y268.toInt = 0 := ti_ne c269
              have i271 : 1 ≤ y268.toInt ∧ y268.toInt ≤ 255 := iv_ne_l t270 iy268 (il_ 0)
              have b8 : bN (ub_by a0 8) = 1 := bN_1 (fun q9 => c269 ((show ub_by a0 8 = y268 from by rw [← ub_sh 8 (by decide) a0, ey268, ey267]; rfl).symm.trans q9))
              refine lv_aload_n hx hb dX13_put_20 rfl (lv_at hl 1 rfl) ?_
              refine th_get (ci := 14) (C := RX13) (T := TX13) (N := 97) (v := .ref (ad 7)) hx hb hts hinX13 hown hK hP hI 0 (Nat.le_of_ble_eq_true rfl) rfl rfl 10 (Nat.le_of_ble_eq_true rfl) (hts _ (vA_in _ _ (in_31 _ (zs16 (zs4 (zs4 (zs4 (zs1 (zs0))))))))) (fun _ h9 => h9) (hI.fr 0 (Nat.le_of_ble_eq_true rfl) rfl (Nat.le_of_ble_eq_true rfl) 7 rfl) dX13_put_21 ?_
              refine lv_aload_n hx hb dX13_put_24 rfl (lv_at hl 1 rfl) ?_
              refine th_get (ci := 14) (C := RX13) (T := TX13) (N := 97) (v := .int y1) hx hb hts hinX13 hown hK hP hI 0 (Nat.le_of_ble_eq_true rfl) rfl rfl 16 (Nat.le_of_ble_eq_true rfl) (hts _ (vA_in _ _ (in_30 _ (zs16 (zs4 (zs0)))))) (fun _ h9 => h9) fy1 dX13_put_25 ?_
              refine lv_iload_n hx hb dX13_put_28 rfl (lv_at hl 2 rfl) ?_
              refine lv_iload_n hx hb dX13_put_29 rfl (lv_at hl 0 rfl) ?_
              refine lv_ishr hx hb dX13_put_30 ?_
              refine lv_topi (fun y272 ey272 => ?_)
              refine lv_i2b hx hb dX13_put_31 rfl ?_
              refine lv_topi (fun y273 ey273 => ?_)
              have iy273 : -128 ≤ y273.toInt ∧ y273.toInt ≤ 127 := iv_i2b ey273
              have i277 : 0 ≤ y1.toInt ∧ y1.toInt ≤ 199 := by omega
              have n274 : vp_in y1 200 := (iv_in (n := 200) i277 (by decide))
              refine th_bast hx hb hK hP (WX_D hD) hS hI 7 (Nat.le_of_ble_eq_true rfl) rfl rfl n274 (okI rfl (iv_nb _)) dX13_put_32 (fun H locs E275 pw276 hI hP hS => ?_)
              have hKp := hKp.pw pw276 rfl
              refine lv_aload_n hx hb dX13_put_33 rfl (lv_at hl 1 rfl) ?_
              refine lv_dup hx hb dX13_put_34 rfl ?_
              refine th_get (ci := 14) (C := RX13) (T := TX13) (N := 97) (v := .int y1) hx hb hts hinX13 hown hK hP hI 0 (Nat.le_of_ble_eq_true rfl) rfl rfl 16 (Nat.le_of_ble_eq_true rfl) (hts _ (vA_in _ _ (in_30 _ (zs16 (zs4 (zs0)))))) (fun _ h9 => h9) ((pw276.2 0 16 (fun q9 => absurd q9.1 (Nat.ne_of_beq_eq_false rfl))).trans fy1) dX13_put_35 ?_
              refine lv_iconst (v := 1) hx hb dX13_put_38 (by decide) ?_
              refine lv_iadd hx hb dX13_put_39 ?_
              refine lv_topi (fun y278 ey278 => ?_)
              obtain ⟨ty278, iy278⟩ := ti_add (e := 1) (f := 200) i277 ln_1 ey278 (by decide)
              have ty278 : y278.toInt = y1.toInt + 1 := ty278
              have iy278 : 1 ≤ y278.toInt ∧ y278.toInt ≤ 200 := iy278
              refine th_put (ci := 14) (C := RX13) (T := TX13) (N := 97) (v := .int y278) (ty := .int) hx hb hts hinX13 tyX13 tyX13_ok nmX13 hown hK hP (WX_D hD) hS hI 0 (Nat.le_of_ble_eq_true rfl) rfl rfl 16 (Nat.le_of_ble_eq_true rfl) (hts _ (vA_in _ _ (in_30 _ (zs16 (zs4 (zs0)))))) (fun _ h9 => h9) rfl (by decide +kernel) rfl rfl (okI rfl (iv_w iy278 (by decide))) dX13_put_40 (fun H locs E279 pw280 hI hP hS => ?_)
              have hKp := hKp.pw pw280 rfl
              have k283 : (vp_nar .byte y273).toInt % 256 = y268.toInt := byt_n ey273 ey272 ey267 ey268
              have k282 := FedM.push pw276 pw280 (vi_e fy1) ty278 (by omega) k283
              have k281 : bysP a0 3 = bysP a0 2 ++ [y268.toInt] := bysP_1 (k := 2) (show ub_by a0 8 = y268 from by rw [← ub_sh 8 (by decide) a0, ey268, ey267]; rfl) c269
              refine lv_iinc (v := 0) (lv' := [(2, .int 0), (0, .ref (ad 0)), (1, .int a0)]) hx hb dX13_put_43 hl (k := 0) rfl (by decide) (by decide) rfl (fun ls hl => ?_)
              refine lv_goto (tgt := 3) hx hb dX13_put_46 (by decide) ?_
              refine lv_iload_n hx hb dX13_put_3 rfl (lv_at hl 0 rfl) ?_
              refine lv_if_lt (tgt := 49) hx hb dX13_put_4 (by decide) (fun c284 => ?_) (fun c284 => ?_)
              · --4 taken
                exact absurd c284 (by decide)
              · --4 not
                refine lv_iload_n hx hb dX13_put_7 rfl (lv_at hl 2 rfl) ?_
                refine lv_iload_n hx hb dX13_put_8 rfl (lv_at hl 0 rfl) ?_
                refine lv_ishr hx hb dX13_put_9 ?_
                refine lv_topi (fun y285 ey285 => ?_)
                refine lv_sipush (v := 255) hx hb dX13_put_10 (by decide) ?_
                refine lv_iand hx hb dX13_put_13 ?_
                refine lv_topi (fun y286 ey286 => ?_)
                have iy286 : 0 ≤ y286.toInt ∧ y286.toInt ≤ 255 := ti_and (by decide) ey286
                refine lv_if_ne (tgt := 20) hx hb dX13_put_14 (by decide) (fun c287 => ?_) (fun c287 => ?_)
                · --14 taken
                  have t288 : ¬ y286.toInt = 0 := ti_ne c287
                  have i289 : 1 ≤ y286.toInt ∧ y286.toInt ≤ 255 := iv_ne_l t288 iy286 (il_ 0)
                  have b0 : bN (ub_by a0 0) = 1 := bN_1 (fun q9 => c287 ((show ub_by a0 0 = y286 from by rw [← ub_sh 0 (by decide) a0, ey286, ey285]; rfl).symm.trans q9))
                  refine lv_aload_n hx hb dX13_put_20 rfl (lv_at hl 1 rfl) ?_
                  refine th_get (ci := 14) (C := RX13) (T := TX13) (N := 97) (v := .ref (ad 7)) hx hb hts hinX13 hown hK hP hI 0 (Nat.le_of_ble_eq_true rfl) rfl rfl 10 (Nat.le_of_ble_eq_true rfl) (hts _ (vA_in _ _ (in_31 _ (zs16 (zs4 (zs4 (zs4 (zs1 (zs0))))))))) (fun _ h9 => h9) (hI.fr 0 (Nat.le_of_ble_eq_true rfl) rfl (Nat.le_of_ble_eq_true rfl) 7 rfl) dX13_put_21 ?_
                  refine lv_aload_n hx hb dX13_put_24 rfl (lv_at hl 1 rfl) ?_
                  refine th_get (ci := 14) (C := RX13) (T := TX13) (N := 97) (v := .int y278) hx hb hts hinX13 hown hK hP hI 0 (Nat.le_of_ble_eq_true rfl) rfl rfl 16 (Nat.le_of_ble_eq_true rfl) (hts _ (vA_in _ _ (in_30 _ (zs16 (zs4 (zs0)))))) (fun _ h9 => h9) pw280.1 dX13_put_25 ?_
                  refine lv_iload_n hx hb dX13_put_28 rfl (lv_at hl 2 rfl) ?_
                  refine lv_iload_n hx hb dX13_put_29 rfl (lv_at hl 0 rfl) ?_
                  refine lv_ishr hx hb dX13_put_30 ?_
                  refine lv_topi (fun y290 ey290 => ?_)
                  refine lv_i2b hx hb dX13_put_31 rfl ?_
                  refine lv_topi (fun y291 ey291 => ?_)
                  have iy291 : -128 ≤ y291.toInt ∧ y291.toInt ≤ 127 := iv_i2b ey291
                  have i295 : 1 ≤ y278.toInt ∧ y278.toInt ≤ 199 := by omega
                  have n292 : vp_in y278 200 := (iv_in (n := 200) i295 (by decide))
                  refine th_bast hx hb hK hP (WX_D hD) hS hI 7 (Nat.le_of_ble_eq_true rfl) rfl rfl n292 (okI rfl (iv_nb _)) dX13_put_32 (fun H locs E293 pw294 hI hP hS => ?_)
                  have hKp := hKp.pw pw294 rfl
                  refine lv_aload_n hx hb dX13_put_33 rfl (lv_at hl 1 rfl) ?_
                  refine lv_dup hx hb dX13_put_34 rfl ?_
                  refine th_get (ci := 14) (C := RX13) (T := TX13) (N := 97) (v := .int y278) hx hb hts hinX13 hown hK hP hI 0 (Nat.le_of_ble_eq_true rfl) rfl rfl 16 (Nat.le_of_ble_eq_true rfl) (hts _ (vA_in _ _ (in_30 _ (zs16 (zs4 (zs0)))))) (fun _ h9 => h9) ((pw294.2 0 16 (fun q9 => absurd q9.1 (Nat.ne_of_beq_eq_false rfl))).trans pw280.1) dX13_put_35 ?_
                  refine lv_iconst (v := 1) hx hb dX13_put_38 (by decide) ?_
                  refine lv_iadd hx hb dX13_put_39 ?_
                  refine lv_topi (fun y296 ey296 => ?_)
                  obtain ⟨ty296, iy296⟩ := ti_add (e := 2) (f := 200) i295 ln_1 ey296 (by decide)
                  have ty296 : y296.toInt = y278.toInt + 1 := ty296
                  have iy296 : 2 ≤ y296.toInt ∧ y296.toInt ≤ 200 := iy296
                  refine th_put (ci := 14) (C := RX13) (T := TX13) (N := 97) (v := .int y296) (ty := .int) hx hb hts hinX13 tyX13 tyX13_ok nmX13 hown hK hP (WX_D hD) hS hI 0 (Nat.le_of_ble_eq_true rfl) rfl rfl 16 (Nat.le_of_ble_eq_true rfl) (hts _ (vA_in _ _ (in_30 _ (zs16 (zs4 (zs0)))))) (fun _ h9 => h9) rfl (by decide +kernel) rfl rfl (okI rfl (iv_w iy296 (by decide))) dX13_put_40 (fun H locs E297 pw298 hI hP hS => ?_)
                  have hKp := hKp.pw pw298 rfl
                  have k301 : (vp_nar .byte y291).toInt % 256 = y286.toInt := byt_n ey291 ey290 ey285 ey286
                  have k300 := FedM.push pw294 pw298 (vi_e pw280.1) ty296 (by omega) k301
                  have k299 : bysP a0 4 = bysP a0 3 ++ [y286.toInt] := bysP_1 (k := 3) (show ub_by a0 0 = y286 from by rw [← ub_sh 0 (by decide) a0, ey286, ey285]; rfl) c287
                  refine lv_iinc (v := -8) (lv' := [(2, .int (-8)), (0, .ref (ad 0)), (1, .int a0)]) hx hb dX13_put_43 hl (k := 0) rfl (by decide) (by decide) rfl (fun ls hl => ?_)
                  refine lv_goto (tgt := 3) hx hb dX13_put_46 (by decide) ?_
                  refine lv_iload_n hx hb dX13_put_3 rfl (lv_at hl 0 rfl) ?_
                  refine lv_if_lt (tgt := 49) hx hb dX13_put_4 (by decide) (fun c302 => ?_) (fun c302 => ?_)
                  · --4 taken
                    rw [hQ]
                    exact W.vret hx hb hr (fun t ht hW => ⟨⟨E297, rfl, ⟨hI, hKp, ⟨by (try rw [(show xi (E297 0) 16 = y296 from vi_e pw298.1)]); (try rw [ey1]); all_goals omega, by show FedM (bysP a0 4) _ _; rw [k299, k281, k265, k177]; exact ((Fed.rf.tr k282).tr k300)⟩⟩, by show va_P (dC, dI) vwCl (WX 72 ad E297) t.heap; rw [ht]; exact hP⟩, hS.F ht⟩) hS.2.2 dX13_put_49
                  · --4 not
                    exact absurd c302 (by decide)
                · --14 not
                  have t303 : y286.toInt = 0 := ti_eq c287
                  have i304 : 0 ≤ y286.toInt ∧ y286.toInt ≤ 0 := iv_eqi t303 iy286 (il_ 0) (by decide)
                  have b0 : bN (ub_by a0 0) = 0 := bN_0 ((show ub_by a0 0 = y286 from by rw [← ub_sh 0 (by decide) a0, ey286, ey285]; rfl).trans c287)
                  refine lv_goto (tgt := 43) hx hb dX13_put_17 (by decide) ?_
                  have k305 : bysP a0 4 = bysP a0 3 := bysP_0 (k := 3) (show ub_by a0 0 = y286 from by rw [← ub_sh 0 (by decide) a0, ey286, ey285]; rfl) c287
                  refine lv_iinc (v := -8) (lv' := [(2, .int (-8)), (0, .ref (ad 0)), (1, .int a0)]) hx hb dX13_put_43 hl (k := 0) rfl (by decide) (by decide) rfl (fun ls hl => ?_)
                  refine lv_goto (tgt := 3) hx hb dX13_put_46 (by decide) ?_
                  refine lv_iload_n hx hb dX13_put_3 rfl (lv_at hl 0 rfl) ?_
                  refine lv_if_lt (tgt := 49) hx hb dX13_put_4 (by decide) (fun c306 => ?_) (fun c306 => ?_)
                  · --4 taken
                    rw [hQ]
                    exact W.vret hx hb hr (fun t ht hW => ⟨⟨E279, rfl, ⟨hI, hKp, ⟨by (try rw [(show xi (E279 0) 16 = y278 from vi_e pw280.1)]); (try rw [ey1]); all_goals omega, by show FedM (bysP a0 4) _ _; rw [k305, k281, k265, k177]; exact (Fed.rf.tr k282)⟩⟩, by show va_P (dC, dI) vwCl (WX 72 ad E279) t.heap; rw [ht]; exact hP⟩, hS.F ht⟩) hS.2.2 dX13_put_49
                  · --4 not
                    exact absurd c306 (by decide)
            · --14 not
              have t307 : y268.toInt = 0 := ti_eq c269
              have i308 : 0 ≤ y268.toInt ∧ y268.toInt ≤ 0 := iv_eqi t307 iy268 (il_ 0) (by decide)
              have b8 : bN (ub_by a0 8) = 0 := bN_0 ((show ub_by a0 8 = y268 from by rw [← ub_sh 8 (by decide) a0, ey268, ey267]; rfl).trans c269)
              refine lv_goto (tgt := 43) hx hb dX13_put_17 (by decide) ?_
              have k309 : bysP a0 3 = bysP a0 2 := bysP_0 (k := 2) (show ub_by a0 8 = y268 from by rw [← ub_sh 8 (by decide) a0, ey268, ey267]; rfl) c269
              refine lv_iinc (v := 0) (lv' := [(2, .int 0), (0, .ref (ad 0)), (1, .int a0)]) hx hb dX13_put_43 hl (k := 0) rfl (by decide) (by decide) rfl (fun ls hl => ?_)
              refine lv_goto (tgt := 3) hx hb dX13_put_46 (by decide) ?_
              refine lv_iload_n hx hb dX13_put_3 rfl (lv_at hl 0 rfl) ?_
              refine lv_if_lt (tgt := 49) hx hb dX13_put_4 (by decide) (fun c310 => ?_) (fun c310 => ?_)
              · --4 taken
                exact absurd c310 (by decide)
              · --4 not
                refine lv_iload_n hx hb dX13_put_7 rfl (lv_at hl 2 rfl) ?_
                refine lv_iload_n hx hb dX13_put_8 rfl (lv_at hl 0 rfl) ?_
                refine lv_ishr hx hb dX13_put_9 ?_
                refine lv_topi (fun y311 ey311 => ?_)
                refine lv_sipush (v := 255) hx hb dX13_put_10 (by decide) ?_
                refine lv_iand hx hb dX13_put_13 ?_
                refine lv_topi (fun y312 ey312 => ?_)
                have iy312 : 0 ≤ y312.toInt ∧ y312.toInt ≤ 255 := ti_and (by decide) ey312
                refine lv_if_ne (tgt := 20) hx hb dX13_put_14 (by decide) (fun c313 => ?_) (fun c313 => ?_)
                · --14 taken
                  have t314 : ¬ y312.toInt = 0 := ti_ne c313
                  have i315 : 1 ≤ y312.toInt ∧ y312.toInt ≤ 255 := iv_ne_l t314 iy312 (il_ 0)
                  have b0 : bN (ub_by a0 0) = 1 := bN_1 (fun q9 => c313 ((show ub_by a0 0 = y312 from by rw [← ub_sh 0 (by decide) a0, ey312, ey311]; rfl).symm.trans q9))
                  refine lv_aload_n hx hb dX13_put_20 rfl (lv_at hl 1 rfl) ?_
                  refine th_get (ci := 14) (C := RX13) (T := TX13) (N := 97) (v := .ref (ad 7)) hx hb hts hinX13 hown hK hP hI 0 (Nat.le_of_ble_eq_true rfl) rfl rfl 10 (Nat.le_of_ble_eq_true rfl) (hts _ (vA_in _ _ (in_31 _ (zs16 (zs4 (zs4 (zs4 (zs1 (zs0))))))))) (fun _ h9 => h9) (hI.fr 0 (Nat.le_of_ble_eq_true rfl) rfl (Nat.le_of_ble_eq_true rfl) 7 rfl) dX13_put_21 ?_
                  refine lv_aload_n hx hb dX13_put_24 rfl (lv_at hl 1 rfl) ?_
                  refine th_get (ci := 14) (C := RX13) (T := TX13) (N := 97) (v := .int y1) hx hb hts hinX13 hown hK hP hI 0 (Nat.le_of_ble_eq_true rfl) rfl rfl 16 (Nat.le_of_ble_eq_true rfl) (hts _ (vA_in _ _ (in_30 _ (zs16 (zs4 (zs0)))))) (fun _ h9 => h9) fy1 dX13_put_25 ?_
                  refine lv_iload_n hx hb dX13_put_28 rfl (lv_at hl 2 rfl) ?_
                  refine lv_iload_n hx hb dX13_put_29 rfl (lv_at hl 0 rfl) ?_
                  refine lv_ishr hx hb dX13_put_30 ?_
                  refine lv_topi (fun y316 ey316 => ?_)
                  refine lv_i2b hx hb dX13_put_31 rfl ?_
                  refine lv_topi (fun y317 ey317 => ?_)
                  have iy317 : -128 ≤ y317.toInt ∧ y317.toInt ≤ 127 := iv_i2b ey317
                  have i321 : 0 ≤ y1.toInt ∧ y1.toInt ≤ 199 := by omega
                  have n318 : vp_in y1 200 := (iv_in (n := 200) i321 (by decide))
                  refine th_bast hx hb hK hP (WX_D hD) hS hI 7 (Nat.le_of_ble_eq_true rfl) rfl rfl n318 (okI rfl (iv_nb _)) dX13_put_32 (fun H locs E319 pw320 hI hP hS => ?_)
                  have hKp := hKp.pw pw320 rfl
                  refine lv_aload_n hx hb dX13_put_33 rfl (lv_at hl 1 rfl) ?_
                  refine lv_dup hx hb dX13_put_34 rfl ?_
                  refine th_get (ci := 14) (C := RX13) (T := TX13) (N := 97) (v := .int y1) hx hb hts hinX13 hown hK hP hI 0 (Nat.le_of_ble_eq_true rfl) rfl rfl 16 (Nat.le_of_ble_eq_true rfl) (hts _ (vA_in _ _ (in_30 _ (zs16 (zs4 (zs0)))))) (fun _ h9 => h9) ((pw320.2 0 16 (fun q9 => absurd q9.1 (Nat.ne_of_beq_eq_false rfl))).trans fy1) dX13_put_35 ?_
                  refine lv_iconst (v := 1) hx hb dX13_put_38 (by decide) ?_
                  refine lv_iadd hx hb dX13_put_39 ?_
                  refine lv_topi (fun y322 ey322 => ?_)
                  obtain ⟨ty322, iy322⟩ := ti_add (e := 1) (f := 200) i321 ln_1 ey322 (by decide)
                  have ty322 : y322.toInt = y1.toInt + 1 := ty322
                  have iy322 : 1 ≤ y322.toInt ∧ y322.toInt ≤ 200 := iy322
                  refine th_put (ci := 14) (C := RX13) (T := TX13) (N := 97) (v := .int y322) (ty := .int) hx hb hts hinX13 tyX13 tyX13_ok nmX13 hown hK hP (WX_D hD) hS hI 0 (Nat.le_of_ble_eq_true rfl) rfl rfl 16 (Nat.le_of_ble_eq_true rfl) (hts _ (vA_in _ _ (in_30 _ (zs16 (zs4 (zs0)))))) (fun _ h9 => h9) rfl (by decide +kernel) rfl rfl (okI rfl (iv_w iy322 (by decide))) dX13_put_40 (fun H locs E323 pw324 hI hP hS => ?_)
                  have hKp := hKp.pw pw324 rfl
                  have k327 : (vp_nar .byte y317).toInt % 256 = y312.toInt := byt_n ey317 ey316 ey311 ey312
                  have k326 := FedM.push pw320 pw324 (vi_e fy1) ty322 (by omega) k327
                  have k325 : bysP a0 4 = bysP a0 3 ++ [y312.toInt] := bysP_1 (k := 3) (show ub_by a0 0 = y312 from by rw [← ub_sh 0 (by decide) a0, ey312, ey311]; rfl) c313
                  refine lv_iinc (v := -8) (lv' := [(2, .int (-8)), (0, .ref (ad 0)), (1, .int a0)]) hx hb dX13_put_43 hl (k := 0) rfl (by decide) (by decide) rfl (fun ls hl => ?_)
                  refine lv_goto (tgt := 3) hx hb dX13_put_46 (by decide) ?_
                  refine lv_iload_n hx hb dX13_put_3 rfl (lv_at hl 0 rfl) ?_
                  refine lv_if_lt (tgt := 49) hx hb dX13_put_4 (by decide) (fun c328 => ?_) (fun c328 => ?_)
                  · --4 taken
                    rw [hQ]
                    exact W.vret hx hb hr (fun t ht hW => ⟨⟨E323, rfl, ⟨hI, hKp, ⟨by (try rw [(show xi (E323 0) 16 = y322 from vi_e pw324.1)]); (try rw [ey1]); all_goals omega, by show FedM (bysP a0 4) _ _; rw [k325, k309, k265, k177]; exact (Fed.rf.tr k326)⟩⟩, by show va_P (dC, dI) vwCl (WX 72 ad E323) t.heap; rw [ht]; exact hP⟩, hS.F ht⟩) hS.2.2 dX13_put_49
                  · --4 not
                    exact absurd c328 (by decide)
                · --14 not
                  have t329 : y312.toInt = 0 := ti_eq c313
                  have i330 : 0 ≤ y312.toInt ∧ y312.toInt ≤ 0 := iv_eqi t329 iy312 (il_ 0) (by decide)
                  have b0 : bN (ub_by a0 0) = 0 := bN_0 ((show ub_by a0 0 = y312 from by rw [← ub_sh 0 (by decide) a0, ey312, ey311]; rfl).trans c313)
                  refine lv_goto (tgt := 43) hx hb dX13_put_17 (by decide) ?_
                  have k331 : bysP a0 4 = bysP a0 3 := bysP_0 (k := 3) (show ub_by a0 0 = y312 from by rw [← ub_sh 0 (by decide) a0, ey312, ey311]; rfl) c313
                  refine lv_iinc (v := -8) (lv' := [(2, .int (-8)), (0, .ref (ad 0)), (1, .int a0)]) hx hb dX13_put_43 hl (k := 0) rfl (by decide) (by decide) rfl (fun ls hl => ?_)
                  refine lv_goto (tgt := 3) hx hb dX13_put_46 (by decide) ?_
                  refine lv_iload_n hx hb dX13_put_3 rfl (lv_at hl 0 rfl) ?_
                  refine lv_if_lt (tgt := 49) hx hb dX13_put_4 (by decide) (fun c332 => ?_) (fun c332 => ?_)
                  · --4 taken
                    rw [hQ]
                    exact W.vret hx hb hr (fun t ht hW => ⟨⟨E, rfl, ⟨hI, hKp, ⟨by (try rw [(show xi (E 0) 16 = y1 from vi_e fy1)]); (try rw [ey1]); all_goals omega, by show FedM (bysP a0 4) _ _; rw [k331, k309, k265, k177]; exact Fed.rf⟩⟩, by show va_P (dC, dI) vwCl (WX 72 ad E) t.heap; rw [ht]; exact hP⟩, hS.F ht⟩) hS.2.2 dX13_put_49
                  · --4 not
                    exact absurd c332 (by decide)
def v_feedX : List Cond := .code yX13_feed cX13_feed 6 (some .int) :: vA
abbrev rm_feedX : Room := { frames := 1, cells := 0, slots := 0, locals := 40 }
def w_feedX : Nat → Nat → Bool := wl [7] [(0, 0), (0, 16)]
set_option maxHeartbeats 4000000 in
set_option maxRecDepth 100000 in
theorem q_feedX (l : Launch) (dC : Nat → ClassId) (dI : Nat → Nat → Nat) (cT : Nat → ClassId) (ad : Nat → Nat) (E : Nat → va_E) (sz : Nat) (a1 : Int32) (a2 : Int32) (a3 : Int32) (a4 : Int32) (a5 : Int32) (hI0 : IX cT shM spM 72 ad E)  : Met l yX13_feed v_feedX rm_feedX (va_Pc [.ref (ad 0), .int a1, .int a2, .int a3, .int a4, .int a5] (HW dC dI (TYM cT) 72 ad E sz)) (va_Qi (S := Nat → va_E) (fun r u => IX cT shM spM 72 ad u ∧ Kp w_feedX E u ∧ ((r = -1 ∧ (¬ ((xi (E 0) 16).toInt + ((nbN a1 : Int) + (nbN a2 : Int) + (nbN a3 : Int) + (nbN a4 : Int) + (nbN a5 : Int)) ≤ 200)) ∧ (FedM [] E u)) ∨ ((0 ≤ r.toInt ∧ r.toInt ≤ 200) ∧ ((xi (E 0) 16).toInt + ((nbN a1 : Int) + (nbN a2 : Int) + (nbN a3 : Int) + (nbN a4 : Int) + (nbN a5 : Int)) ≤ 200) ∧ (r.toInt = (xi (u 0) 16).toInt) ∧ (FedM (bys a1 ++ bys a2 ++ bys a3 ++ bys a4 ++ bys a5) E u)))) (HB dC dI 72 ad) (va_A (WX 72 ad E) sz)) 0 0 (va_A (WX 72 ad E) sz) := by
  refine Met.ofW (cc := cX13_feed) (maxL := 6) (ret := (some .int)) (by decide) rfl ?_
  intro p e s m args below meth c s₁ B hml hv
  obtain ⟨hargs, hsz, hP, hK, hD0, hEV⟩ := hv
  subst hsz
  have hx := B.exec
  have hb := B.bytes
  have hr := B.returns
  have hts := atoms_spec (ws := v_feedX) B.pre
  have hown : s.vm.findClass RX13 = some m.cls := findClass_of_methodNamed B.named
  have hlocks := B.notSynchronized
  have hinX13 : ∀ w ∈ u_ws RX13 TX13 97, w ∈ v_feedX := fun w h => vA_in _ w (in_X13 w h)
  generalize hAe : va_A (WX 72 ad E) s.heap.size = A at hEV ⊢
  have hA : ∀ q : Nat, s.heap.size ≤ q → A q := fun q h => by rw [← hAe]; exact Or.inr h
  have hD : va_D A (WX 72 ad E) := by rw [← hAe]; exact hD0.self
  have hS : va_S A s.heap s.heap [] := va_S.rf
  have hI := hI0
  have hKp : Kp w_feedX E E := Kp.rf
  have hl := lv_entry ([.ref (ad 0), .int a1, .int a2, .int a3, .int a4, .int a5]) (n := 6) (Nat.le_of_ble_eq_true rfl)
  obtain ⟨Q, hQ⟩ : ∃ Q, Q = MQ below (va_Qi (S := Nat → va_E) (fun r u => IX cT shM spM 72 ad u ∧ Kp w_feedX E u ∧ ((r = -1 ∧ (¬ ((xi (E 0) 16).toInt + ((nbN a1 : Int) + (nbN a2 : Int) + (nbN a3 : Int) + (nbN a4 : Int) + (nbN a5 : Int)) ≤ 200)) ∧ (FedM [] E u)) ∨ ((0 ≤ r.toInt ∧ r.toInt ≤ 200) ∧ ((xi (E 0) 16).toInt + ((nbN a1 : Int) + (nbN a2 : Int) + (nbN a3 : Int) + (nbN a4 : Int) + (nbN a5 : Int)) ≤ 200) ∧ (r.toInt = (xi (u 0) 16).toInt) ∧ (FedM (bys a1 ++ bys a2 ++ bys a3 ++ bys a4 ++ bys a5) E u)))) (HB dC dI 72 ad) (A)) args s 0 0 (A) := ⟨_, rfl⟩
  rw [← hQ, show entryFrame m args 6 = _ from (congrArg (fun z => entryFrame m z 6) hargs).trans (lg_entry_eq _ _ _)]
  generalize (lg_sl ([.ref (ad 0), .int a1, .int a2, .int a3, .int a4, .int a5]) ++ List.replicate (6 - (lg_sl ([.ref (ad 0), .int a1, .int a2, .int a3, .int a4, .int a5])).length) Slot.unset).toArray = ls at hl ⊢
  have hl : lv_has ls 6 [(0, .ref (ad 0)), (1, .int a1), (2, .int a2), (3, .int a3), (4, .int a4), (5, .int a5)] := hl
  obtain ⟨y1, ey1⟩ : ∃ y, xi (E 0) 16 = y := ⟨_, rfl⟩
  have fy1 : xv (E 0) 16 = .int y1 := (hI.fi 0 (Nat.le_of_ble_eq_true rfl) rfl (Nat.le_of_ble_eq_true rfl) rfl).trans (congrArg Value.int ey1)
  have iy1 : 0 ≤ y1.toInt ∧ y1.toInt ≤ 200 := by rw [← ey1]; exact hI.iv 0 (Nat.le_of_ble_eq_true rfl) rfl (Nat.le_of_ble_eq_true rfl) rfl
  refine lv_aload_n hx hb dX13_feed_0 rfl (lv_at hl 0 rfl) ?_
  refine lv_iconst (v := 0) hx hb dX13_feed_1 (by decide) ?_
  refine th_put (ci := 14) (C := RX13) (T := TX13) (N := 97) (v := .int 0) (ty := .int) hx hb hts hinX13 tyX13 tyX13_ok nmX13 hown hK hP (WX_D hD) hS hI 0 (Nat.le_of_ble_eq_true rfl) rfl rfl 0 (Nat.le_of_ble_eq_true rfl) (hts _ (vA_in _ _ (in_24 _ (zs4 (zs4 (zs1 (zs1 (zs0)))))))) (fun _ h9 => h9) rfl (by decide +kernel) rfl rfl (okI rfl (iv_w ln_0 (by decide))) dX13_feed_2 (fun H locs E2 pw3 hI hP hS => ?_)
  have hKp := hKp.pw pw3 rfl
  refine lv_aload_n hx hb dX13_feed_5 rfl (lv_at hl 0 rfl) ?_
  refine th_get (ci := 14) (C := RX13) (T := TX13) (N := 97) (v := .int y1) hx hb hts hinX13 hown hK hP hI 0 (Nat.le_of_ble_eq_true rfl) rfl rfl 16 (Nat.le_of_ble_eq_true rfl) (hts _ (vA_in _ _ (in_30 _ (zs16 (zs4 (zs0)))))) (fun _ h9 => h9) ((pw3.2 0 16 (fun q9 => absurd q9.2 (Nat.ne_of_beq_eq_false rfl))).trans fy1) dX13_feed_6 ?_
  refine lv_iload_n hx hb dX13_feed_9 rfl (lv_at hl 1 rfl) ?_
  refine th_pi (va_runS (As := [.int a1]) (rest := [.int y1]) ⟨hx, hb, hml, hown, hts⟩ (q_bytesIn l a1) (va_cwS 1 hts (gi_S (in_31 _ (zs16 (zs4 (zs4 (zs4 (zs1 (zs1 (zs1 (zs0))))))))) (in_31 _ (zs16 (zs16 (zs0)))) (in_24 _ (zs4 (zs4 (zs4 (zs1 (zs1 (zs1 (zs0)))))))) (in_27 _ (zs4 (zs1 (zs1 (zs1 (zs0))))))) rfl rfl rfl hz_yX13_bytesIn_1 ⟨Nat.le_of_ble_eq_true rfl, Nat.le_of_ble_eq_true rfl⟩) ⟨fun _ _ _ _ q => q, fun _ _ _ => ⟨rfl, trivial⟩⟩ rfl rfl hl.1 rfl (lv_room (Nat.le_of_ble_eq_true rfl)) dX13_feed_10 ⟨Nat.le_of_ble_eq_true rfl, Nat.le_of_ble_eq_true rfl⟩) hS (fun r4 H1 locs1 hw hk1 hS => ?_)
  have hP := ub_keep hP hk1
  generalize H1 = H at hP hS ⊢
  generalize locs1 = locs at hS ⊢
  obtain ⟨f5, f6⟩ := hw
  refine lv_iadd hx hb dX13_feed_13 ?_
  refine lv_topi (fun y7 ey7 => ?_)
  obtain ⟨ty7, iy7⟩ := ti_add (e := 0) (f := 204) iy1 f5 ey7 (by decide)
  have ty7 : y7.toInt = y1.toInt + r4.toInt := ty7
  have iy7 : 0 ≤ y7.toInt ∧ y7.toInt ≤ 204 := iy7
  refine lv_iload_n hx hb dX13_feed_14 rfl (lv_at hl 2 rfl) ?_
  refine th_pi (va_runS (As := [.int a2]) (rest := [.int y7]) ⟨hx, hb, hml, hown, hts⟩ (q_bytesIn l a2) (va_cwS 1 hts (gi_S (in_31 _ (zs16 (zs4 (zs4 (zs4 (zs1 (zs1 (zs1 (zs0))))))))) (in_31 _ (zs16 (zs16 (zs0)))) (in_24 _ (zs4 (zs4 (zs4 (zs1 (zs1 (zs1 (zs0)))))))) (in_27 _ (zs4 (zs1 (zs1 (zs1 (zs0))))))) rfl rfl rfl hz_yX13_bytesIn_1 ⟨Nat.le_of_ble_eq_true rfl, Nat.le_of_ble_eq_true rfl⟩) ⟨fun _ _ _ _ q => q, fun _ _ _ => ⟨rfl, trivial⟩⟩ rfl rfl hl.1 rfl (lv_room (Nat.le_of_ble_eq_true rfl)) dX13_feed_15 ⟨Nat.le_of_ble_eq_true rfl, Nat.le_of_ble_eq_true rfl⟩) hS (fun r8 H1 locs1 hw hk1 hS => ?_)
  have hP := ub_keep hP hk1
  generalize H1 = H at hP hS ⊢
  generalize locs1 = locs at hS ⊢
  obtain ⟨f9, f10⟩ := hw
  refine lv_iadd hx hb dX13_feed_18 ?_
  refine lv_topi (fun y11 ey11 => ?_)
  obtain ⟨ty11, iy11⟩ := ti_add (e := 0) (f := 208) iy7 f9 ey11 (by decide)
  have ty11 : y11.toInt = y7.toInt + r8.toInt := ty11
  have iy11 : 0 ≤ y11.toInt ∧ y11.toInt ≤ 208 := iy11
  refine lv_iload_n hx hb dX13_feed_19 rfl (lv_at hl 3 rfl) ?_
  refine th_pi (va_runS (As := [.int a3]) (rest := [.int y11]) ⟨hx, hb, hml, hown, hts⟩ (q_bytesIn l a3) (va_cwS 1 hts (gi_S (in_31 _ (zs16 (zs4 (zs4 (zs4 (zs1 (zs1 (zs1 (zs0))))))))) (in_31 _ (zs16 (zs16 (zs0)))) (in_24 _ (zs4 (zs4 (zs4 (zs1 (zs1 (zs1 (zs0)))))))) (in_27 _ (zs4 (zs1 (zs1 (zs1 (zs0))))))) rfl rfl rfl hz_yX13_bytesIn_1 ⟨Nat.le_of_ble_eq_true rfl, Nat.le_of_ble_eq_true rfl⟩) ⟨fun _ _ _ _ q => q, fun _ _ _ => ⟨rfl, trivial⟩⟩ rfl rfl hl.1 rfl (lv_room (Nat.le_of_ble_eq_true rfl)) dX13_feed_20 ⟨Nat.le_of_ble_eq_true rfl, Nat.le_of_ble_eq_true rfl⟩) hS (fun r12 H1 locs1 hw hk1 hS => ?_)
  have hP := ub_keep hP hk1
  generalize H1 = H at hP hS ⊢
  generalize locs1 = locs at hS ⊢
  obtain ⟨f13, f14⟩ := hw
  refine lv_iadd hx hb dX13_feed_23 ?_
  refine lv_topi (fun y15 ey15 => ?_)
  obtain ⟨ty15, iy15⟩ := ti_add (e := 0) (f := 212) iy11 f13 ey15 (by decide)
  have ty15 : y15.toInt = y11.toInt + r12.toInt := ty15
  have iy15 : 0 ≤ y15.toInt ∧ y15.toInt ≤ 212 := iy15
  refine lv_iload hx hb dX13_feed_24 (lv_at hl 4 rfl) ?_
  refine th_pi (va_runS (As := [.int a4]) (rest := [.int y15]) ⟨hx, hb, hml, hown, hts⟩ (q_bytesIn l a4) (va_cwS 1 hts (gi_S (in_31 _ (zs16 (zs4 (zs4 (zs4 (zs1 (zs1 (zs1 (zs0))))))))) (in_31 _ (zs16 (zs16 (zs0)))) (in_24 _ (zs4 (zs4 (zs4 (zs1 (zs1 (zs1 (zs0)))))))) (in_27 _ (zs4 (zs1 (zs1 (zs1 (zs0))))))) rfl rfl rfl hz_yX13_bytesIn_1 ⟨Nat.le_of_ble_eq_true rfl, Nat.le_of_ble_eq_true rfl⟩) ⟨fun _ _ _ _ q => q, fun _ _ _ => ⟨rfl, trivial⟩⟩ rfl rfl hl.1 rfl (lv_room (Nat.le_of_ble_eq_true rfl)) dX13_feed_26 ⟨Nat.le_of_ble_eq_true rfl, Nat.le_of_ble_eq_true rfl⟩) hS (fun r16 H1 locs1 hw hk1 hS => ?_)
  have hP := ub_keep hP hk1
  generalize H1 = H at hP hS ⊢
  generalize locs1 = locs at hS ⊢
  obtain ⟨f17, f18⟩ := hw
  refine lv_iadd hx hb dX13_feed_29 ?_
  refine lv_topi (fun y19 ey19 => ?_)
  obtain ⟨ty19, iy19⟩ := ti_add (e := 0) (f := 216) iy15 f17 ey19 (by decide)
  have ty19 : y19.toInt = y15.toInt + r16.toInt := ty19
  have iy19 : 0 ≤ y19.toInt ∧ y19.toInt ≤ 216 := iy19
  refine lv_iload hx hb dX13_feed_30 (lv_at hl 5 rfl) ?_
  refine th_pi (va_runS (As := [.int a5]) (rest := [.int y19]) ⟨hx, hb, hml, hown, hts⟩ (q_bytesIn l a5) (va_cwS 1 hts (gi_S (in_31 _ (zs16 (zs4 (zs4 (zs4 (zs1 (zs1 (zs1 (zs0))))))))) (in_31 _ (zs16 (zs16 (zs0)))) (in_24 _ (zs4 (zs4 (zs4 (zs1 (zs1 (zs1 (zs0)))))))) (in_27 _ (zs4 (zs1 (zs1 (zs1 (zs0))))))) rfl rfl rfl hz_yX13_bytesIn_1 ⟨Nat.le_of_ble_eq_true rfl, Nat.le_of_ble_eq_true rfl⟩) ⟨fun _ _ _ _ q => q, fun _ _ _ => ⟨rfl, trivial⟩⟩ rfl rfl hl.1 rfl (lv_room (Nat.le_of_ble_eq_true rfl)) dX13_feed_32 ⟨Nat.le_of_ble_eq_true rfl, Nat.le_of_ble_eq_true rfl⟩) hS (fun r20 H1 locs1 hw hk1 hS => ?_)
  have hP := ub_keep hP hk1
  generalize H1 = H at hP hS ⊢
  generalize locs1 = locs at hS ⊢
  obtain ⟨f21, f22⟩ := hw
  refine lv_iadd hx hb dX13_feed_35 ?_
  refine lv_topi (fun y23 ey23 => ?_)
  obtain ⟨ty23, iy23⟩ := ti_add (e := 0) (f := 220) iy19 f21 ey23 (by decide)
  have ty23 : y23.toInt = y19.toInt + r20.toInt := ty23
  have iy23 : 0 ≤ y23.toInt ∧ y23.toInt ≤ 220 := iy23
  refine lv_sipush (v := 200) hx hb dX13_feed_36 (by decide) ?_
  refine lv_icmp_le (tgt := 44) hx hb dX13_feed_39 (by decide) (fun c24 => ?_) (fun c24 => ?_)
  · --39 taken
    have t25 : y23.toInt ≤ 200 := ti_le c24
    have i26 : 0 ≤ y23.toInt ∧ y23.toInt ≤ 200 := iv_le_l t25 iy23 (il_ 200) (by decide)
    refine lv_aload_n hx hb dX13_feed_44 rfl (lv_at hl 0 rfl) ?_
    refine lv_iload_n hx hb dX13_feed_45 rfl (lv_at hl 1 rfl) ?_
    refine th_v (va_runV (As := [.int a1]) (rest := []) ⟨hx, hb, hml, hown, hts⟩ (q_putMX l dC dI cT ad E2 H.size a1 hI (by (try rw [(show xi (E2 0) 16 = y1 from vi_e ((pw3.2 0 16 (fun q9 => absurd q9.2 (Nat.ne_of_beq_eq_false rfl))).trans fy1))]); omega)) (cwV 1 hts (gi_V (in_31 _ (zs16 (zs16 (zs1 (zs0))))) (in_31 _ (zs16 (zs16 (zs1 (zs1 (zs0)))))) (in_31 _ (zs16 (zs16 (zs1 (zs1 (zs1 (zs0))))))) (in_24 _ (zs4 (zs4 (zs4 (zs1 (zs1 (zs1 (zs0)))))))) (in_31 _ (zs16 (zs16 (zs4 (zs0)))))) rfl rfl rfl ⟨rfl, hz_yX13_put_1⟩ ⟨Nat.le_of_ble_eq_true rfl, Nat.le_of_ble_eq_true rfl⟩) ⟨HW_bl, va_recv hK hP (ci := 14) (q0 := 0) rfl (hI.ob 0 (Nat.le_of_ble_eq_true rfl) rfl), (HW_wi hP hK (WX_D hD) hS hA hEV)⟩ rfl rfl hl.1 rfl (lv_room (Nat.le_of_ble_eq_true rfl)) dX13_feed_46 ⟨Nat.le_of_ble_eq_true rfl, Nat.le_of_ble_eq_true rfl⟩) (WX_D hD) hS hA (fun E28 H locs hw hP hS => ?_)
    obtain ⟨hI, kq29, hw⟩ := hw
    have hKb := hKp
    have hKp := hKp.tr kq29 (wl_sub rfl rfl)
    obtain ⟨y30, ey30⟩ : ∃ y, xi (E28 0) 16 = y := ⟨_, rfl⟩
    have fy30 : xv (E28 0) 16 = .int y30 := (hI.fi 0 (Nat.le_of_ble_eq_true rfl) rfl (Nat.le_of_ble_eq_true rfl) rfl).trans (congrArg Value.int ey30)
    have iy30 : 0 ≤ y30.toInt ∧ y30.toInt ≤ 200 := by rw [← ey30]; exact hI.iv 0 (Nat.le_of_ble_eq_true rfl) rfl (Nat.le_of_ble_eq_true rfl) rfl
    obtain ⟨f31, f32⟩ := hw
    try rw [(show xi (E2 0) 16 = y1 from vi_e ((pw3.2 0 16 (fun q9 => absurd q9.2 (Nat.ne_of_beq_eq_false rfl))).trans fy1))] at f31
    try rw [(show xi (E28 0) 16 = y30 from vi_e fy30)] at f31
    refine lv_aload_n hx hb dX13_feed_49 rfl (lv_at hl 0 rfl) ?_
    refine lv_iload_n hx hb dX13_feed_50 rfl (lv_at hl 2 rfl) ?_
    refine th_v (va_runV (As := [.int a2]) (rest := []) ⟨hx, hb, hml, hown, hts⟩ (q_putMX l dC dI cT ad E28 H.size a2 hI (by (try rw [(show xi (E28 0) 16 = y30 from vi_e fy30)]); omega)) (cwV 1 hts (gi_V (in_31 _ (zs16 (zs16 (zs1 (zs0))))) (in_31 _ (zs16 (zs16 (zs1 (zs1 (zs0)))))) (in_31 _ (zs16 (zs16 (zs1 (zs1 (zs1 (zs0))))))) (in_24 _ (zs4 (zs4 (zs4 (zs1 (zs1 (zs1 (zs0)))))))) (in_31 _ (zs16 (zs16 (zs4 (zs0)))))) rfl rfl rfl ⟨rfl, hz_yX13_put_1⟩ ⟨Nat.le_of_ble_eq_true rfl, Nat.le_of_ble_eq_true rfl⟩) ⟨HW_bl, va_recv hK hP (ci := 14) (q0 := 0) rfl (hI.ob 0 (Nat.le_of_ble_eq_true rfl) rfl), (HW_wi hP hK (WX_D hD) hS hA hEV)⟩ rfl rfl hl.1 rfl (lv_room (Nat.le_of_ble_eq_true rfl)) dX13_feed_51 ⟨Nat.le_of_ble_eq_true rfl, Nat.le_of_ble_eq_true rfl⟩) (WX_D hD) hS hA (fun E34 H locs hw hP hS => ?_)
    obtain ⟨hI, kq35, hw⟩ := hw
    have hKb := hKp
    have hKp := hKp.tr kq35 (wl_sub rfl rfl)
    obtain ⟨y36, ey36⟩ : ∃ y, xi (E34 0) 16 = y := ⟨_, rfl⟩
    have fy36 : xv (E34 0) 16 = .int y36 := (hI.fi 0 (Nat.le_of_ble_eq_true rfl) rfl (Nat.le_of_ble_eq_true rfl) rfl).trans (congrArg Value.int ey36)
    have iy36 : 0 ≤ y36.toInt ∧ y36.toInt ≤ 200 := by rw [← ey36]; exact hI.iv 0 (Nat.le_of_ble_eq_true rfl) rfl (Nat.le_of_ble_eq_true rfl) rfl
    obtain ⟨f37, f38⟩ := hw
    try rw [(show xi (E28 0) 16 = y30 from vi_e fy30)] at f37
    try rw [(show xi (E34 0) 16 = y36 from vi_e fy36)] at f37
    refine lv_aload_n hx hb dX13_feed_54 rfl (lv_at hl 0 rfl) ?_
    refine lv_iload_n hx hb dX13_feed_55 rfl (lv_at hl 3 rfl) ?_
    refine th_v (va_runV (As := [.int a3]) (rest := []) ⟨hx, hb, hml, hown, hts⟩ (q_putMX l dC dI cT ad E34 H.size a3 hI (by (try rw [(show xi (E34 0) 16 = y36 from vi_e fy36)]); omega)) (cwV 1 hts (gi_V (in_31 _ (zs16 (zs16 (zs1 (zs0))))) (in_31 _ (zs16 (zs16 (zs1 (zs1 (zs0)))))) (in_31 _ (zs16 (zs16 (zs1 (zs1 (zs1 (zs0))))))) (in_24 _ (zs4 (zs4 (zs4 (zs1 (zs1 (zs1 (zs0)))))))) (in_31 _ (zs16 (zs16 (zs4 (zs0)))))) rfl rfl rfl ⟨rfl, hz_yX13_put_1⟩ ⟨Nat.le_of_ble_eq_true rfl, Nat.le_of_ble_eq_true rfl⟩) ⟨HW_bl, va_recv hK hP (ci := 14) (q0 := 0) rfl (hI.ob 0 (Nat.le_of_ble_eq_true rfl) rfl), (HW_wi hP hK (WX_D hD) hS hA hEV)⟩ rfl rfl hl.1 rfl (lv_room (Nat.le_of_ble_eq_true rfl)) dX13_feed_56 ⟨Nat.le_of_ble_eq_true rfl, Nat.le_of_ble_eq_true rfl⟩) (WX_D hD) hS hA (fun E40 H locs hw hP hS => ?_)
    obtain ⟨hI, kq41, hw⟩ := hw
    have hKb := hKp
    have hKp := hKp.tr kq41 (wl_sub rfl rfl)
    obtain ⟨y42, ey42⟩ : ∃ y, xi (E40 0) 16 = y := ⟨_, rfl⟩
    have fy42 : xv (E40 0) 16 = .int y42 := (hI.fi 0 (Nat.le_of_ble_eq_true rfl) rfl (Nat.le_of_ble_eq_true rfl) rfl).trans (congrArg Value.int ey42)
    have iy42 : 0 ≤ y42.toInt ∧ y42.toInt ≤ 200 := by rw [← ey42]; exact hI.iv 0 (Nat.le_of_ble_eq_true rfl) rfl (Nat.le_of_ble_eq_true rfl) rfl
    obtain ⟨f43, f44⟩ := hw
    try rw [(show xi (E34 0) 16 = y36 from vi_e fy36)] at f43
    try rw [(show xi (E40 0) 16 = y42 from vi_e fy42)] at f43
    refine lv_aload_n hx hb dX13_feed_59 rfl (lv_at hl 0 rfl) ?_
    refine lv_iload hx hb dX13_feed_60 (lv_at hl 4 rfl) ?_
    refine th_v (va_runV (As := [.int a4]) (rest := []) ⟨hx, hb, hml, hown, hts⟩ (q_putMX l dC dI cT ad E40 H.size a4 hI (by (try rw [(show xi (E40 0) 16 = y42 from vi_e fy42)]); omega)) (cwV 1 hts (gi_V (in_31 _ (zs16 (zs16 (zs1 (zs0))))) (in_31 _ (zs16 (zs16 (zs1 (zs1 (zs0)))))) (in_31 _ (zs16 (zs16 (zs1 (zs1 (zs1 (zs0))))))) (in_24 _ (zs4 (zs4 (zs4 (zs1 (zs1 (zs1 (zs0)))))))) (in_31 _ (zs16 (zs16 (zs4 (zs0)))))) rfl rfl rfl ⟨rfl, hz_yX13_put_1⟩ ⟨Nat.le_of_ble_eq_true rfl, Nat.le_of_ble_eq_true rfl⟩) ⟨HW_bl, va_recv hK hP (ci := 14) (q0 := 0) rfl (hI.ob 0 (Nat.le_of_ble_eq_true rfl) rfl), (HW_wi hP hK (WX_D hD) hS hA hEV)⟩ rfl rfl hl.1 rfl (lv_room (Nat.le_of_ble_eq_true rfl)) dX13_feed_62 ⟨Nat.le_of_ble_eq_true rfl, Nat.le_of_ble_eq_true rfl⟩) (WX_D hD) hS hA (fun E46 H locs hw hP hS => ?_)
    obtain ⟨hI, kq47, hw⟩ := hw
    have hKb := hKp
    have hKp := hKp.tr kq47 (wl_sub rfl rfl)
    obtain ⟨y48, ey48⟩ : ∃ y, xi (E46 0) 16 = y := ⟨_, rfl⟩
    have fy48 : xv (E46 0) 16 = .int y48 := (hI.fi 0 (Nat.le_of_ble_eq_true rfl) rfl (Nat.le_of_ble_eq_true rfl) rfl).trans (congrArg Value.int ey48)
    have iy48 : 0 ≤ y48.toInt ∧ y48.toInt ≤ 200 := by rw [← ey48]; exact hI.iv 0 (Nat.le_of_ble_eq_true rfl) rfl (Nat.le_of_ble_eq_true rfl) rfl
    obtain ⟨f49, f50⟩ := hw
    try rw [(show xi (E40 0) 16 = y42 from vi_e fy42)] at f49
    try rw [(show xi (E46 0) 16 = y48 from vi_e fy48)] at f49
    refine lv_aload_n hx hb dX13_feed_65 rfl (lv_at hl 0 rfl) ?_
    refine lv_iload hx hb dX13_feed_66 (lv_at hl 5 rfl) ?_
    refine th_v (va_runV (As := [.int a5]) (rest := []) ⟨hx, hb, hml, hown, hts⟩ (q_putMX l dC dI cT ad E46 H.size a5 hI (by (try rw [(show xi (E46 0) 16 = y48 from vi_e fy48)]); omega)) (cwV 1 hts (gi_V (in_31 _ (zs16 (zs16 (zs1 (zs0))))) (in_31 _ (zs16 (zs16 (zs1 (zs1 (zs0)))))) (in_31 _ (zs16 (zs16 (zs1 (zs1 (zs1 (zs0))))))) (in_24 _ (zs4 (zs4 (zs4 (zs1 (zs1 (zs1 (zs0)))))))) (in_31 _ (zs16 (zs16 (zs4 (zs0)))))) rfl rfl rfl ⟨rfl, hz_yX13_put_1⟩ ⟨Nat.le_of_ble_eq_true rfl, Nat.le_of_ble_eq_true rfl⟩) ⟨HW_bl, va_recv hK hP (ci := 14) (q0 := 0) rfl (hI.ob 0 (Nat.le_of_ble_eq_true rfl) rfl), (HW_wi hP hK (WX_D hD) hS hA hEV)⟩ rfl rfl hl.1 rfl (lv_room (Nat.le_of_ble_eq_true rfl)) dX13_feed_68 ⟨Nat.le_of_ble_eq_true rfl, Nat.le_of_ble_eq_true rfl⟩) (WX_D hD) hS hA (fun E52 H locs hw hP hS => ?_)
    obtain ⟨hI, kq53, hw⟩ := hw
    have hKb := hKp
    have hKp := hKp.tr kq53 (wl_sub rfl rfl)
    obtain ⟨y54, ey54⟩ : ∃ y, xi (E52 0) 16 = y := ⟨_, rfl⟩
    have fy54 : xv (E52 0) 16 = .int y54 := (hI.fi 0 (Nat.le_of_ble_eq_true rfl) rfl (Nat.le_of_ble_eq_true rfl) rfl).trans (congrArg Value.int ey54)
    have iy54 : 0 ≤ y54.toInt ∧ y54.toInt ≤ 200 := by rw [← ey54]; exact hI.iv 0 (Nat.le_of_ble_eq_true rfl) rfl (Nat.le_of_ble_eq_true rfl) rfl
    obtain ⟨f55, f56⟩ := hw
    try rw [(show xi (E46 0) 16 = y48 from vi_e fy48)] at f55
    try rw [(show xi (E52 0) 16 = y54 from vi_e fy54)] at f55
    refine lv_aload_n hx hb dX13_feed_71 rfl (lv_at hl 0 rfl) ?_
    refine th_get (ci := 14) (C := RX13) (T := TX13) (N := 97) (v := .int y54) hx hb hts hinX13 hown hK hP hI 0 (Nat.le_of_ble_eq_true rfl) rfl rfl 16 (Nat.le_of_ble_eq_true rfl) (hts _ (vA_in _ _ (in_30 _ (zs16 (zs4 (zs0)))))) (fun _ h9 => h9) fy54 dX13_feed_72 ?_
    rw [hQ]
    exact W.iret (v := y54) hx hb hr (fun t ht hW => ⟨⟨y54, E52, rfl, ⟨hI, hKp, Or.inr (⟨iy54, by (try rw [(show xi (E52 0) 16 = y54 from vi_e fy54)]); (try rw [ey1]); all_goals omega, by (try rw [(show xi (E52 0) 16 = y54 from vi_e fy54)]); (try rw [ey1]); all_goals omega, (FedM.pw0 pw3 (by decide) : FedM [] _ _).tr ((((f32.tr f38).tr f44).tr f50).tr f56)⟩)⟩, by show va_P (dC, dI) vwCl (WX 72 ad E52) t.heap; rw [ht]; exact hP⟩, hS.F ht⟩) hS.2.2 dX13_feed_75
  · --39 not
    have t57 : (200 : Int) < y23.toInt := ti_nle c24
    have i58 : 201 ≤ y23.toInt ∧ y23.toInt ≤ 220 := iv_lt_r t57 (il_ 200) iy23 (by decide)
    refine lv_iconst (v := -1) hx hb dX13_feed_42 (by decide) ?_
    rw [hQ]
    exact W.iret (v := (-1)) hx hb hr (fun t ht hW => ⟨⟨(-1), E2, rfl, ⟨hI, hKp, Or.inl ⟨rfl, by have h8 := ln_m1; (try rw [(show xi (E2 0) 16 = y1 from vi_e ((pw3.2 0 16 (fun q9 => absurd q9.2 (Nat.ne_of_beq_eq_false rfl))).trans fy1))]); (try rw [ey1]); all_goals omega, FedM.pw0 pw3 (by decide)⟩⟩, by show va_P (dC, dI) vwCl (WX 72 ad E2) t.heap; rw [ht]; exact hP⟩, hS.F ht⟩) hS.2.2 dX13_feed_43
def v_endX : List Cond := .code yX13_end cX13_end 2 (some .boolean) :: vA
abbrev rm_endX : Room := { frames := 0, cells := 0, slots := 0, locals := 0 }
def w_endX : Nat → Nat → Bool := wl [] [(0, 0), (0, 16)]
set_option maxHeartbeats 4000000 in
set_option maxRecDepth 100000 in
theorem q_endX (l : Launch) (dC : Nat → ClassId) (dI : Nat → Nat → Nat) (cT : Nat → ClassId) (ad : Nat → Nat) (E : Nat → va_E) (sz : Nat) (a0 : Int32) (hI0 : IX cT shM spM 72 ad E)  : Met l yX13_end v_endX rm_endX (va_Pc [.ref (ad 0), .int a0] (HW dC dI (TYM cT) 72 ad E sz)) (va_Qi (S := Nat → va_E) (fun r u => IX cT shM spM 72 ad u ∧ Kp w_endX E u ∧ ((r = 1 ∧ (0 ≤ a0.toInt ∧ a0.toInt ≤ (xi (E 0) 16).toInt) ∧ ((xi (u 0) 16).toInt = a0.toInt) ∧ (xi (u 7) = xi (E 7))) ∨ (r = 0 ∧ (¬ (0 ≤ a0.toInt ∧ a0.toInt ≤ (xi (E 0) 16).toInt)) ∧ ((xi (u 0) 16).toInt = (xi (E 0) 16).toInt) ∧ (xi (u 7) = xi (E 7))))) (HB dC dI 72 ad) (va_A (WX 72 ad E) sz)) 0 0 (va_A (WX 72 ad E) sz) := by
  refine Met.ofW (cc := cX13_end) (maxL := 2) (ret := (some .boolean)) (by decide) rfl ?_
  intro p e s m args below meth c s₁ B hml hv
  obtain ⟨hargs, hsz, hP, hK, hD0, hEV⟩ := hv
  subst hsz
  have hx := B.exec
  have hb := B.bytes
  have hr := B.returns
  have hts := atoms_spec (ws := v_endX) B.pre
  have hown : s.vm.findClass RX13 = some m.cls := findClass_of_methodNamed B.named
  have hlocks := B.notSynchronized
  have hinX13 : ∀ w ∈ u_ws RX13 TX13 97, w ∈ v_endX := fun w h => vA_in _ w (in_X13 w h)
  generalize hAe : va_A (WX 72 ad E) s.heap.size = A at hEV ⊢
  have hA : ∀ q : Nat, s.heap.size ≤ q → A q := fun q h => by rw [← hAe]; exact Or.inr h
  have hD : va_D A (WX 72 ad E) := by rw [← hAe]; exact hD0.self
  have hS : va_S A s.heap s.heap [] := va_S.rf
  have hI := hI0
  have hKp : Kp w_endX E E := Kp.rf
  have hl := lv_entry ([.ref (ad 0), .int a0]) (n := 2) (Nat.le_of_ble_eq_true rfl)
  obtain ⟨Q, hQ⟩ : ∃ Q, Q = MQ below (va_Qi (S := Nat → va_E) (fun r u => IX cT shM spM 72 ad u ∧ Kp w_endX E u ∧ ((r = 1 ∧ (0 ≤ a0.toInt ∧ a0.toInt ≤ (xi (E 0) 16).toInt) ∧ ((xi (u 0) 16).toInt = a0.toInt) ∧ (xi (u 7) = xi (E 7))) ∨ (r = 0 ∧ (¬ (0 ≤ a0.toInt ∧ a0.toInt ≤ (xi (E 0) 16).toInt)) ∧ ((xi (u 0) 16).toInt = (xi (E 0) 16).toInt) ∧ (xi (u 7) = xi (E 7))))) (HB dC dI 72 ad) (A)) args s 0 0 (A) := ⟨_, rfl⟩
  rw [← hQ, show entryFrame m args 2 = _ from (congrArg (fun z => entryFrame m z 2) hargs).trans (lg_entry_eq _ _ _)]
  generalize (lg_sl ([.ref (ad 0), .int a0]) ++ List.replicate (2 - (lg_sl ([.ref (ad 0), .int a0])).length) Slot.unset).toArray = ls at hl ⊢
  have hl : lv_has ls 2 [(0, .ref (ad 0)), (1, .int a0)] := hl
  obtain ⟨y1, ey1⟩ : ∃ y, xi (E 0) 16 = y := ⟨_, rfl⟩
  have fy1 : xv (E 0) 16 = .int y1 := (hI.fi 0 (Nat.le_of_ble_eq_true rfl) rfl (Nat.le_of_ble_eq_true rfl) rfl).trans (congrArg Value.int ey1)
  have iy1 : 0 ≤ y1.toInt ∧ y1.toInt ≤ 200 := by rw [← ey1]; exact hI.iv 0 (Nat.le_of_ble_eq_true rfl) rfl (Nat.le_of_ble_eq_true rfl) rfl
  refine lv_aload_n hx hb dX13_end_0 rfl (lv_at hl 0 rfl) ?_
  refine lv_iconst (v := 0) hx hb dX13_end_1 (by decide) ?_
  refine th_put (ci := 14) (C := RX13) (T := TX13) (N := 97) (v := .int 0) (ty := .int) hx hb hts hinX13 tyX13 tyX13_ok nmX13 hown hK hP (WX_D hD) hS hI 0 (Nat.le_of_ble_eq_true rfl) rfl rfl 0 (Nat.le_of_ble_eq_true rfl) (hts _ (vA_in _ _ (in_24 _ (zs4 (zs4 (zs1 (zs1 (zs0)))))))) (fun _ h9 => h9) rfl (by decide +kernel) rfl rfl (okI rfl (iv_w ln_0 (by decide))) dX13_end_2 (fun H locs E2 pw3 hI hP hS => ?_)
  have hKp := hKp.pw pw3 rfl
  refine lv_iload_n hx hb dX13_end_5 rfl (lv_at hl 1 rfl) ?_
  refine lv_if_lt (tgt := 17) hx hb dX13_end_6 (by decide) (fun c4 => ?_) (fun c4 => ?_)
  · --6 taken
    have t5 : a0.toInt < 0 := ti_lt c4
    have i6 : -2147483648 ≤ a0.toInt ∧ a0.toInt ≤ -1 := iv_lt_l t5 (iv_all _) (il_ 0) (by decide)
    refine lv_iconst (v := 0) hx hb dX13_end_17 (by decide) ?_
    rw [hQ]
    exact W.zret (v := 0) hx hb hr rfl (fun t ht hW => ⟨⟨0, E2, rfl, ⟨hI, hKp, Or.inr (⟨rfl, by have h8 := ln_0; (try rw [(show xi (E2 0) 16 = y1 from vi_e ((pw3.2 0 16 (fun q9 => absurd q9.2 (Nat.ne_of_beq_eq_false rfl))).trans fy1))]); (try rw [ey1]); all_goals omega, by have h8 := ln_0; (try rw [(show xi (E2 0) 16 = y1 from vi_e ((pw3.2 0 16 (fun q9 => absurd q9.2 (Nat.ne_of_beq_eq_false rfl))).trans fy1))]); (try rw [ey1]); all_goals omega, (by show xi (E2 7) = xi (E 7); exact hKp.ef 7 (fun _ => rfl))⟩)⟩, by show va_P (dC, dI) vwCl (WX 72 ad E2) t.heap; rw [ht]; exact hP⟩, hS.F ht⟩) hS.2.2 dX13_end_18
  · --6 not
    have t7 : (0 : Int) ≤ a0.toInt := ti_nlt c4
    have i8 : 0 ≤ a0.toInt ∧ a0.toInt ≤ 2147483647 := iv_le_r t7 (il_ 0) (iv_all _) (by decide)
    refine lv_iload_n hx hb dX13_end_9 rfl (lv_at hl 1 rfl) ?_
    refine lv_aload_n hx hb dX13_end_10 rfl (lv_at hl 0 rfl) ?_
    refine th_get (ci := 14) (C := RX13) (T := TX13) (N := 97) (v := .int y1) hx hb hts hinX13 hown hK hP hI 0 (Nat.le_of_ble_eq_true rfl) rfl rfl 16 (Nat.le_of_ble_eq_true rfl) (hts _ (vA_in _ _ (in_30 _ (zs16 (zs4 (zs0)))))) (fun _ h9 => h9) ((pw3.2 0 16 (fun q9 => absurd q9.2 (Nat.ne_of_beq_eq_false rfl))).trans fy1) dX13_end_11 ?_
    refine lv_icmp_le (tgt := 19) hx hb dX13_end_14 (by decide) (fun c9 => ?_) (fun c9 => ?_)
    · --14 taken
      have t10 : a0.toInt ≤ y1.toInt := ti_le c9
      have i11 : 0 ≤ a0.toInt ∧ a0.toInt ≤ 200 := iv_le_l t10 i8 iy1 (by decide)
      refine lv_aload_n hx hb dX13_end_19 rfl (lv_at hl 0 rfl) ?_
      refine lv_iload_n hx hb dX13_end_20 rfl (lv_at hl 1 rfl) ?_
      refine th_put (ci := 14) (C := RX13) (T := TX13) (N := 97) (v := .int a0) (ty := .int) hx hb hts hinX13 tyX13 tyX13_ok nmX13 hown hK hP (WX_D hD) hS hI 0 (Nat.le_of_ble_eq_true rfl) rfl rfl 16 (Nat.le_of_ble_eq_true rfl) (hts _ (vA_in _ _ (in_30 _ (zs16 (zs4 (zs0)))))) (fun _ h9 => h9) rfl (by decide +kernel) rfl rfl (okI rfl i11) dX13_end_21 (fun H locs E12 pw13 hI hP hS => ?_)
      have hKp := hKp.pw pw13 rfl
      refine lv_iconst (v := 1) hx hb dX13_end_24 (by decide) ?_
      rw [hQ]
      exact W.zret (v := 1) hx hb hr rfl (fun t ht hW => ⟨⟨1, E12, rfl, ⟨hI, hKp, Or.inl ⟨rfl, by have h8 := ln_1; (try rw [(show xi (E12 0) 16 = a0 from vi_e pw13.1)]); (try rw [ey1]); all_goals omega, by have h8 := ln_1; (try rw [(show xi (E12 0) 16 = a0 from vi_e pw13.1)]); (try rw [ey1]); all_goals omega, (by show xi (E12 7) = xi (E 7); exact hKp.ef 7 (fun _ => rfl))⟩⟩, by show va_P (dC, dI) vwCl (WX 72 ad E12) t.heap; rw [ht]; exact hP⟩, hS.F ht⟩) hS.2.2 dX13_end_25
    · --14 not
      have t14 : y1.toInt < a0.toInt := ti_nle c9
      have i15 : 1 ≤ a0.toInt ∧ a0.toInt ≤ 2147483647 := iv_lt_r t14 iy1 i8 (by decide)
      refine lv_iconst (v := 0) hx hb dX13_end_17 (by decide) ?_
      rw [hQ]
      exact W.zret (v := 0) hx hb hr rfl (fun t ht hW => ⟨⟨0, E2, rfl, ⟨hI, hKp, Or.inr (⟨rfl, by have h8 := ln_0; (try rw [(show xi (E2 0) 16 = y1 from vi_e ((pw3.2 0 16 (fun q9 => absurd q9.2 (Nat.ne_of_beq_eq_false rfl))).trans fy1))]); (try rw [ey1]); all_goals omega, by have h8 := ln_0; (try rw [(show xi (E2 0) 16 = y1 from vi_e ((pw3.2 0 16 (fun q9 => absurd q9.2 (Nat.ne_of_beq_eq_false rfl))).trans fy1))]); (try rw [ey1]); all_goals omega, (by show xi (E2 7) = xi (E 7); exact hKp.ef 7 (fun _ => rfl))⟩)⟩, by show va_P (dC, dI) vwCl (WX 72 ad E2) t.heap; rw [ht]; exact hP⟩, hS.F ht⟩) hS.2.2 dX13_end_18
