abbrev cX0_forgetLetters : ByteArray := prog_2_method_12_code
def yX0_forgetLetters : MethodName := ⟨RX0, "forgetLetters", "()V"⟩
abbrev cX3_markCertified : ByteArray := prog_5_method_15_code
def yX3_markCertified : MethodName := ⟨RX3, "markCertified", "()I"⟩
def tyX8 : Nat → FieldType := fun k => match k with
  | 0 => .object "UnlikeBoats$Book"
  | 1 => .object "UnlikeBoats$Sheet"
  | 2 => .int
  | 3 => .array .int
  | 4 => .array .int
  | 5 => .array .boolean
  | 6 => .array .boolean
  | 7 => .array .int
  | 8 => .array .int
  | _ => .array .int
theorem nmX8 : ∀ a, a < 10 → ∀ b, b < 10 → a ≠ b → (TX8 a).2.1 ≠ (TX8 b).2.1 := by decide +kernel
theorem tyX8_ok : ∀ k, k < 10 → parseFieldDescriptor (TX8 k).2.2.1 = some (tyX8 k) := by decide +kernel
abbrev cX8_tally : ByteArray := prog_10_method_3_code
def yX8_tally : MethodName := ⟨RX8, "tally", "(I)V"⟩
abbrev cX8_throwOutsIn : ByteArray := prog_10_method_5_code
def yX8_throwOutsIn : MethodName := ⟨RX8, "throwOutsIn", "(I)I"⟩
abbrev cX8_boatAt : ByteArray := prog_10_method_8_code
def yX8_boatAt : MethodName := ⟨RX8, "boatAt", "(I)I"⟩
abbrev cX12_feed : ByteArray := prog_1_method_6_code
def yX12_feed : MethodName := ⟨RX12, "feed", "(IIIII)I"⟩
abbrev cX12_ranked : ByteArray := prog_1_method_23_code
def yX12_ranked : MethodName := ⟨RX12, "ranked", "(II)I"⟩
abbrev cX12_draw : ByteArray := prog_1_method_37_code
def yX12_draw : MethodName := ⟨RX12, "draw", "(IJ)I"⟩
abbrev cX13_thrown : ByteArray := prog_15_method_2_code
def yX13_thrown : MethodName := ⟨RX13, "thrown", "()I"⟩
abbrev cX13_feed : ByteArray := prog_15_method_14_code
def yX13_feed : MethodName := ⟨RX13, "feed", "(IIIII)I"⟩
abbrev cX13_score : ByteArray := prog_15_method_63_code
def yX13_score : MethodName := ⟨RX13, "score", "(I)Z"⟩
abbrev cX13_thrown_ : ByteArray := prog_15_method_64_code
def yX13_thrown_ : MethodName := ⟨RX13, "thrown", "(III)I"⟩
abbrev cX13_total : ByteArray := prog_15_method_65_code
def yX13_total : MethodName := ⟨RX13, "total", "(II)I"⟩
abbrev cX13_ranked : ByteArray := prog_15_method_68_code
def yX13_ranked : MethodName := ⟨RX13, "ranked", "(II)I"⟩
theorem dX0_forgetLetters_0 : decode cX0_forgetLetters 0 = .ok (.aload_n 0, 1) := by decide +kernel
theorem dX0_forgetLetters_1 : decode cX0_forgetLetters 1 = .ok (.getfield 41, 3) := by decide +kernel
theorem dX0_forgetLetters_4 : decode cX0_forgetLetters 4 = .ok (.iconst 0, 1) := by decide +kernel
theorem dX0_forgetLetters_5 : decode cX0_forgetLetters 5 = .ok (.invokestatic 134, 3) := by decide +kernel
theorem dX0_forgetLetters_8 : decode cX0_forgetLetters 8 = .ok (.return_, 1) := by decide +kernel
theorem dX3_markCertified_0 : decode cX3_markCertified 0 = .ok (.aload_n 0, 1) := by decide +kernel
theorem dX3_markCertified_1 : decode cX3_markCertified 1 = .ok (.getfield 52, 3) := by decide +kernel
theorem dX3_markCertified_4 : decode cX3_markCertified 4 = .ok (.iconst 0, 1) := by decide +kernel
theorem dX3_markCertified_5 : decode cX3_markCertified 5 = .ok (.invokestatic 164, 3) := by decide +kernel
theorem dX3_markCertified_8 : decode cX3_markCertified 8 = .ok (.iconst 0, 1) := by decide +kernel
theorem dX3_markCertified_9 : decode cX3_markCertified 9 = .ok (.istore_n 1, 1) := by decide +kernel
theorem dX3_markCertified_10 : decode cX3_markCertified 10 = .ok (.iload_n 1, 1) := by decide +kernel
theorem dX3_markCertified_11 : decode cX3_markCertified 11 = .ok (.aload_n 0, 1) := by decide +kernel
theorem dX3_markCertified_12 : decode cX3_markCertified 12 = .ok (.getfield 55, 3) := by decide +kernel
theorem dX3_markCertified_15 : decode cX3_markCertified 15 = .ok (.getfield 170, 3) := by decide +kernel
theorem dX3_markCertified_18 : decode cX3_markCertified 18 = .ok (.invokevirtual 69, 3) := by decide +kernel
theorem dX3_markCertified_21 : decode cX3_markCertified 21 = .ok (.if_icmp .ge 32, 3) := by decide +kernel
theorem dX3_markCertified_53 : decode cX3_markCertified 53 = .ok (.iconst 0, 1) := by decide +kernel
theorem dX3_markCertified_54 : decode cX3_markCertified 54 = .ok (.istore_n 1, 1) := by decide +kernel
theorem dX3_markCertified_55 : decode cX3_markCertified 55 = .ok (.iconst 0, 1) := by decide +kernel
theorem dX3_markCertified_56 : decode cX3_markCertified 56 = .ok (.istore_n 2, 1) := by decide +kernel
theorem dX3_markCertified_57 : decode cX3_markCertified 57 = .ok (.iload_n 2, 1) := by decide +kernel
theorem dX3_markCertified_58 : decode cX3_markCertified 58 = .ok (.bipush 16, 2) := by decide +kernel
theorem dX3_markCertified_60 : decode cX3_markCertified 60 = .ok (.if_icmp .ge 18, 3) := by decide +kernel
theorem dX3_markCertified_63 : decode cX3_markCertified 63 = .ok (.iload_n 1, 1) := by decide +kernel
theorem dX3_markCertified_64 : decode cX3_markCertified 64 = .ok (.aload_n 0, 1) := by decide +kernel
theorem dX3_markCertified_65 : decode cX3_markCertified 65 = .ok (.getfield 52, 3) := by decide +kernel
theorem dX3_markCertified_68 : decode cX3_markCertified 68 = .ok (.iload_n 2, 1) := by decide +kernel
theorem dX3_markCertified_69 : decode cX3_markCertified 69 = .ok (.iaload, 1) := by decide +kernel
theorem dX3_markCertified_70 : decode cX3_markCertified 70 = .ok (.iadd, 1) := by decide +kernel
theorem dX3_markCertified_71 : decode cX3_markCertified 71 = .ok (.istore_n 1, 1) := by decide +kernel
theorem dX3_markCertified_72 : decode cX3_markCertified 72 = .ok (.iinc 2 1, 3) := by decide +kernel
theorem dX3_markCertified_75 : decode cX3_markCertified 75 = .ok (.goto (-18), 3) := by decide +kernel
theorem dX3_markCertified_78 : decode cX3_markCertified 78 = .ok (.iload_n 1, 1) := by decide +kernel
theorem dX3_markCertified_79 : decode cX3_markCertified 79 = .ok (.ireturn, 1) := by decide +kernel
theorem dX8_tally_0 : decode cX8_tally 0 = .ok (.aload_n 0, 1) := by decide +kernel
theorem dX8_tally_1 : decode cX8_tally 1 = .ok (.aload_n 0, 1) := by decide +kernel
theorem dX8_tally_2 : decode cX8_tally 2 = .ok (.getfield 34, 3) := by decide +kernel
theorem dX8_tally_5 : decode cX8_tally 5 = .ok (.iload_n 1, 1) := by decide +kernel
theorem dX8_tally_6 : decode cX8_tally 6 = .ok (.invokevirtual 70, 3) := by decide +kernel
theorem dX8_tally_9 : decode cX8_tally 9 = .ok (.putfield 73, 3) := by decide +kernel
theorem dX8_tally_12 : decode cX8_tally 12 = .ok (.iconst 0, 1) := by decide +kernel
theorem dX8_tally_13 : decode cX8_tally 13 = .ok (.istore_n 2, 1) := by decide +kernel
theorem dX8_tally_14 : decode cX8_tally 14 = .ok (.iload_n 2, 1) := by decide +kernel
theorem dX8_tally_15 : decode cX8_tally 15 = .ok (.bipush 16, 2) := by decide +kernel
theorem dX8_tally_17 : decode cX8_tally 17 = .ok (.if_icmp .ge 16, 3) := by decide +kernel
theorem dX8_tally_20 : decode cX8_tally 20 = .ok (.aload_n 0, 1) := by decide +kernel
theorem dX8_tally_21 : decode cX8_tally 21 = .ok (.getfield 22, 3) := by decide +kernel
theorem dX8_tally_24 : decode cX8_tally 24 = .ok (.iload_n 2, 1) := by decide +kernel
theorem dX8_tally_25 : decode cX8_tally 25 = .ok (.iconst 0, 1) := by decide +kernel
theorem dX8_tally_26 : decode cX8_tally 26 = .ok (.bastore, 1) := by decide +kernel
theorem dX8_tally_27 : decode cX8_tally 27 = .ok (.iinc 2 1, 3) := by decide +kernel
theorem dX8_tally_30 : decode cX8_tally 30 = .ok (.goto (-16), 3) := by decide +kernel
theorem dX8_tally_33 : decode cX8_tally 33 = .ok (.iconst 0, 1) := by decide +kernel
theorem dX8_tally_34 : decode cX8_tally 34 = .ok (.istore_n 2, 1) := by decide +kernel
theorem dX8_tally_35 : decode cX8_tally 35 = .ok (.iload_n 2, 1) := by decide +kernel
theorem dX8_tally_36 : decode cX8_tally 36 = .ok (.aload_n 0, 1) := by decide +kernel
theorem dX8_tally_37 : decode cX8_tally 37 = .ok (.getfield 73, 3) := by decide +kernel
theorem dX8_tally_40 : decode cX8_tally 40 = .ok (.if_icmp .ge 75, 3) := by decide +kernel
theorem dX8_tally_115 : decode cX8_tally 115 = .ok (.aload_n 0, 1) := by decide +kernel
theorem dX8_tally_116 : decode cX8_tally 116 = .ok (.iload_n 1, 1) := by decide +kernel
theorem dX8_tally_117 : decode cX8_tally 117 = .ok (.invokevirtual 90, 3) := by decide +kernel
theorem dX8_tally_120 : decode cX8_tally 120 = .ok (.istore_n 2, 1) := by decide +kernel
theorem dX8_tally_121 : decode cX8_tally 121 = .ok (.iconst 0, 1) := by decide +kernel
theorem dX8_tally_122 : decode cX8_tally 122 = .ok (.istore_n 3, 1) := by decide +kernel
theorem dX8_tally_123 : decode cX8_tally 123 = .ok (.iload_n 3, 1) := by decide +kernel
theorem dX8_tally_124 : decode cX8_tally 124 = .ok (.aload_n 0, 1) := by decide +kernel
theorem dX8_tally_125 : decode cX8_tally 125 = .ok (.getfield 34, 3) := by decide +kernel
theorem dX8_tally_128 : decode cX8_tally 128 = .ok (.getfield 84, 3) := by decide +kernel
theorem dX8_tally_131 : decode cX8_tally 131 = .ok (.if_icmp .ge 93, 3) := by decide +kernel
theorem dX8_tally_224 : decode cX8_tally 224 = .ok (.return_, 1) := by decide +kernel
theorem dX8_throwOutsIn_0 : decode cX8_throwOutsIn 0 = .ok (.aload_n 0, 1) := by decide +kernel
theorem dX8_throwOutsIn_1 : decode cX8_throwOutsIn 1 = .ok (.getfield 34, 3) := by decide +kernel
theorem dX8_throwOutsIn_4 : decode cX8_throwOutsIn 4 = .ok (.invokevirtual 96, 3) := by decide +kernel
theorem dX8_throwOutsIn_7 : decode cX8_throwOutsIn 7 = .ok (.aload_n 0, 1) := by decide +kernel
theorem dX8_throwOutsIn_8 : decode cX8_throwOutsIn 8 = .ok (.getfield 34, 3) := by decide +kernel
theorem dX8_throwOutsIn_11 : decode cX8_throwOutsIn 11 = .ok (.getfield 99, 3) := by decide +kernel
theorem dX8_throwOutsIn_14 : decode cX8_throwOutsIn 14 = .ok (.bipush 7, 2) := by decide +kernel
theorem dX8_throwOutsIn_16 : decode cX8_throwOutsIn 16 = .ok (.aload_n 0, 1) := by decide +kernel
theorem dX8_throwOutsIn_17 : decode cX8_throwOutsIn 17 = .ok (.getfield 73, 3) := by decide +kernel
theorem dX8_throwOutsIn_20 : decode cX8_throwOutsIn 20 = .ok (.iastore, 1) := by decide +kernel
theorem dX8_throwOutsIn_21 : decode cX8_throwOutsIn 21 = .ok (.aload_n 0, 1) := by decide +kernel
theorem dX8_throwOutsIn_22 : decode cX8_throwOutsIn 22 = .ok (.getfield 34, 3) := by decide +kernel
theorem dX8_throwOutsIn_25 : decode cX8_throwOutsIn 25 = .ok (.aload_n 0, 1) := by decide +kernel
theorem dX8_throwOutsIn_26 : decode cX8_throwOutsIn 26 = .ok (.getfield 34, 3) := by decide +kernel
theorem dX8_throwOutsIn_29 : decode cX8_throwOutsIn 29 = .ok (.iload_n 1, 1) := by decide +kernel
theorem dX8_throwOutsIn_30 : decode cX8_throwOutsIn 30 = .ok (.iload_n 1, 1) := by decide +kernel
theorem dX8_throwOutsIn_31 : decode cX8_throwOutsIn 31 = .ok (.invokevirtual 102, 3) := by decide +kernel
theorem dX8_throwOutsIn_34 : decode cX8_throwOutsIn 34 = .ok (.bipush 116, 2) := by decide +kernel
theorem dX8_throwOutsIn_36 : decode cX8_throwOutsIn 36 = .ok (.invokevirtual 105, 3) := by decide +kernel
theorem dX8_throwOutsIn_39 : decode cX8_throwOutsIn 39 = .ok (.istore_n 2, 1) := by decide +kernel
theorem dX8_throwOutsIn_40 : decode cX8_throwOutsIn 40 = .ok (.iload_n 2, 1) := by decide +kernel
theorem dX8_throwOutsIn_41 : decode cX8_throwOutsIn 41 = .ok (.iconst 0, 1) := by decide +kernel
theorem dX8_throwOutsIn_42 : decode cX8_throwOutsIn 42 = .ok (.iconst 0, 1) := by decide +kernel
theorem dX8_throwOutsIn_43 : decode cX8_throwOutsIn 43 = .ok (.aload_n 0, 1) := by decide +kernel
theorem dX8_throwOutsIn_44 : decode cX8_throwOutsIn 44 = .ok (.getfield 73, 3) := by decide +kernel
theorem dX8_throwOutsIn_47 : decode cX8_throwOutsIn 47 = .ok (.iconst 1, 1) := by decide +kernel
theorem dX8_throwOutsIn_48 : decode cX8_throwOutsIn 48 = .ok (.isub, 1) := by decide +kernel
theorem dX8_throwOutsIn_49 : decode cX8_throwOutsIn 49 = .ok (.invokestatic 109, 3) := by decide +kernel
theorem dX8_throwOutsIn_52 : decode cX8_throwOutsIn 52 = .ok (.invokestatic 114, 3) := by decide +kernel
theorem dX8_throwOutsIn_55 : decode cX8_throwOutsIn 55 = .ok (.ireturn, 1) := by decide +kernel
theorem dX8_boatAt_0 : decode cX8_boatAt 0 = .ok (.iconst 0, 1) := by decide +kernel
theorem dX8_boatAt_1 : decode cX8_boatAt 1 = .ok (.istore_n 2, 1) := by decide +kernel
theorem dX8_boatAt_2 : decode cX8_boatAt 2 = .ok (.iload_n 2, 1) := by decide +kernel
theorem dX8_boatAt_3 : decode cX8_boatAt 3 = .ok (.aload_n 0, 1) := by decide +kernel
theorem dX8_boatAt_4 : decode cX8_boatAt 4 = .ok (.getfield 34, 3) := by decide +kernel
theorem dX8_boatAt_7 : decode cX8_boatAt 7 = .ok (.getfield 84, 3) := by decide +kernel
theorem dX8_boatAt_10 : decode cX8_boatAt 10 = .ok (.if_icmp .ge 80, 3) := by decide +kernel
theorem dX8_boatAt_90 : decode cX8_boatAt 90 = .ok (.iconst (-1), 1) := by decide +kernel
theorem dX8_boatAt_91 : decode cX8_boatAt 91 = .ok (.ireturn, 1) := by decide +kernel
theorem dX12_feed_0 : decode cX12_feed 0 = .ok (.iload_n 1, 1) := by decide +kernel
theorem dX12_feed_1 : decode cX12_feed 1 = .ok (.invokestatic 99, 3) := by decide +kernel
theorem dX12_feed_4 : decode cX12_feed 4 = .ok (.iload_n 2, 1) := by decide +kernel
theorem dX12_feed_5 : decode cX12_feed 5 = .ok (.invokestatic 99, 3) := by decide +kernel
theorem dX12_feed_8 : decode cX12_feed 8 = .ok (.iadd, 1) := by decide +kernel
theorem dX12_feed_9 : decode cX12_feed 9 = .ok (.iload_n 3, 1) := by decide +kernel
theorem dX12_feed_10 : decode cX12_feed 10 = .ok (.invokestatic 99, 3) := by decide +kernel
theorem dX12_feed_13 : decode cX12_feed 13 = .ok (.iadd, 1) := by decide +kernel
theorem dX12_feed_14 : decode cX12_feed 14 = .ok (.iload 4, 2) := by decide +kernel
theorem dX12_feed_16 : decode cX12_feed 16 = .ok (.invokestatic 99, 3) := by decide +kernel
theorem dX12_feed_19 : decode cX12_feed 19 = .ok (.iadd, 1) := by decide +kernel
theorem dX12_feed_20 : decode cX12_feed 20 = .ok (.iload 5, 2) := by decide +kernel
theorem dX12_feed_22 : decode cX12_feed 22 = .ok (.invokestatic 99, 3) := by decide +kernel
theorem dX12_feed_25 : decode cX12_feed 25 = .ok (.iadd, 1) := by decide +kernel
theorem dX12_feed_26 : decode cX12_feed 26 = .ok (.istore 6, 2) := by decide +kernel
theorem dX12_feed_28 : decode cX12_feed 28 = .ok (.aload_n 0, 1) := by decide +kernel
theorem dX12_feed_29 : decode cX12_feed 29 = .ok (.getfield 19, 3) := by decide +kernel
theorem dX12_feed_32 : decode cX12_feed 32 = .ok (.getfield 103, 3) := by decide +kernel
theorem dX12_feed_35 : decode cX12_feed 35 = .ok (.iload 6, 2) := by decide +kernel
theorem dX12_feed_37 : decode cX12_feed 37 = .ok (.iadd, 1) := by decide +kernel
theorem dX12_feed_38 : decode cX12_feed 38 = .ok (.sipush 200, 3) := by decide +kernel
theorem dX12_feed_41 : decode cX12_feed 41 = .ok (.if_icmp .le 5, 3) := by decide +kernel
theorem dX12_feed_46 : decode cX12_feed 46 = .ok (.aload_n 0, 1) := by decide +kernel
theorem dX12_feed_47 : decode cX12_feed 47 = .ok (.getfield 19, 3) := by decide +kernel
theorem dX12_feed_50 : decode cX12_feed 50 = .ok (.iload_n 1, 1) := by decide +kernel
theorem dX12_feed_51 : decode cX12_feed 51 = .ok (.invokevirtual 106, 3) := by decide +kernel
theorem dX12_feed_54 : decode cX12_feed 54 = .ok (.aload_n 0, 1) := by decide +kernel
theorem dX12_feed_55 : decode cX12_feed 55 = .ok (.getfield 19, 3) := by decide +kernel
theorem dX12_feed_58 : decode cX12_feed 58 = .ok (.iload_n 2, 1) := by decide +kernel
theorem dX12_feed_59 : decode cX12_feed 59 = .ok (.invokevirtual 106, 3) := by decide +kernel
theorem dX12_feed_62 : decode cX12_feed 62 = .ok (.aload_n 0, 1) := by decide +kernel
theorem dX12_feed_63 : decode cX12_feed 63 = .ok (.getfield 19, 3) := by decide +kernel
theorem dX12_feed_66 : decode cX12_feed 66 = .ok (.iload_n 3, 1) := by decide +kernel
theorem dX12_feed_67 : decode cX12_feed 67 = .ok (.invokevirtual 106, 3) := by decide +kernel
theorem dX12_feed_70 : decode cX12_feed 70 = .ok (.aload_n 0, 1) := by decide +kernel
theorem dX12_feed_71 : decode cX12_feed 71 = .ok (.getfield 19, 3) := by decide +kernel
theorem dX12_feed_74 : decode cX12_feed 74 = .ok (.iload 4, 2) := by decide +kernel
theorem dX12_feed_76 : decode cX12_feed 76 = .ok (.invokevirtual 106, 3) := by decide +kernel
theorem dX12_feed_79 : decode cX12_feed 79 = .ok (.aload_n 0, 1) := by decide +kernel
theorem dX12_feed_80 : decode cX12_feed 80 = .ok (.getfield 19, 3) := by decide +kernel
theorem dX12_feed_83 : decode cX12_feed 83 = .ok (.iload 5, 2) := by decide +kernel
theorem dX12_feed_85 : decode cX12_feed 85 = .ok (.invokevirtual 106, 3) := by decide +kernel
theorem dX12_feed_88 : decode cX12_feed 88 = .ok (.aload_n 0, 1) := by decide +kernel
theorem dX12_feed_89 : decode cX12_feed 89 = .ok (.getfield 19, 3) := by decide +kernel
theorem dX12_feed_92 : decode cX12_feed 92 = .ok (.getfield 103, 3) := by decide +kernel
theorem dX12_feed_95 : decode cX12_feed 95 = .ok (.ireturn, 1) := by decide +kernel
theorem dX12_ranked_0 : decode cX12_ranked 0 = .ok (.iload_n 1, 1) := by decide +kernel
theorem dX12_ranked_1 : decode cX12_ranked 1 = .ok (.iconst 0, 1) := by decide +kernel
theorem dX12_ranked_2 : decode cX12_ranked 2 = .ok (.bipush 15, 2) := by decide +kernel
theorem dX12_ranked_4 : decode cX12_ranked 4 = .ok (.invokestatic 59, 3) := by decide +kernel
theorem dX12_ranked_7 : decode cX12_ranked 7 = .ok (.ifCond .eq 14, 3) := by decide +kernel
theorem dX12_ranked_10 : decode cX12_ranked 10 = .ok (.aload_n 0, 1) := by decide +kernel
theorem dX12_ranked_11 : decode cX12_ranked 11 = .ok (.getfield 10, 3) := by decide +kernel
theorem dX12_ranked_14 : decode cX12_ranked 14 = .ok (.iload_n 2, 1) := by decide +kernel
theorem dX12_ranked_15 : decode cX12_ranked 15 = .ok (.invokevirtual 92, 3) := by decide +kernel
theorem dX12_ranked_18 : decode cX12_ranked 18 = .ok (.ifCond .ne 5, 3) := by decide +kernel
theorem dX12_ranked_21 : decode cX12_ranked 21 = .ok (.iconst (-1), 1) := by decide +kernel
theorem dX12_ranked_22 : decode cX12_ranked 22 = .ok (.ireturn, 1) := by decide +kernel
theorem dX12_ranked_23 : decode cX12_ranked 23 = .ok (.aload_n 0, 1) := by decide +kernel
theorem dX12_ranked_24 : decode cX12_ranked 24 = .ok (.getfield 37, 3) := by decide +kernel
theorem dX12_ranked_27 : decode cX12_ranked 27 = .ok (.iload_n 2, 1) := by decide +kernel
theorem dX12_ranked_28 : decode cX12_ranked 28 = .ok (.invokevirtual 189, 3) := by decide +kernel
theorem dX12_ranked_31 : decode cX12_ranked 31 = .ok (.aload_n 0, 1) := by decide +kernel
theorem dX12_ranked_32 : decode cX12_ranked 32 = .ok (.getfield 37, 3) := by decide +kernel
theorem dX12_ranked_35 : decode cX12_ranked 35 = .ok (.iload_n 1, 1) := by decide +kernel
theorem dX12_ranked_36 : decode cX12_ranked 36 = .ok (.invokevirtual 205, 3) := by decide +kernel
theorem dX12_ranked_39 : decode cX12_ranked 39 = .ok (.ireturn, 1) := by decide +kernel
theorem dX12_draw_0 : decode cX12_draw 0 = .ok (.iload_n 1, 1) := by decide +kernel
theorem dX12_draw_1 : decode cX12_draw 1 = .ok (.iconst 1, 1) := by decide +kernel
theorem dX12_draw_2 : decode cX12_draw 2 = .ok (.if_icmp .lt 14, 3) := by decide +kernel
theorem dX12_draw_5 : decode cX12_draw 5 = .ok (.iload_n 1, 1) := by decide +kernel
theorem dX12_draw_6 : decode cX12_draw 6 = .ok (.aload_n 0, 1) := by decide +kernel
theorem dX12_draw_7 : decode cX12_draw 7 = .ok (.getfield 51, 3) := by decide +kernel
theorem dX12_draw_10 : decode cX12_draw 10 = .ok (.invokevirtual 282, 3) := by decide +kernel
theorem dX12_draw_13 : decode cX12_draw 13 = .ok (.if_icmp .le 5, 3) := by decide +kernel
theorem dX12_draw_16 : decode cX12_draw 16 = .ok (.iconst (-1), 1) := by decide +kernel
theorem dX12_draw_17 : decode cX12_draw 17 = .ok (.ireturn, 1) := by decide +kernel
theorem dX13_thrown_0 : decode cX13_thrown 0 = .ok (.aload_n 0, 1) := by decide +kernel
theorem dX13_thrown_1 : decode cX13_thrown 1 = .ok (.getfield 228, 3) := by decide +kernel
theorem dX13_thrown_4 : decode cX13_thrown 4 = .ok (.ireturn, 1) := by decide +kernel
theorem dX13_feed_0 : decode cX13_feed 0 = .ok (.aload_n 0, 1) := by decide +kernel
theorem dX13_feed_1 : decode cX13_feed 1 = .ok (.iconst 0, 1) := by decide +kernel
theorem dX13_feed_2 : decode cX13_feed 2 = .ok (.putfield 228, 3) := by decide +kernel
theorem dX13_feed_5 : decode cX13_feed 5 = .ok (.aload_n 0, 1) := by decide +kernel
theorem dX13_feed_6 : decode cX13_feed 6 = .ok (.getfield 259, 3) := by decide +kernel
theorem dX13_feed_9 : decode cX13_feed 9 = .ok (.iload_n 1, 1) := by decide +kernel
theorem dX13_feed_10 : decode cX13_feed 10 = .ok (.invokestatic 262, 3) := by decide +kernel
theorem dX13_feed_13 : decode cX13_feed 13 = .ok (.iadd, 1) := by decide +kernel
theorem dX13_feed_14 : decode cX13_feed 14 = .ok (.iload_n 2, 1) := by decide +kernel
theorem dX13_feed_15 : decode cX13_feed 15 = .ok (.invokestatic 262, 3) := by decide +kernel
theorem dX13_feed_18 : decode cX13_feed 18 = .ok (.iadd, 1) := by decide +kernel
theorem dX13_feed_19 : decode cX13_feed 19 = .ok (.iload_n 3, 1) := by decide +kernel
theorem dX13_feed_20 : decode cX13_feed 20 = .ok (.invokestatic 262, 3) := by decide +kernel
theorem dX13_feed_23 : decode cX13_feed 23 = .ok (.iadd, 1) := by decide +kernel
theorem dX13_feed_24 : decode cX13_feed 24 = .ok (.iload 4, 2) := by decide +kernel
theorem dX13_feed_26 : decode cX13_feed 26 = .ok (.invokestatic 262, 3) := by decide +kernel
theorem dX13_feed_29 : decode cX13_feed 29 = .ok (.iadd, 1) := by decide +kernel
theorem dX13_feed_30 : decode cX13_feed 30 = .ok (.iload 5, 2) := by decide +kernel
theorem dX13_feed_32 : decode cX13_feed 32 = .ok (.invokestatic 262, 3) := by decide +kernel
theorem dX13_feed_35 : decode cX13_feed 35 = .ok (.iadd, 1) := by decide +kernel
theorem dX13_feed_36 : decode cX13_feed 36 = .ok (.sipush 200, 3) := by decide +kernel
theorem dX13_feed_39 : decode cX13_feed 39 = .ok (.if_icmp .le 5, 3) := by decide +kernel
theorem dX13_feed_44 : decode cX13_feed 44 = .ok (.aload_n 0, 1) := by decide +kernel
theorem dX13_feed_45 : decode cX13_feed 45 = .ok (.iload_n 1, 1) := by decide +kernel
theorem dX13_feed_46 : decode cX13_feed 46 = .ok (.invokevirtual 266, 3) := by decide +kernel
theorem dX13_feed_49 : decode cX13_feed 49 = .ok (.aload_n 0, 1) := by decide +kernel
theorem dX13_feed_50 : decode cX13_feed 50 = .ok (.iload_n 2, 1) := by decide +kernel
theorem dX13_feed_51 : decode cX13_feed 51 = .ok (.invokevirtual 266, 3) := by decide +kernel
theorem dX13_feed_54 : decode cX13_feed 54 = .ok (.aload_n 0, 1) := by decide +kernel
theorem dX13_feed_55 : decode cX13_feed 55 = .ok (.iload_n 3, 1) := by decide +kernel
theorem dX13_feed_56 : decode cX13_feed 56 = .ok (.invokevirtual 266, 3) := by decide +kernel
theorem dX13_feed_59 : decode cX13_feed 59 = .ok (.aload_n 0, 1) := by decide +kernel
theorem dX13_feed_60 : decode cX13_feed 60 = .ok (.iload 4, 2) := by decide +kernel
theorem dX13_feed_62 : decode cX13_feed 62 = .ok (.invokevirtual 266, 3) := by decide +kernel
theorem dX13_feed_65 : decode cX13_feed 65 = .ok (.aload_n 0, 1) := by decide +kernel
theorem dX13_feed_66 : decode cX13_feed 66 = .ok (.iload 5, 2) := by decide +kernel
theorem dX13_feed_68 : decode cX13_feed 68 = .ok (.invokevirtual 266, 3) := by decide +kernel
theorem dX13_feed_71 : decode cX13_feed 71 = .ok (.aload_n 0, 1) := by decide +kernel
theorem dX13_feed_72 : decode cX13_feed 72 = .ok (.getfield 259, 3) := by decide +kernel
theorem dX13_feed_75 : decode cX13_feed 75 = .ok (.ireturn, 1) := by decide +kernel
theorem dX13_score_0 : decode cX13_score 0 = .ok (.aload_n 0, 1) := by decide +kernel
theorem dX13_score_1 : decode cX13_score 1 = .ok (.iconst 0, 1) := by decide +kernel
theorem dX13_score_2 : decode cX13_score 2 = .ok (.putfield 228, 3) := by decide +kernel
theorem dX13_score_5 : decode cX13_score 5 = .ok (.aload_n 0, 1) := by decide +kernel
theorem dX13_score_6 : decode cX13_score 6 = .ok (.iload_n 1, 1) := by decide +kernel
theorem dX13_score_7 : decode cX13_score 7 = .ok (.invokevirtual 252, 3) := by decide +kernel
theorem dX13_score_10 : decode cX13_score 10 = .ok (.ifCond .ne 5, 3) := by decide +kernel
theorem dX13_score_13 : decode cX13_score 13 = .ok (.iconst 0, 1) := by decide +kernel
theorem dX13_score_14 : decode cX13_score 14 = .ok (.ireturn, 1) := by decide +kernel
theorem dX13_score_15 : decode cX13_score 15 = .ok (.aload_n 0, 1) := by decide +kernel
theorem dX13_score_16 : decode cX13_score 16 = .ok (.iconst 0, 1) := by decide +kernel
theorem dX13_score_17 : decode cX13_score 17 = .ok (.putfield 447, 3) := by decide +kernel
theorem dX13_score_20 : decode cX13_score 20 = .ok (.aload_n 0, 1) := by decide +kernel
theorem dX13_score_21 : decode cX13_score 21 = .ok (.getfield 447, 3) := by decide +kernel
theorem dX13_score_24 : decode cX13_score 24 = .ok (.aload_n 0, 1) := by decide +kernel
theorem dX13_score_25 : decode cX13_score 25 = .ok (.getfield 390, 3) := by decide +kernel
theorem dX13_score_28 : decode cX13_score 28 = .ok (.if_icmp .ge 29, 3) := by decide +kernel
theorem dX13_score_57 : decode cX13_score 57 = .ok (.iconst 0, 1) := by decide +kernel
theorem dX13_score_58 : decode cX13_score 58 = .ok (.istore_n 2, 1) := by decide +kernel
theorem dX13_score_59 : decode cX13_score 59 = .ok (.iload_n 2, 1) := by decide +kernel
theorem dX13_score_60 : decode cX13_score 60 = .ok (.aload_n 0, 1) := by decide +kernel
theorem dX13_score_61 : decode cX13_score 61 = .ok (.getfield 239, 3) := by decide +kernel
theorem dX13_score_64 : decode cX13_score 64 = .ok (.if_icmp .ge 92, 3) := by decide +kernel
theorem dX13_score_156 : decode cX13_score 156 = .ok (.aload_n 0, 1) := by decide +kernel
theorem dX13_score_157 : decode cX13_score 157 = .ok (.invokevirtual 377, 3) := by decide +kernel
theorem dX13_score_160 : decode cX13_score 160 = .ok (.aload_n 0, 1) := by decide +kernel
theorem dX13_score_161 : decode cX13_score 161 = .ok (.getfield 44, 3) := by decide +kernel
theorem dX13_score_164 : decode cX13_score 164 = .ok (.bipush 99, 2) := by decide +kernel
theorem dX13_score_166 : decode cX13_score 166 = .ok (.aload_n 0, 1) := by decide +kernel
theorem dX13_score_167 : decode cX13_score 167 = .ok (.getfield 447, 3) := by decide +kernel
theorem dX13_score_170 : decode cX13_score 170 = .ok (.iastore, 1) := by decide +kernel
theorem dX13_score_171 : decode cX13_score 171 = .ok (.iconst 0, 1) := by decide +kernel
theorem dX13_score_172 : decode cX13_score 172 = .ok (.aload_n 0, 1) := by decide +kernel
theorem dX13_score_173 : decode cX13_score 173 = .ok (.getfield 447, 3) := by decide +kernel
theorem dX13_score_176 : decode cX13_score 176 = .ok (.iconst 1, 1) := by decide +kernel
theorem dX13_score_177 : decode cX13_score 177 = .ok (.isub, 1) := by decide +kernel
theorem dX13_score_178 : decode cX13_score 178 = .ok (.aload_n 0, 1) := by decide +kernel
theorem dX13_score_179 : decode cX13_score 179 = .ok (.bipush 116, 2) := by decide +kernel
theorem dX13_score_181 : decode cX13_score 181 = .ok (.iload_n 1, 1) := by decide +kernel
theorem dX13_score_182 : decode cX13_score 182 = .ok (.iload_n 1, 1) := by decide +kernel
theorem dX13_score_183 : decode cX13_score 183 = .ok (.invokevirtual 380, 3) := by decide +kernel
theorem dX13_score_186 : decode cX13_score 186 = .ok (.invokestatic 383, 3) := by decide +kernel
theorem dX13_score_189 : decode cX13_score 189 = .ok (.invokestatic 385, 3) := by decide +kernel
theorem dX13_score_192 : decode cX13_score 192 = .ok (.istore_n 2, 1) := by decide +kernel
theorem dX13_score_193 : decode cX13_score 193 = .ok (.iconst 0, 1) := by decide +kernel
theorem dX13_score_194 : decode cX13_score 194 = .ok (.istore_n 3, 1) := by decide +kernel
theorem dX13_score_195 : decode cX13_score 195 = .ok (.iload_n 3, 1) := by decide +kernel
theorem dX13_score_196 : decode cX13_score 196 = .ok (.aload_n 0, 1) := by decide +kernel
theorem dX13_score_197 : decode cX13_score 197 = .ok (.getfield 239, 3) := by decide +kernel
theorem dX13_score_200 : decode cX13_score 200 = .ok (.if_icmp .ge 175, 3) := by decide +kernel
theorem dX13_score_375 : decode cX13_score 375 = .ok (.iconst 1, 1) := by decide +kernel
theorem dX13_score_376 : decode cX13_score 376 = .ok (.ireturn, 1) := by decide +kernel
theorem dX13_thrown__0 : decode cX13_thrown_ 0 = .ok (.aload_n 0, 1) := by decide +kernel
theorem dX13_thrown__1 : decode cX13_thrown_ 1 = .ok (.iload_n 3, 1) := by decide +kernel
theorem dX13_thrown__2 : decode cX13_thrown_ 2 = .ok (.invokevirtual 450, 3) := by decide +kernel
theorem dX13_thrown__5 : decode cX13_thrown_ 5 = .ok (.ifCond .eq 34, 3) := by decide +kernel
theorem dX13_thrown__8 : decode cX13_thrown_ 8 = .ok (.iload_n 1, 1) := by decide +kernel
theorem dX13_thrown__9 : decode cX13_thrown_ 9 = .ok (.iconst 0, 1) := by decide +kernel
theorem dX13_thrown__10 : decode cX13_thrown_ 10 = .ok (.aload_n 0, 1) := by decide +kernel
theorem dX13_thrown__11 : decode cX13_thrown_ 11 = .ok (.getfield 447, 3) := by decide +kernel
theorem dX13_thrown__14 : decode cX13_thrown_ 14 = .ok (.iconst 1, 1) := by decide +kernel
theorem dX13_thrown__15 : decode cX13_thrown_ 15 = .ok (.isub, 1) := by decide +kernel
theorem dX13_thrown__16 : decode cX13_thrown_ 16 = .ok (.invokestatic 235, 3) := by decide +kernel
theorem dX13_thrown__19 : decode cX13_thrown_ 19 = .ok (.ifCond .eq 20, 3) := by decide +kernel
theorem dX13_thrown__39 : decode cX13_thrown_ 39 = .ok (.iconst (-1), 1) := by decide +kernel
theorem dX13_thrown__40 : decode cX13_thrown_ 40 = .ok (.ireturn, 1) := by decide +kernel
theorem dX13_total_0 : decode cX13_total 0 = .ok (.aload_n 0, 1) := by decide +kernel
theorem dX13_total_1 : decode cX13_total 1 = .ok (.iload_n 2, 1) := by decide +kernel
theorem dX13_total_2 : decode cX13_total 2 = .ok (.invokevirtual 450, 3) := by decide +kernel
theorem dX13_total_5 : decode cX13_total 5 = .ok (.ifCond .eq 29, 3) := by decide +kernel
theorem dX13_total_8 : decode cX13_total 8 = .ok (.aload_n 0, 1) := by decide +kernel
theorem dX13_total_9 : decode cX13_total 9 = .ok (.iload_n 1, 1) := by decide +kernel
theorem dX13_total_10 : decode cX13_total 10 = .ok (.invokevirtual 245, 3) := by decide +kernel
theorem dX13_total_13 : decode cX13_total 13 = .ok (.ifCond .eq 21, 3) := by decide +kernel
theorem dX13_total_34 : decode cX13_total 34 = .ok (.iconst (-1), 1) := by decide +kernel
theorem dX13_total_35 : decode cX13_total 35 = .ok (.ireturn, 1) := by decide +kernel
theorem dX13_ranked_0 : decode cX13_ranked 0 = .ok (.aload_n 0, 1) := by decide +kernel
theorem dX13_ranked_1 : decode cX13_ranked 1 = .ok (.iload_n 2, 1) := by decide +kernel
theorem dX13_ranked_2 : decode cX13_ranked 2 = .ok (.invokevirtual 450, 3) := by decide +kernel
theorem dX13_ranked_5 : decode cX13_ranked 5 = .ok (.ifCond .ne 5, 3) := by decide +kernel
theorem dX13_ranked_8 : decode cX13_ranked 8 = .ok (.iconst (-1), 1) := by decide +kernel
theorem dX13_ranked_9 : decode cX13_ranked 9 = .ok (.ireturn, 1) := by decide +kernel
theorem dX13_ranked_10 : decode cX13_ranked 10 = .ok (.iconst 0, 1) := by decide +kernel
theorem dX13_ranked_11 : decode cX13_ranked 11 = .ok (.istore_n 3, 1) := by decide +kernel
theorem dX13_ranked_12 : decode cX13_ranked 12 = .ok (.iload_n 3, 1) := by decide +kernel
theorem dX13_ranked_13 : decode cX13_ranked 13 = .ok (.aload_n 0, 1) := by decide +kernel
theorem dX13_ranked_14 : decode cX13_ranked 14 = .ok (.getfield 239, 3) := by decide +kernel
theorem dX13_ranked_17 : decode cX13_ranked 17 = .ok (.if_icmp .ge 86, 3) := by decide +kernel
theorem dX13_ranked_103 : decode cX13_ranked 103 = .ok (.iconst (-1), 1) := by decide +kernel
theorem dX13_ranked_104 : decode cX13_ranked 104 = .ok (.ireturn, 1) := by decide +kernel
def A_c_feed : List Cond := [.methodLink RX12 99 yX12_bytesIn, .static yX12_bytesIn, .initialized RX12, .fieldLink RX12 19 "UnlikeBoats" "tape" "LUnlikeBoats$Tape;", .fieldLink RX12 103 "UnlikeBoats$Tape" "length" "I", .methodLink RX12 106 yX10_put, .instanceMethod yX10_put, .selects RX10 yX10_put yX10_put, .initialized RX10, .code yX12_bytesIn cX12_bytesIn 3 (some .int), .code yX10_put cX10_put 4 none, .fieldLink RX10 27 "UnlikeBoats$Tape" "length" "I", .fieldLink RX10 9 "UnlikeBoats$Tape" "bytes" "[I"]
def v_c_feed : List Cond := .code yX12_feed cX12_feed 7 (some .int) :: (A_c_feed ++ wsX120 ++ wsX100)
theorem iw_c_feed_X12 : ∀ w ∈ wsX120, w ∈ v_c_feed := fun _ h => List.mem_cons_of_mem _ (List.mem_append_left _ (List.mem_append_right _ (h)))
theorem iw_c_feed_X10 : ∀ w ∈ wsX100, w ∈ v_c_feed := fun _ h => List.mem_cons_of_mem _ (List.mem_append_right _ (h))
theorem gb_c_feed_c_bytesIn0 : GoodIn v_c_feed (.code yX12_bytesIn cX12_bytesIn 3 (some .int) :: A_c_bytesIn) := (List.forall_mem_cons.mpr ⟨⟨List.mem_of_getElem? (i := 10) rfl, good_of_word rfl⟩, (fun _ h => nomatch h)⟩)
theorem gb_c_feed_c_bytesIn : GoodIn v_c_feed v_c_bytesIn := gb_c_feed_c_bytesIn0
theorem g_c_feed_c_bytesIn_99 : GoodIn v_c_feed (va_wsS RX12 99 yX12_bytesIn v_c_bytesIn) := goodIn_app (List.forall_mem_cons.mpr ⟨⟨List.mem_of_getElem? (i := 1) rfl, good_of_word rfl⟩, (List.forall_mem_cons.mpr ⟨⟨List.mem_of_getElem? (i := 2) rfl, good_of_word rfl⟩, (List.forall_mem_cons.mpr ⟨⟨List.mem_of_getElem? (i := 3) rfl, good_of_word rfl⟩, (fun _ h => nomatch h)⟩)⟩)⟩) gb_c_feed_c_bytesIn
theorem gb_c_feed_c_put0 : GoodIn v_c_feed (.code yX10_put cX10_put 4 none :: A_c_put) := (List.forall_mem_cons.mpr ⟨⟨List.mem_of_getElem? (i := 11) rfl, good_of_word rfl⟩, (List.forall_mem_cons.mpr ⟨⟨List.mem_of_getElem? (i := 12) rfl, good_of_word rfl⟩, (List.forall_mem_cons.mpr ⟨⟨List.mem_of_getElem? (i := 13) rfl, good_of_word rfl⟩, (fun _ h => nomatch h)⟩)⟩)⟩)
theorem gb_c_feed_c_put : GoodIn v_c_feed v_c_put := (goodIn_ca gb_c_feed_c_put0 (goodIn_sub iw_c_feed_X10 gw_X10))
theorem g_c_feed_c_put_106 : GoodIn v_c_feed (wsV RX12 106 RX10 yX10_put v_c_put) := goodIn_app (List.forall_mem_cons.mpr ⟨⟨List.mem_of_getElem? (i := 6) rfl, good_of_word rfl⟩, (List.forall_mem_cons.mpr ⟨⟨List.mem_of_getElem? (i := 7) rfl, good_of_word rfl⟩, (List.forall_mem_cons.mpr ⟨⟨List.mem_of_getElem? (i := 8) rfl, good_of_word rfl⟩, (List.forall_mem_cons.mpr ⟨⟨List.mem_of_getElem? (i := 9) rfl, good_of_word rfl⟩, (fun _ h => nomatch h)⟩)⟩)⟩)⟩) gb_c_feed_c_put
set_option maxHeartbeats 4000000 in
set_option maxRecDepth 100000 in
theorem c_feed (l : Launch) (dC : Nat → ClassId) (dI : Nat → Nat → Nat) (x : Nat) (bk : Nat) (tp : Nat) (sh : Nat) (sc : Nat) (he : Nat) (of : Nat) (tby : Nat) (tst : Nat) (tla : Nat) (tbe : Nat) (tsu : Nat) (cI : ClassId) (g0 : Nat → Int32) (a0 : Int32) (a1 : Int32) (a2 : Int32) (a3 : Int32) (a4 : Int32) (sz : Nat)  : Met l yX12_feed v_c_feed ({ frames := 1, cells := 0, slots := 0, locals := 40 }) (va_Pc [.ref x, .int a0, .int a1, .int a2, .int a3, .int a4] (fun U => U.heap.size = sz ∧ va_P (dC, dI) vwCl [(x, .inr (13, [.ref bk, .ref tp, .ref sh, .ref sc, .ref he, .ref of])), (tp, .inr (11, [.ref tby, .int 0, .int 0, .int 0, .ref tst, .int 0, .ref tla, .ref tbe, .ref tsu, .int 0])), (tby, .inl (cI, 200, .inl g0))] U.heap ∧ va_K (dC, dI) vwCl [(cI, .int)] U ∧ va_D (fun _ => True) [(x, .inr (13, [.ref bk, .ref tp, .ref sh, .ref sc, .ref he, .ref of])), (tp, .inr (11, [.ref tby, .int 0, .int 0, .int 0, .ref tst, .int 0, .ref tla, .ref tbe, .ref tsu, .int 0])), (tby, .inl (cI, 200, .inl g0))])) (va_Qi (S := Unit) (fun r _ => r = nI (nbN a0 + nbN a1 + nbN a2 + nbN a3 + nbN a4)) (fun _ _ => True) (va_A [(x, .inr (13, [.ref bk, .ref tp, .ref sh, .ref sc, .ref he, .ref of])), (tp, .inr (11, [.ref tby, .int 0, .int 0, .int 0, .ref tst, .int 0, .ref tla, .ref tbe, .ref tsu, .int 0])), (tby, .inl (cI, 200, .inl g0))] sz)) 0 0 (va_A [(x, .inr (13, [.ref bk, .ref tp, .ref sh, .ref sc, .ref he, .ref of])), (tp, .inr (11, [.ref tby, .int 0, .int 0, .int 0, .ref tst, .int 0, .ref tla, .ref tbe, .ref tsu, .int 0])), (tby, .inl (cI, 200, .inl g0))] sz) := by
  refine Met.ofW (cc := cX12_feed) (maxL := 7) (ret := (some .int)) (by decide) rfl ?_
  intro p e s m args below meth c s₁ B hml hv
  obtain ⟨rfl, hsz, hP, hK, hD0⟩ := hv
  have hx := B.exec
  have hb := B.bytes
  have hr := B.returns
  have hts := atoms_spec (ws := v_c_feed) B.pre
  have hown : s.vm.findClass RX12 = some m.cls := findClass_of_methodNamed B.named
  have hlocks := B.notSynchronized
  subst hsz
  have hD := hD0.self (sz := s.heap.size)
  generalize hAe : va_A [(x, .inr (13, [.ref bk, .ref tp, .ref sh, .ref sc, .ref he, .ref of])), (tp, .inr (11, [.ref tby, .int 0, .int 0, .int 0, .ref tst, .int 0, .ref tla, .ref tbe, .ref tsu, .int 0])), (tby, .inl (cI, 200, .inl g0))] s.heap.size = A at hD ⊢
  have hA : ∀ q : Nat, s.heap.size ≤ q → A q := fun q h => by rw [← hAe]; exact Or.inr h
  have hS : va_S A s.heap s.heap [] := va_S.rf
  have hP : va_P (dC, dI) vwCl [(x, .inr (13, [.ref bk, .ref tp, .ref sh, .ref sc, .ref he, .ref of])), (tp, .inr (11, [.ref tby, .int 0, .int 0, .int 0, .ref tst, .int 0, .ref tla, .ref tbe, .ref tsu, .int 0])), (tby, .inl (cI, 200, .inl g0))] s.heap := hP
  have hl := lv_entry ([.ref x, .int a0, .int a1, .int a2, .int a3, .int a4]) (n := 7) (Nat.le_of_ble_eq_true rfl)
  rw [lg_entry_eq]
  generalize (lg_sl ([.ref x, .int a0, .int a1, .int a2, .int a3, .int a4]) ++ List.replicate (7 - (lg_sl ([.ref x, .int a0, .int a1, .int a2, .int a3, .int a4])).length) Slot.unset).toArray = ls at hl ⊢
  have hl : lv_has ls 7 [(0, .ref x), (1, .int a0), (2, .int a1), (3, .int a2), (4, .int a3), (5, .int a4)] := hl
  have hb0 := nbN_le a0
  have hb1 := nbN_le a1
  have hb2 := nbN_le a2
  have hb3 := nbN_le a3
  have hb4 := nbN_le a4
  have hP : va_P (dC, dI) vwCl [(x, .inr (13, [.ref bk, .ref tp, .ref sh, .ref sc, .ref he, .ref of])), (tp, .inr (11, [.ref tby, .int (nI 0), .int 0, .int 0, .ref tst, .int 0, .ref tla, .ref tbe, .ref tsu, .int 0])), (tby, .inl (cI, 200, .inl g0))] s.heap := hP
  have hD : va_D A [(x, .inr (13, [.ref bk, .ref tp, .ref sh, .ref sc, .ref he, .ref of])), (tp, .inr (11, [.ref tby, .int (nI 0), .int 0, .int 0, .ref tst, .int 0, .ref tla, .ref tbe, .ref tsu, .int 0])), (tby, .inl (cI, 200, .inl g0))] := hD
  refine lv_iload_n hx hb dX12_feed_0 rfl (lv_at hl 1 rfl) ?_
  refine va_calli (va_runS (As := [.int a0]) (rest := []) ⟨hx, hb, hml, hown, hts⟩ (c_bytesIn l a0) (va_cwS 1 hts g_c_feed_c_bytesIn_99 rfl rfl rfl (by decide +kernel) ⟨Nat.le_of_ble_eq_true rfl, Nat.le_of_ble_eq_true rfl⟩) ⟨fun _ _ _ _ q => q, fun _ _ _ => ⟨rfl, trivial⟩⟩ rfl rfl hl.1 rfl (lv_room (Nat.le_of_ble_eq_true rfl)) dX12_feed_1 ⟨Nat.le_of_ble_eq_true rfl, Nat.le_of_ble_eq_true rfl⟩) hS (fun _ _ h => h.elim) (fun _ h => h.elim) (fun r1 u2 t H1 locs ht hvm hw hB hz1 hk1 hS => ?_)
  have hP := ub_keep hP hk1
  generalize H1 = H at hP hS ⊢
  obtain rfl : (nI (nbN a0) : Int32) = r1 := hw.symm
  refine lv_iload_n hx hb dX12_feed_4 rfl (lv_at hl 2 rfl) ?_
  refine va_calli (va_runS (As := [.int a1]) (rest := [.int (nI (nbN a0))]) ⟨hx, hb, hml, hown, hts⟩ (c_bytesIn l a1) (va_cwS 1 hts g_c_feed_c_bytesIn_99 rfl rfl rfl (by decide +kernel) ⟨Nat.le_of_ble_eq_true rfl, Nat.le_of_ble_eq_true rfl⟩) ⟨fun _ _ _ _ q => q, fun _ _ _ => ⟨rfl, trivial⟩⟩ rfl rfl hl.1 rfl (lv_room (Nat.le_of_ble_eq_true rfl)) dX12_feed_5 ⟨Nat.le_of_ble_eq_true rfl, Nat.le_of_ble_eq_true rfl⟩) hS (fun _ _ h => h.elim) (fun _ h => h.elim) (fun r3 u4 t H1 locs ht hvm hw hB hz1 hk1 hS => ?_)
  have hP := ub_keep hP hk1
  generalize H1 = H at hP hS ⊢
  obtain rfl : (nI (nbN a1) : Int32) = r3 := hw.symm
  refine lv_iadd hx hb dX12_feed_8 ?_
  refine lv_topi (fun y5 ey5 => ?_)
  obtain rfl : (nI ((nbN a0) + (nbN a1)) : Int32) = y5 := (ey5.trans (nI_add _ _)).symm
  refine lv_iload_n hx hb dX12_feed_9 rfl (lv_at hl 3 rfl) ?_
  refine va_calli (va_runS (As := [.int a2]) (rest := [.int (nI ((nbN a0) + (nbN a1)))]) ⟨hx, hb, hml, hown, hts⟩ (c_bytesIn l a2) (va_cwS 1 hts g_c_feed_c_bytesIn_99 rfl rfl rfl (by decide +kernel) ⟨Nat.le_of_ble_eq_true rfl, Nat.le_of_ble_eq_true rfl⟩) ⟨fun _ _ _ _ q => q, fun _ _ _ => ⟨rfl, trivial⟩⟩ rfl rfl hl.1 rfl (lv_room (Nat.le_of_ble_eq_true rfl)) dX12_feed_10 ⟨Nat.le_of_ble_eq_true rfl, Nat.le_of_ble_eq_true rfl⟩) hS (fun _ _ h => h.elim) (fun _ h => h.elim) (fun r6 u7 t H1 locs ht hvm hw hB hz1 hk1 hS => ?_)
  have hP := ub_keep hP hk1
  generalize H1 = H at hP hS ⊢
  obtain rfl : (nI (nbN a2) : Int32) = r6 := hw.symm
  refine lv_iadd hx hb dX12_feed_13 ?_
  refine lv_topi (fun y8 ey8 => ?_)
  obtain rfl : (nI (((nbN a0) + (nbN a1)) + (nbN a2)) : Int32) = y8 := (ey8.trans (nI_add _ _)).symm
  refine lv_iload hx hb dX12_feed_14 (lv_at hl 4 rfl) ?_
  refine va_calli (va_runS (As := [.int a3]) (rest := [.int (nI (((nbN a0) + (nbN a1)) + (nbN a2)))]) ⟨hx, hb, hml, hown, hts⟩ (c_bytesIn l a3) (va_cwS 1 hts g_c_feed_c_bytesIn_99 rfl rfl rfl (by decide +kernel) ⟨Nat.le_of_ble_eq_true rfl, Nat.le_of_ble_eq_true rfl⟩) ⟨fun _ _ _ _ q => q, fun _ _ _ => ⟨rfl, trivial⟩⟩ rfl rfl hl.1 rfl (lv_room (Nat.le_of_ble_eq_true rfl)) dX12_feed_16 ⟨Nat.le_of_ble_eq_true rfl, Nat.le_of_ble_eq_true rfl⟩) hS (fun _ _ h => h.elim) (fun _ h => h.elim) (fun r9 u10 t H1 locs ht hvm hw hB hz1 hk1 hS => ?_)
  have hP := ub_keep hP hk1
  generalize H1 = H at hP hS ⊢
  obtain rfl : (nI (nbN a3) : Int32) = r9 := hw.symm
  refine lv_iadd hx hb dX12_feed_19 ?_
  refine lv_topi (fun y11 ey11 => ?_)
  obtain rfl : (nI ((((nbN a0) + (nbN a1)) + (nbN a2)) + (nbN a3)) : Int32) = y11 := (ey11.trans (nI_add _ _)).symm
  refine lv_iload hx hb dX12_feed_20 (lv_at hl 5 rfl) ?_
  refine va_calli (va_runS (As := [.int a4]) (rest := [.int (nI ((((nbN a0) + (nbN a1)) + (nbN a2)) + (nbN a3)))]) ⟨hx, hb, hml, hown, hts⟩ (c_bytesIn l a4) (va_cwS 1 hts g_c_feed_c_bytesIn_99 rfl rfl rfl (by decide +kernel) ⟨Nat.le_of_ble_eq_true rfl, Nat.le_of_ble_eq_true rfl⟩) ⟨fun _ _ _ _ q => q, fun _ _ _ => ⟨rfl, trivial⟩⟩ rfl rfl hl.1 rfl (lv_room (Nat.le_of_ble_eq_true rfl)) dX12_feed_22 ⟨Nat.le_of_ble_eq_true rfl, Nat.le_of_ble_eq_true rfl⟩) hS (fun _ _ h => h.elim) (fun _ h => h.elim) (fun r12 u13 t H1 locs ht hvm hw hB hz1 hk1 hS => ?_)
  have hP := ub_keep hP hk1
  generalize H1 = H at hP hS ⊢
  obtain rfl : (nI (nbN a4) : Int32) = r12 := hw.symm
  refine lv_iadd hx hb dX12_feed_25 ?_
  refine lv_topi (fun y14 ey14 => ?_)
  obtain rfl : (nI (((((nbN a0) + (nbN a1)) + (nbN a2)) + (nbN a3)) + (nbN a4)) : Int32) = y14 := (ey14.trans (nI_add _ _)).symm
  refine lv_istore (lv' := [(6, .int (nI (((((nbN a0) + (nbN a1)) + (nbN a2)) + (nbN a3)) + (nbN a4)))), (0, .ref x), (1, .int a0), (2, .int a1), (3, .int a2), (4, .int a3), (5, .int a4)]) hx hb dX12_feed_26 hl (by decide) rfl (fun ls hl => ?_)
  refine lv_aload_n hx hb dX12_feed_28 rfl (lv_at hl 1 rfl) ?_
  refine va_get (D := (dC, dI)) (ci := 13) (v := .ref tp) (C := RX12) (T := TX12) (N := 6) hx hb hts iw_c_feed_X12 hown hK hP 0 rfl rfl 1 (by decide) (hts (.fieldLink RX12 19 "UnlikeBoats" "tape" "LUnlikeBoats$Tape;") (List.mem_of_getElem? (i := 4) rfl)) (fun _ h9 => h9) rfl dX12_feed_29 ?_
  refine va_get (D := (dC, dI)) (ci := 11) (v := .int (nI 0)) (C := RX10) (T := TX10) (N := 10) hx hb hts iw_c_feed_X10 hown hK hP 1 rfl rfl 1 (by decide) (hts (.fieldLink RX12 103 "UnlikeBoats$Tape" "length" "I") (List.mem_of_getElem? (i := 5) rfl)) (fun _ h9 => h9) rfl dX12_feed_32 ?_
  refine lv_iload hx hb dX12_feed_35 (lv_at hl 0 rfl) ?_
  refine lv_iadd hx hb dX12_feed_37 ?_
  refine lv_topi (fun y15 ey15 => ?_)
  obtain rfl : (nI (0 + (((((nbN a0) + (nbN a1)) + (nbN a2)) + (nbN a3)) + (nbN a4))) : Int32) = y15 := (ey15.trans (nI_add _ _)).symm
  refine lv_sipush (v := 200) hx hb dX12_feed_38 (by decide) ?_
  refine lv_icmp_le (tgt := 46) hx hb dX12_feed_41 (by decide) (fun c16 => ?_) (fun c16 => by first | exact absurd c16 (nI_le (a := (0 + (((((nbN a0) + (nbN a1)) + (nbN a2)) + (nbN a3)) + (nbN a4)))) (b := 200) (by omega) (by omega)) | exact absurd (nI_le (a := (0 + (((((nbN a0) + (nbN a1)) + (nbN a2)) + (nbN a3)) + (nbN a4)))) (b := 200) (by omega) (by omega)) c16)
  refine lv_aload_n hx hb dX12_feed_46 rfl (lv_at hl 1 rfl) ?_
  refine va_get (D := (dC, dI)) (ci := 13) (v := .ref tp) (C := RX12) (T := TX12) (N := 6) hx hb hts iw_c_feed_X12 hown hK hP 0 rfl rfl 1 (by decide) (hts (.fieldLink RX12 19 "UnlikeBoats" "tape" "LUnlikeBoats$Tape;") (List.mem_of_getElem? (i := 4) rfl)) (fun _ h9 => h9) rfl dX12_feed_47 ?_
  refine lv_iload_n hx hb dX12_feed_50 rfl (lv_at hl 2 rfl) ?_
  have hPc := hP.sub (ws' := [(tp, .inr (11, [.ref tby, .int (nI 0), .int 0, .int 0, .ref tst, .int 0, .ref tla, .ref tbe, .ref tsu, .int 0])), (tby, .inl (cI, 200, .inl g0))]) [1, 2] rfl
  have hKc := hK.sub (tys' := [(cI, .int)]) [0] rfl
  have hDc := hD.sub (ws' := [(tp, .inr (11, [.ref tby, .int (nI 0), .int 0, .int 0, .ref tst, .int 0, .ref tla, .ref tbe, .ref tsu, .int 0])), (tby, .inl (cI, 200, .inl g0))]) [1, 2] (by decide) rfl
  have hFc := va_free (wc := [(tp, .inr (11, [.ref tby, .int (nI 0), .int 0, .int 0, .ref tst, .int 0, .ref tla, .ref tbe, .ref tsu, .int 0])), (tby, .inl (cI, 200, .inl g0))]) hD hS hA [1, 2] rfl
  refine va_callv (va_runV (As := [.int a0]) (rest := []) ⟨hx, hb, hml, hown, hts⟩ (c_put l dC dI tp tby tst tla tbe tsu cI g0 (0) (0 + nbN a0) a0 H.size rfl (by omega)) (cwV 1 hts g_c_feed_c_put_106 rfl rfl rfl (by decide +kernel) ⟨Nat.le_of_ble_eq_true rfl, Nat.le_of_ble_eq_true rfl⟩) ⟨fun a U g mk q => by obtain ⟨e0, e1, qP, qK, qD⟩ := q; exact ⟨e0, e1, qP, va_K.moved (u := U) (U := U.calling g mk a) (Vm.Alike.refl U.vm) qK, qD⟩, va_recv hK hP (ci := 11) (q0 := 1) rfl rfl, fun U hU hW => ⟨rfl, by rw [hU], by rw [hU]; exact hPc, va_K.moved hW.alike hKc, hDc.weaken (fun _ _ _ _ => trivial)⟩⟩ rfl rfl hl.1 rfl (lv_room (Nat.le_of_ble_eq_true rfl)) dX12_feed_51 ⟨Nat.le_of_ble_eq_true rfl, Nat.le_of_ble_eq_true rfl⟩) hS (fun q _ h => hFc q h) hFc (fun u18 t H1 locs ht hvm hw hB hz1 hk1 hS => ?_)
  obtain ⟨hP1, hK1, hD1⟩ := hB
  rw [ht] at hP1
  obtain ⟨hP, hD⟩ := va_join (wr := [(x, .inr (13, [.ref bk, .ref tp, .ref sh, .ref sc, .ref he, .ref of]))]) (w1 := [(tp, .inr (11, [.ref tby, .int (nI (0 + nbN a0)), .int 0, .int 0, .ref tst, .int 0, .ref tla, .ref tbe, .ref tsu, .int 0])), (tby, .inl (cI, 200, .inl u18))]) hP hD [1, 2] [0] rfl rfl (by decide) (by decide) hk1 hFc hP1 hD1
  have hK1 := va_K.moved hvm.symm hK1
  have hK := hK.app hK1
  have hK : va_K (dC, dI) vwCl [(cI, .int), (cI, .int)] s := hK
  generalize H1 = H at hP hS ⊢
  have hP : va_P (dC, dI) vwCl [(x, .inr (13, [.ref bk, .ref tp, .ref sh, .ref sc, .ref he, .ref of])), (tp, .inr (11, [.ref tby, .int (nI (0 + nbN a0)), .int 0, .int 0, .ref tst, .int 0, .ref tla, .ref tbe, .ref tsu, .int 0])), (tby, .inl (cI, 200, .inl u18))] H := hP
  have hD : va_D A [(x, .inr (13, [.ref bk, .ref tp, .ref sh, .ref sc, .ref he, .ref of])), (tp, .inr (11, [.ref tby, .int (nI (0 + nbN a0)), .int 0, .int 0, .ref tst, .int 0, .ref tla, .ref tbe, .ref tsu, .int 0])), (tby, .inl (cI, 200, .inl u18))] := hD
  have hK := hK.sub (tys' := [(cI, .int)]) [0] rfl
  refine W.widen (k := 0) (n := 0) (by omega) (by omega) ?_
  refine lv_aload_n hx hb dX12_feed_54 rfl (lv_at hl 1 rfl) ?_
  refine va_get (D := (dC, dI)) (ci := 13) (v := .ref tp) (C := RX12) (T := TX12) (N := 6) hx hb hts iw_c_feed_X12 hown hK hP 0 rfl rfl 1 (by decide) (hts (.fieldLink RX12 19 "UnlikeBoats" "tape" "LUnlikeBoats$Tape;") (List.mem_of_getElem? (i := 4) rfl)) (fun _ h9 => h9) rfl dX12_feed_55 ?_
  refine lv_iload_n hx hb dX12_feed_58 rfl (lv_at hl 3 rfl) ?_
  have hPc := hP.sub (ws' := [(tp, .inr (11, [.ref tby, .int (nI (0 + nbN a0)), .int 0, .int 0, .ref tst, .int 0, .ref tla, .ref tbe, .ref tsu, .int 0])), (tby, .inl (cI, 200, .inl u18))]) [1, 2] rfl
  have hKc := hK.sub (tys' := [(cI, .int)]) [0] rfl
  have hDc := hD.sub (ws' := [(tp, .inr (11, [.ref tby, .int (nI (0 + nbN a0)), .int 0, .int 0, .ref tst, .int 0, .ref tla, .ref tbe, .ref tsu, .int 0])), (tby, .inl (cI, 200, .inl u18))]) [1, 2] (by decide) rfl
  have hFc := va_free (wc := [(tp, .inr (11, [.ref tby, .int (nI (0 + nbN a0)), .int 0, .int 0, .ref tst, .int 0, .ref tla, .ref tbe, .ref tsu, .int 0])), (tby, .inl (cI, 200, .inl u18))]) hD hS hA [1, 2] rfl
  refine va_callv (va_runV (As := [.int a1]) (rest := []) ⟨hx, hb, hml, hown, hts⟩ (c_put l dC dI tp tby tst tla tbe tsu cI u18 (0 + nbN a0) ((0 + nbN a0) + nbN a1) a1 H.size rfl (by omega)) (cwV 1 hts g_c_feed_c_put_106 rfl rfl rfl (by decide +kernel) ⟨Nat.le_of_ble_eq_true rfl, Nat.le_of_ble_eq_true rfl⟩) ⟨fun a U g mk q => by obtain ⟨e0, e1, qP, qK, qD⟩ := q; exact ⟨e0, e1, qP, va_K.moved (u := U) (U := U.calling g mk a) (Vm.Alike.refl U.vm) qK, qD⟩, va_recv hK hP (ci := 11) (q0 := 1) rfl rfl, fun U hU hW => ⟨rfl, by rw [hU], by rw [hU]; exact hPc, va_K.moved hW.alike hKc, hDc.weaken (fun _ _ _ _ => trivial)⟩⟩ rfl rfl hl.1 rfl (lv_room (Nat.le_of_ble_eq_true rfl)) dX12_feed_59 ⟨Nat.le_of_ble_eq_true rfl, Nat.le_of_ble_eq_true rfl⟩) hS (fun q _ h => hFc q h) hFc (fun u20 t H1 locs ht hvm hw hB hz1 hk1 hS => ?_)
  obtain ⟨hP1, hK1, hD1⟩ := hB
  rw [ht] at hP1
  obtain ⟨hP, hD⟩ := va_join (wr := [(x, .inr (13, [.ref bk, .ref tp, .ref sh, .ref sc, .ref he, .ref of]))]) (w1 := [(tp, .inr (11, [.ref tby, .int (nI ((0 + nbN a0) + nbN a1)), .int 0, .int 0, .ref tst, .int 0, .ref tla, .ref tbe, .ref tsu, .int 0])), (tby, .inl (cI, 200, .inl u20))]) hP hD [1, 2] [0] rfl rfl (by decide) (by decide) hk1 hFc hP1 hD1
  have hK1 := va_K.moved hvm.symm hK1
  have hK := hK.app hK1
  have hK : va_K (dC, dI) vwCl [(cI, .int), (cI, .int)] s := hK
  generalize H1 = H at hP hS ⊢
  have hP : va_P (dC, dI) vwCl [(x, .inr (13, [.ref bk, .ref tp, .ref sh, .ref sc, .ref he, .ref of])), (tp, .inr (11, [.ref tby, .int (nI ((0 + nbN a0) + nbN a1)), .int 0, .int 0, .ref tst, .int 0, .ref tla, .ref tbe, .ref tsu, .int 0])), (tby, .inl (cI, 200, .inl u20))] H := hP
  have hD : va_D A [(x, .inr (13, [.ref bk, .ref tp, .ref sh, .ref sc, .ref he, .ref of])), (tp, .inr (11, [.ref tby, .int (nI ((0 + nbN a0) + nbN a1)), .int 0, .int 0, .ref tst, .int 0, .ref tla, .ref tbe, .ref tsu, .int 0])), (tby, .inl (cI, 200, .inl u20))] := hD
  have hK := hK.sub (tys' := [(cI, .int)]) [0] rfl
  refine W.widen (k := 0) (n := 0) (by omega) (by omega) ?_
  refine lv_aload_n hx hb dX12_feed_62 rfl (lv_at hl 1 rfl) ?_
  refine va_get (D := (dC, dI)) (ci := 13) (v := .ref tp) (C := RX12) (T := TX12) (N := 6) hx hb hts iw_c_feed_X12 hown hK hP 0 rfl rfl 1 (by decide) (hts (.fieldLink RX12 19 "UnlikeBoats" "tape" "LUnlikeBoats$Tape;") (List.mem_of_getElem? (i := 4) rfl)) (fun _ h9 => h9) rfl dX12_feed_63 ?_
  refine lv_iload_n hx hb dX12_feed_66 rfl (lv_at hl 4 rfl) ?_
  have hPc := hP.sub (ws' := [(tp, .inr (11, [.ref tby, .int (nI ((0 + nbN a0) + nbN a1)), .int 0, .int 0, .ref tst, .int 0, .ref tla, .ref tbe, .ref tsu, .int 0])), (tby, .inl (cI, 200, .inl u20))]) [1, 2] rfl
  have hKc := hK.sub (tys' := [(cI, .int)]) [0] rfl
  have hDc := hD.sub (ws' := [(tp, .inr (11, [.ref tby, .int (nI ((0 + nbN a0) + nbN a1)), .int 0, .int 0, .ref tst, .int 0, .ref tla, .ref tbe, .ref tsu, .int 0])), (tby, .inl (cI, 200, .inl u20))]) [1, 2] (by decide) rfl
  have hFc := va_free (wc := [(tp, .inr (11, [.ref tby, .int (nI ((0 + nbN a0) + nbN a1)), .int 0, .int 0, .ref tst, .int 0, .ref tla, .ref tbe, .ref tsu, .int 0])), (tby, .inl (cI, 200, .inl u20))]) hD hS hA [1, 2] rfl
  refine va_callv (va_runV (As := [.int a2]) (rest := []) ⟨hx, hb, hml, hown, hts⟩ (c_put l dC dI tp tby tst tla tbe tsu cI u20 ((0 + nbN a0) + nbN a1) (((0 + nbN a0) + nbN a1) + nbN a2) a2 H.size rfl (by omega)) (cwV 1 hts g_c_feed_c_put_106 rfl rfl rfl (by decide +kernel) ⟨Nat.le_of_ble_eq_true rfl, Nat.le_of_ble_eq_true rfl⟩) ⟨fun a U g mk q => by obtain ⟨e0, e1, qP, qK, qD⟩ := q; exact ⟨e0, e1, qP, va_K.moved (u := U) (U := U.calling g mk a) (Vm.Alike.refl U.vm) qK, qD⟩, va_recv hK hP (ci := 11) (q0 := 1) rfl rfl, fun U hU hW => ⟨rfl, by rw [hU], by rw [hU]; exact hPc, va_K.moved hW.alike hKc, hDc.weaken (fun _ _ _ _ => trivial)⟩⟩ rfl rfl hl.1 rfl (lv_room (Nat.le_of_ble_eq_true rfl)) dX12_feed_67 ⟨Nat.le_of_ble_eq_true rfl, Nat.le_of_ble_eq_true rfl⟩) hS (fun q _ h => hFc q h) hFc (fun u22 t H1 locs ht hvm hw hB hz1 hk1 hS => ?_)
  obtain ⟨hP1, hK1, hD1⟩ := hB
  rw [ht] at hP1
  obtain ⟨hP, hD⟩ := va_join (wr := [(x, .inr (13, [.ref bk, .ref tp, .ref sh, .ref sc, .ref he, .ref of]))]) (w1 := [(tp, .inr (11, [.ref tby, .int (nI (((0 + nbN a0) + nbN a1) + nbN a2)), .int 0, .int 0, .ref tst, .int 0, .ref tla, .ref tbe, .ref tsu, .int 0])), (tby, .inl (cI, 200, .inl u22))]) hP hD [1, 2] [0] rfl rfl (by decide) (by decide) hk1 hFc hP1 hD1
  have hK1 := va_K.moved hvm.symm hK1
  have hK := hK.app hK1
  have hK : va_K (dC, dI) vwCl [(cI, .int), (cI, .int)] s := hK
  generalize H1 = H at hP hS ⊢
  have hP : va_P (dC, dI) vwCl [(x, .inr (13, [.ref bk, .ref tp, .ref sh, .ref sc, .ref he, .ref of])), (tp, .inr (11, [.ref tby, .int (nI (((0 + nbN a0) + nbN a1) + nbN a2)), .int 0, .int 0, .ref tst, .int 0, .ref tla, .ref tbe, .ref tsu, .int 0])), (tby, .inl (cI, 200, .inl u22))] H := hP
  have hD : va_D A [(x, .inr (13, [.ref bk, .ref tp, .ref sh, .ref sc, .ref he, .ref of])), (tp, .inr (11, [.ref tby, .int (nI (((0 + nbN a0) + nbN a1) + nbN a2)), .int 0, .int 0, .ref tst, .int 0, .ref tla, .ref tbe, .ref tsu, .int 0])), (tby, .inl (cI, 200, .inl u22))] := hD
  have hK := hK.sub (tys' := [(cI, .int)]) [0] rfl
  refine W.widen (k := 0) (n := 0) (by omega) (by omega) ?_
  refine lv_aload_n hx hb dX12_feed_70 rfl (lv_at hl 1 rfl) ?_
  refine va_get (D := (dC, dI)) (ci := 13) (v := .ref tp) (C := RX12) (T := TX12) (N := 6) hx hb hts iw_c_feed_X12 hown hK hP 0 rfl rfl 1 (by decide) (hts (.fieldLink RX12 19 "UnlikeBoats" "tape" "LUnlikeBoats$Tape;") (List.mem_of_getElem? (i := 4) rfl)) (fun _ h9 => h9) rfl dX12_feed_71 ?_
  refine lv_iload hx hb dX12_feed_74 (lv_at hl 5 rfl) ?_
  have hPc := hP.sub (ws' := [(tp, .inr (11, [.ref tby, .int (nI (((0 + nbN a0) + nbN a1) + nbN a2)), .int 0, .int 0, .ref tst, .int 0, .ref tla, .ref tbe, .ref tsu, .int 0])), (tby, .inl (cI, 200, .inl u22))]) [1, 2] rfl
  have hKc := hK.sub (tys' := [(cI, .int)]) [0] rfl
  have hDc := hD.sub (ws' := [(tp, .inr (11, [.ref tby, .int (nI (((0 + nbN a0) + nbN a1) + nbN a2)), .int 0, .int 0, .ref tst, .int 0, .ref tla, .ref tbe, .ref tsu, .int 0])), (tby, .inl (cI, 200, .inl u22))]) [1, 2] (by decide) rfl
  have hFc := va_free (wc := [(tp, .inr (11, [.ref tby, .int (nI (((0 + nbN a0) + nbN a1) + nbN a2)), .int 0, .int 0, .ref tst, .int 0, .ref tla, .ref tbe, .ref tsu, .int 0])), (tby, .inl (cI, 200, .inl u22))]) hD hS hA [1, 2] rfl
  refine va_callv (va_runV (As := [.int a3]) (rest := []) ⟨hx, hb, hml, hown, hts⟩ (c_put l dC dI tp tby tst tla tbe tsu cI u22 (((0 + nbN a0) + nbN a1) + nbN a2) ((((0 + nbN a0) + nbN a1) + nbN a2) + nbN a3) a3 H.size rfl (by omega)) (cwV 1 hts g_c_feed_c_put_106 rfl rfl rfl (by decide +kernel) ⟨Nat.le_of_ble_eq_true rfl, Nat.le_of_ble_eq_true rfl⟩) ⟨fun a U g mk q => by obtain ⟨e0, e1, qP, qK, qD⟩ := q; exact ⟨e0, e1, qP, va_K.moved (u := U) (U := U.calling g mk a) (Vm.Alike.refl U.vm) qK, qD⟩, va_recv hK hP (ci := 11) (q0 := 1) rfl rfl, fun U hU hW => ⟨rfl, by rw [hU], by rw [hU]; exact hPc, va_K.moved hW.alike hKc, hDc.weaken (fun _ _ _ _ => trivial)⟩⟩ rfl rfl hl.1 rfl (lv_room (Nat.le_of_ble_eq_true rfl)) dX12_feed_76 ⟨Nat.le_of_ble_eq_true rfl, Nat.le_of_ble_eq_true rfl⟩) hS (fun q _ h => hFc q h) hFc (fun u24 t H1 locs ht hvm hw hB hz1 hk1 hS => ?_)
  obtain ⟨hP1, hK1, hD1⟩ := hB
  rw [ht] at hP1
  obtain ⟨hP, hD⟩ := va_join (wr := [(x, .inr (13, [.ref bk, .ref tp, .ref sh, .ref sc, .ref he, .ref of]))]) (w1 := [(tp, .inr (11, [.ref tby, .int (nI ((((0 + nbN a0) + nbN a1) + nbN a2) + nbN a3)), .int 0, .int 0, .ref tst, .int 0, .ref tla, .ref tbe, .ref tsu, .int 0])), (tby, .inl (cI, 200, .inl u24))]) hP hD [1, 2] [0] rfl rfl (by decide) (by decide) hk1 hFc hP1 hD1
  have hK1 := va_K.moved hvm.symm hK1
  have hK := hK.app hK1
  have hK : va_K (dC, dI) vwCl [(cI, .int), (cI, .int)] s := hK
  generalize H1 = H at hP hS ⊢
  have hP : va_P (dC, dI) vwCl [(x, .inr (13, [.ref bk, .ref tp, .ref sh, .ref sc, .ref he, .ref of])), (tp, .inr (11, [.ref tby, .int (nI ((((0 + nbN a0) + nbN a1) + nbN a2) + nbN a3)), .int 0, .int 0, .ref tst, .int 0, .ref tla, .ref tbe, .ref tsu, .int 0])), (tby, .inl (cI, 200, .inl u24))] H := hP
  have hD : va_D A [(x, .inr (13, [.ref bk, .ref tp, .ref sh, .ref sc, .ref he, .ref of])), (tp, .inr (11, [.ref tby, .int (nI ((((0 + nbN a0) + nbN a1) + nbN a2) + nbN a3)), .int 0, .int 0, .ref tst, .int 0, .ref tla, .ref tbe, .ref tsu, .int 0])), (tby, .inl (cI, 200, .inl u24))] := hD
  have hK := hK.sub (tys' := [(cI, .int)]) [0] rfl
  refine W.widen (k := 0) (n := 0) (by omega) (by omega) ?_
  refine lv_aload_n hx hb dX12_feed_79 rfl (lv_at hl 1 rfl) ?_
  refine va_get (D := (dC, dI)) (ci := 13) (v := .ref tp) (C := RX12) (T := TX12) (N := 6) hx hb hts iw_c_feed_X12 hown hK hP 0 rfl rfl 1 (by decide) (hts (.fieldLink RX12 19 "UnlikeBoats" "tape" "LUnlikeBoats$Tape;") (List.mem_of_getElem? (i := 4) rfl)) (fun _ h9 => h9) rfl dX12_feed_80 ?_
  refine lv_iload hx hb dX12_feed_83 (lv_at hl 6 rfl) ?_
  have hPc := hP.sub (ws' := [(tp, .inr (11, [.ref tby, .int (nI ((((0 + nbN a0) + nbN a1) + nbN a2) + nbN a3)), .int 0, .int 0, .ref tst, .int 0, .ref tla, .ref tbe, .ref tsu, .int 0])), (tby, .inl (cI, 200, .inl u24))]) [1, 2] rfl
  have hKc := hK.sub (tys' := [(cI, .int)]) [0] rfl
  have hDc := hD.sub (ws' := [(tp, .inr (11, [.ref tby, .int (nI ((((0 + nbN a0) + nbN a1) + nbN a2) + nbN a3)), .int 0, .int 0, .ref tst, .int 0, .ref tla, .ref tbe, .ref tsu, .int 0])), (tby, .inl (cI, 200, .inl u24))]) [1, 2] (by decide) rfl
  have hFc := va_free (wc := [(tp, .inr (11, [.ref tby, .int (nI ((((0 + nbN a0) + nbN a1) + nbN a2) + nbN a3)), .int 0, .int 0, .ref tst, .int 0, .ref tla, .ref tbe, .ref tsu, .int 0])), (tby, .inl (cI, 200, .inl u24))]) hD hS hA [1, 2] rfl
  refine va_callv (va_runV (As := [.int a4]) (rest := []) ⟨hx, hb, hml, hown, hts⟩ (c_put l dC dI tp tby tst tla tbe tsu cI u24 ((((0 + nbN a0) + nbN a1) + nbN a2) + nbN a3) (((((0 + nbN a0) + nbN a1) + nbN a2) + nbN a3) + nbN a4) a4 H.size rfl (by omega)) (cwV 1 hts g_c_feed_c_put_106 rfl rfl rfl (by decide +kernel) ⟨Nat.le_of_ble_eq_true rfl, Nat.le_of_ble_eq_true rfl⟩) ⟨fun a U g mk q => by obtain ⟨e0, e1, qP, qK, qD⟩ := q; exact ⟨e0, e1, qP, va_K.moved (u := U) (U := U.calling g mk a) (Vm.Alike.refl U.vm) qK, qD⟩, va_recv hK hP (ci := 11) (q0 := 1) rfl rfl, fun U hU hW => ⟨rfl, by rw [hU], by rw [hU]; exact hPc, va_K.moved hW.alike hKc, hDc.weaken (fun _ _ _ _ => trivial)⟩⟩ rfl rfl hl.1 rfl (lv_room (Nat.le_of_ble_eq_true rfl)) dX12_feed_85 ⟨Nat.le_of_ble_eq_true rfl, Nat.le_of_ble_eq_true rfl⟩) hS (fun q _ h => hFc q h) hFc (fun u26 t H1 locs ht hvm hw hB hz1 hk1 hS => ?_)
  obtain ⟨hP1, hK1, hD1⟩ := hB
  rw [ht] at hP1
  obtain ⟨hP, hD⟩ := va_join (wr := [(x, .inr (13, [.ref bk, .ref tp, .ref sh, .ref sc, .ref he, .ref of]))]) (w1 := [(tp, .inr (11, [.ref tby, .int (nI (((((0 + nbN a0) + nbN a1) + nbN a2) + nbN a3) + nbN a4)), .int 0, .int 0, .ref tst, .int 0, .ref tla, .ref tbe, .ref tsu, .int 0])), (tby, .inl (cI, 200, .inl u26))]) hP hD [1, 2] [0] rfl rfl (by decide) (by decide) hk1 hFc hP1 hD1
  have hK1 := va_K.moved hvm.symm hK1
  have hK := hK.app hK1
  have hK : va_K (dC, dI) vwCl [(cI, .int), (cI, .int)] s := hK
  generalize H1 = H at hP hS ⊢
  have hP : va_P (dC, dI) vwCl [(x, .inr (13, [.ref bk, .ref tp, .ref sh, .ref sc, .ref he, .ref of])), (tp, .inr (11, [.ref tby, .int (nI (((((0 + nbN a0) + nbN a1) + nbN a2) + nbN a3) + nbN a4)), .int 0, .int 0, .ref tst, .int 0, .ref tla, .ref tbe, .ref tsu, .int 0])), (tby, .inl (cI, 200, .inl u26))] H := hP
  have hD : va_D A [(x, .inr (13, [.ref bk, .ref tp, .ref sh, .ref sc, .ref he, .ref of])), (tp, .inr (11, [.ref tby, .int (nI (((((0 + nbN a0) + nbN a1) + nbN a2) + nbN a3) + nbN a4)), .int 0, .int 0, .ref tst, .int 0, .ref tla, .ref tbe, .ref tsu, .int 0])), (tby, .inl (cI, 200, .inl u26))] := hD
  have hK := hK.sub (tys' := [(cI, .int)]) [0] rfl
  refine W.widen (k := 0) (n := 0) (by omega) (by omega) ?_
  refine lv_aload_n hx hb dX12_feed_88 rfl (lv_at hl 1 rfl) ?_
  refine va_get (D := (dC, dI)) (ci := 13) (v := .ref tp) (C := RX12) (T := TX12) (N := 6) hx hb hts iw_c_feed_X12 hown hK hP 0 rfl rfl 1 (by decide) (hts (.fieldLink RX12 19 "UnlikeBoats" "tape" "LUnlikeBoats$Tape;") (List.mem_of_getElem? (i := 4) rfl)) (fun _ h9 => h9) rfl dX12_feed_89 ?_
  refine va_get (D := (dC, dI)) (ci := 11) (v := .int (nI (((((0 + nbN a0) + nbN a1) + nbN a2) + nbN a3) + nbN a4))) (C := RX10) (T := TX10) (N := 10) hx hb hts iw_c_feed_X10 hown hK hP 1 rfl rfl 1 (by decide) (hts (.fieldLink RX12 103 "UnlikeBoats$Tape" "length" "I") (List.mem_of_getElem? (i := 5) rfl)) (fun _ h9 => h9) rfl dX12_feed_92 ?_
  exact W.iret (v := nI (((((0 + nbN a0) + nbN a1) + nbN a2) + nbN a3) + nbN a4)) hx hb hr (fun t ht hW => ⟨⟨nI (((((0 + nbN a0) + nbN a1) + nbN a2) + nbN a3) + nbN a4), (), rfl, by rw [Nat.zero_add], trivial⟩, hS.F ht⟩) hS.2.2 dX12_feed_95
def A_m_feed : List Cond := [.fieldLink RX13 228 "UnlikeBoatsModel" "thrown" "I", .fieldLink RX13 259 "UnlikeBoatsModel" "length" "I", .methodLink RX13 262 yX13_bytesIn, .static yX13_bytesIn, .initialized RX13, .methodLink RX13 266 yX13_put, .instanceMethod yX13_put, .selects RX13 yX13_put yX13_put, .code yX13_bytesIn cX13_bytesIn 3 (some .int), .code yX13_put cX13_put 3 none, .fieldLink RX13 28 "UnlikeBoatsModel" "tape" "[B"]
def v_m_feed : List Cond := .code yX13_feed cX13_feed 6 (some .int) :: (A_m_feed ++ wsX130)
theorem iw_m_feed_X13 : ∀ w ∈ wsX130, w ∈ v_m_feed := fun _ h => List.mem_cons_of_mem _ (List.mem_append_right _ (h))
theorem gb_m_feed_m_bytesIn0 : GoodIn v_m_feed (.code yX13_bytesIn cX13_bytesIn 3 (some .int) :: A_m_bytesIn) := (List.forall_mem_cons.mpr ⟨⟨List.mem_of_getElem? (i := 9) rfl, good_of_word rfl⟩, (fun _ h => nomatch h)⟩)
theorem gb_m_feed_m_bytesIn : GoodIn v_m_feed v_m_bytesIn := gb_m_feed_m_bytesIn0
theorem g_m_feed_m_bytesIn_262 : GoodIn v_m_feed (va_wsS RX13 262 yX13_bytesIn v_m_bytesIn) := goodIn_app (List.forall_mem_cons.mpr ⟨⟨List.mem_of_getElem? (i := 3) rfl, good_of_word rfl⟩, (List.forall_mem_cons.mpr ⟨⟨List.mem_of_getElem? (i := 4) rfl, good_of_word rfl⟩, (List.forall_mem_cons.mpr ⟨⟨List.mem_of_getElem? (i := 5) rfl, good_of_word rfl⟩, (fun _ h => nomatch h)⟩)⟩)⟩) gb_m_feed_m_bytesIn
theorem gb_m_feed_m_put0 : GoodIn v_m_feed (.code yX13_put cX13_put 3 none :: A_m_put) := (List.forall_mem_cons.mpr ⟨⟨List.mem_of_getElem? (i := 10) rfl, good_of_word rfl⟩, (List.forall_mem_cons.mpr ⟨⟨List.mem_of_getElem? (i := 11) rfl, good_of_word rfl⟩, (List.forall_mem_cons.mpr ⟨⟨List.mem_of_getElem? (i := 2) rfl, good_of_word rfl⟩, (fun _ h => nomatch h)⟩)⟩)⟩)
theorem gb_m_feed_m_put : GoodIn v_m_feed v_m_put := (goodIn_ca gb_m_feed_m_put0 (goodIn_sub iw_m_feed_X13 gw_X13))
theorem g_m_feed_m_put_266 : GoodIn v_m_feed (wsV RX13 266 RX13 yX13_put v_m_put) := goodIn_app (List.forall_mem_cons.mpr ⟨⟨List.mem_of_getElem? (i := 6) rfl, good_of_word rfl⟩, (List.forall_mem_cons.mpr ⟨⟨List.mem_of_getElem? (i := 7) rfl, good_of_word rfl⟩, (List.forall_mem_cons.mpr ⟨⟨List.mem_of_getElem? (i := 8) rfl, good_of_word rfl⟩, (List.forall_mem_cons.mpr ⟨⟨List.mem_of_getElem? (i := 5) rfl, good_of_word rfl⟩, (fun _ h => nomatch h)⟩)⟩)⟩)⟩) gb_m_feed_m_put
set_option maxHeartbeats 4000000 in
set_option maxRecDepth 100000 in
theorem m_feed (l : Launch) (dC : Nat → ClassId) (dI : Nat → Nat → Nat) (h : Nat) (f : Nat → Value) (tb : Nat) (cB : ClassId) (g0 : Nat → Int32) (a0 : Int32) (a1 : Int32) (a2 : Int32) (a3 : Int32) (a4 : Int32) (sz : Nat) (hf_thrown : f 0 = .int 0) (hf_tape : f 10 = .ref tb) (hf_length : f 16 = .int 0) : Met l yX13_feed v_m_feed ({ frames := 1, cells := 0, slots := 0, locals := 40 }) (va_Pc [.ref h, .int a0, .int a1, .int a2, .int a3, .int a4] (fun U => U.heap.size = sz ∧ va_P (dC, dI) vwCl [(h, .inr (14, mL f)), (tb, .inl (cB, 200, .inl g0))] U.heap ∧ va_K (dC, dI) vwCl [(cB, .byte)] U ∧ va_D (fun _ => True) [(h, .inr (14, mL f)), (tb, .inl (cB, 200, .inl g0))])) (va_Qi (S := Unit) (fun r _ => r = nI (nbN a0 + nbN a1 + nbN a2 + nbN a3 + nbN a4)) (fun _ _ => True) (va_A [(h, .inr (14, mL f)), (tb, .inl (cB, 200, .inl g0))] sz)) 0 0 (va_A [(h, .inr (14, mL f)), (tb, .inl (cB, 200, .inl g0))] sz) := by
  refine Met.ofW (cc := cX13_feed) (maxL := 6) (ret := (some .int)) (by decide) rfl ?_
  intro p e s m args below meth c s₁ B hml hv
  obtain ⟨rfl, hsz, hP, hK, hD0⟩ := hv
  have hx := B.exec
  have hb := B.bytes
  have hr := B.returns
  have hts := atoms_spec (ws := v_m_feed) B.pre
  have hown : s.vm.findClass RX13 = some m.cls := findClass_of_methodNamed B.named
  have hlocks := B.notSynchronized
  subst hsz
  have hD := hD0.self (sz := s.heap.size)
  generalize hAe : va_A [(h, .inr (14, mL f)), (tb, .inl (cB, 200, .inl g0))] s.heap.size = A at hD ⊢
  have hA : ∀ q : Nat, s.heap.size ≤ q → A q := fun q h => by rw [← hAe]; exact Or.inr h
  have hS : va_S A s.heap s.heap [] := va_S.rf
  have hP : va_P (dC, dI) vwCl [(h, .inr (14, mL f)), (tb, .inl (cB, 200, .inl g0))] s.heap := hP
  have hl := lv_entry ([.ref h, .int a0, .int a1, .int a2, .int a3, .int a4]) (n := 6) (Nat.le_of_ble_eq_true rfl)
  rw [lg_entry_eq]
  generalize (lg_sl ([.ref h, .int a0, .int a1, .int a2, .int a3, .int a4]) ++ List.replicate (6 - (lg_sl ([.ref h, .int a0, .int a1, .int a2, .int a3, .int a4])).length) Slot.unset).toArray = ls at hl ⊢
  have hl : lv_has ls 6 [(0, .ref h), (1, .int a0), (2, .int a1), (3, .int a2), (4, .int a3), (5, .int a4)] := hl
  have hb0 := nbN_le a0
  have hb1 := nbN_le a1
  have hb2 := nbN_le a2
  have hb3 := nbN_le a3
  have hb4 := nbN_le a4
  have hf_length : f 16 = .int (nI 0) := hf_length
  refine lv_aload_n hx hb dX13_feed_0 rfl (lv_at hl 0 rfl) ?_
  refine lv_iconst (v := 0) hx hb dX13_feed_1 (by decide) ?_
  refine va_put (D := (dC, dI)) (ci := 14) (v := .int 0) (ty := .int) (C := RX13) (T := TX13) (N := 97) hx hb hts iw_m_feed_X13 tyX13 tyX13_ok nmX13 hown hK hP hD hS 0 rfl rfl 0 (by decide) (hts (.fieldLink RX13 228 "UnlikeBoatsModel" "thrown" "I") (List.mem_of_getElem? (i := 1) rfl)) (fun _ h9 => h9) rfl (by decide +kernel) rfl rfl (mL_lt (Nat.le_of_ble_eq_true rfl)) dX13_feed_2 (fun H locs hP hD hS => ?_)
  have hP : va_P (dC, dI) vwCl [(h, .inr (14, (mL f).set 0 (.int 0))), (tb, .inl (cB, 200, .inl g0))] H := hP
  have hD : va_D A [(h, .inr (14, (mL f).set 0 (.int 0))), (tb, .inl (cB, 200, .inl g0))] := hD
  rw [mL_same hf_thrown] at hP hD
  refine lv_aload_n hx hb dX13_feed_5 rfl (lv_at hl 0 rfl) ?_
  refine va_get (D := (dC, dI)) (ci := 14) (v := .int (nI 0)) (C := RX13) (T := TX13) (N := 97) hx hb hts iw_m_feed_X13 hown hK hP 0 rfl rfl 16 (by decide) (hts (.fieldLink RX13 259 "UnlikeBoatsModel" "length" "I") (List.mem_of_getElem? (i := 2) rfl)) (fun _ h9 => h9) (mL_some (Nat.le_of_ble_eq_true rfl) hf_length) dX13_feed_6 ?_
  refine lv_iload_n hx hb dX13_feed_9 rfl (lv_at hl 1 rfl) ?_
  refine va_calli (va_runS (As := [.int a0]) (rest := [.int (nI 0)]) ⟨hx, hb, hml, hown, hts⟩ (m_bytesIn l a0) (va_cwS 1 hts g_m_feed_m_bytesIn_262 rfl rfl rfl (by decide +kernel) ⟨Nat.le_of_ble_eq_true rfl, Nat.le_of_ble_eq_true rfl⟩) ⟨fun _ _ _ _ q => q, fun _ _ _ => ⟨rfl, trivial⟩⟩ rfl rfl hl.1 rfl (lv_room (Nat.le_of_ble_eq_true rfl)) dX13_feed_10 ⟨Nat.le_of_ble_eq_true rfl, Nat.le_of_ble_eq_true rfl⟩) hS (fun _ _ h => h.elim) (fun _ h => h.elim) (fun r1 u2 t H1 locs ht hvm hw hB hz1 hk1 hS => ?_)
  have hP := ub_keep hP hk1
  generalize H1 = H at hP hS ⊢
  obtain rfl : (nI (nbN a0) : Int32) = r1 := hw.symm
  refine lv_iadd hx hb dX13_feed_13 ?_
  refine lv_topi (fun y3 ey3 => ?_)
  obtain rfl : (nI (0 + (nbN a0)) : Int32) = y3 := (ey3.trans (nI_add _ _)).symm
  refine lv_iload_n hx hb dX13_feed_14 rfl (lv_at hl 2 rfl) ?_
  refine va_calli (va_runS (As := [.int a1]) (rest := [.int (nI (0 + (nbN a0)))]) ⟨hx, hb, hml, hown, hts⟩ (m_bytesIn l a1) (va_cwS 1 hts g_m_feed_m_bytesIn_262 rfl rfl rfl (by decide +kernel) ⟨Nat.le_of_ble_eq_true rfl, Nat.le_of_ble_eq_true rfl⟩) ⟨fun _ _ _ _ q => q, fun _ _ _ => ⟨rfl, trivial⟩⟩ rfl rfl hl.1 rfl (lv_room (Nat.le_of_ble_eq_true rfl)) dX13_feed_15 ⟨Nat.le_of_ble_eq_true rfl, Nat.le_of_ble_eq_true rfl⟩) hS (fun _ _ h => h.elim) (fun _ h => h.elim) (fun r4 u5 t H1 locs ht hvm hw hB hz1 hk1 hS => ?_)
  have hP := ub_keep hP hk1
  generalize H1 = H at hP hS ⊢
  obtain rfl : (nI (nbN a1) : Int32) = r4 := hw.symm
  refine lv_iadd hx hb dX13_feed_18 ?_
  refine lv_topi (fun y6 ey6 => ?_)
  obtain rfl : (nI ((0 + (nbN a0)) + (nbN a1)) : Int32) = y6 := (ey6.trans (nI_add _ _)).symm
  refine lv_iload_n hx hb dX13_feed_19 rfl (lv_at hl 3 rfl) ?_
  refine va_calli (va_runS (As := [.int a2]) (rest := [.int (nI ((0 + (nbN a0)) + (nbN a1)))]) ⟨hx, hb, hml, hown, hts⟩ (m_bytesIn l a2) (va_cwS 1 hts g_m_feed_m_bytesIn_262 rfl rfl rfl (by decide +kernel) ⟨Nat.le_of_ble_eq_true rfl, Nat.le_of_ble_eq_true rfl⟩) ⟨fun _ _ _ _ q => q, fun _ _ _ => ⟨rfl, trivial⟩⟩ rfl rfl hl.1 rfl (lv_room (Nat.le_of_ble_eq_true rfl)) dX13_feed_20 ⟨Nat.le_of_ble_eq_true rfl, Nat.le_of_ble_eq_true rfl⟩) hS (fun _ _ h => h.elim) (fun _ h => h.elim) (fun r7 u8 t H1 locs ht hvm hw hB hz1 hk1 hS => ?_)
  have hP := ub_keep hP hk1
  generalize H1 = H at hP hS ⊢
  obtain rfl : (nI (nbN a2) : Int32) = r7 := hw.symm
  refine lv_iadd hx hb dX13_feed_23 ?_
  refine lv_topi (fun y9 ey9 => ?_)
  obtain rfl : (nI (((0 + (nbN a0)) + (nbN a1)) + (nbN a2)) : Int32) = y9 := (ey9.trans (nI_add _ _)).symm
  refine lv_iload hx hb dX13_feed_24 (lv_at hl 4 rfl) ?_
  refine va_calli (va_runS (As := [.int a3]) (rest := [.int (nI (((0 + (nbN a0)) + (nbN a1)) + (nbN a2)))]) ⟨hx, hb, hml, hown, hts⟩ (m_bytesIn l a3) (va_cwS 1 hts g_m_feed_m_bytesIn_262 rfl rfl rfl (by decide +kernel) ⟨Nat.le_of_ble_eq_true rfl, Nat.le_of_ble_eq_true rfl⟩) ⟨fun _ _ _ _ q => q, fun _ _ _ => ⟨rfl, trivial⟩⟩ rfl rfl hl.1 rfl (lv_room (Nat.le_of_ble_eq_true rfl)) dX13_feed_26 ⟨Nat.le_of_ble_eq_true rfl, Nat.le_of_ble_eq_true rfl⟩) hS (fun _ _ h => h.elim) (fun _ h => h.elim) (fun r10 u11 t H1 locs ht hvm hw hB hz1 hk1 hS => ?_)
  have hP := ub_keep hP hk1
  generalize H1 = H at hP hS ⊢
  obtain rfl : (nI (nbN a3) : Int32) = r10 := hw.symm
  refine lv_iadd hx hb dX13_feed_29 ?_
  refine lv_topi (fun y12 ey12 => ?_)
  obtain rfl : (nI ((((0 + (nbN a0)) + (nbN a1)) + (nbN a2)) + (nbN a3)) : Int32) = y12 := (ey12.trans (nI_add _ _)).symm
  refine lv_iload hx hb dX13_feed_30 (lv_at hl 5 rfl) ?_
  refine va_calli (va_runS (As := [.int a4]) (rest := [.int (nI ((((0 + (nbN a0)) + (nbN a1)) + (nbN a2)) + (nbN a3)))]) ⟨hx, hb, hml, hown, hts⟩ (m_bytesIn l a4) (va_cwS 1 hts g_m_feed_m_bytesIn_262 rfl rfl rfl (by decide +kernel) ⟨Nat.le_of_ble_eq_true rfl, Nat.le_of_ble_eq_true rfl⟩) ⟨fun _ _ _ _ q => q, fun _ _ _ => ⟨rfl, trivial⟩⟩ rfl rfl hl.1 rfl (lv_room (Nat.le_of_ble_eq_true rfl)) dX13_feed_32 ⟨Nat.le_of_ble_eq_true rfl, Nat.le_of_ble_eq_true rfl⟩) hS (fun _ _ h => h.elim) (fun _ h => h.elim) (fun r13 u14 t H1 locs ht hvm hw hB hz1 hk1 hS => ?_)
  have hP := ub_keep hP hk1
  generalize H1 = H at hP hS ⊢
  obtain rfl : (nI (nbN a4) : Int32) = r13 := hw.symm
  refine lv_iadd hx hb dX13_feed_35 ?_
  refine lv_topi (fun y15 ey15 => ?_)
  obtain rfl : (nI (((((0 + (nbN a0)) + (nbN a1)) + (nbN a2)) + (nbN a3)) + (nbN a4)) : Int32) = y15 := (ey15.trans (nI_add _ _)).symm
  refine lv_sipush (v := 200) hx hb dX13_feed_36 (by decide) ?_
  refine lv_icmp_le (tgt := 44) hx hb dX13_feed_39 (by decide) (fun c16 => ?_) (fun c16 => by first | exact absurd c16 (nI_le (a := (((((0 + (nbN a0)) + (nbN a1)) + (nbN a2)) + (nbN a3)) + (nbN a4))) (b := 200) (by omega) (by omega)) | exact absurd (nI_le (a := (((((0 + (nbN a0)) + (nbN a1)) + (nbN a2)) + (nbN a3)) + (nbN a4))) (b := 200) (by omega) (by omega)) c16)
  refine lv_aload_n hx hb dX13_feed_44 rfl (lv_at hl 0 rfl) ?_
  refine lv_iload_n hx hb dX13_feed_45 rfl (lv_at hl 1 rfl) ?_
  have hPc := hP.sub (ws' := [(h, .inr (14, mL f)), (tb, .inl (cB, 200, .inl g0))]) [0, 1] rfl
  have hKc := hK.sub (tys' := [(cB, .byte)]) [0] rfl
  have hDc := hD.sub (ws' := [(h, .inr (14, mL f)), (tb, .inl (cB, 200, .inl g0))]) [0, 1] (by decide) rfl
  have hFc := va_free (wc := [(h, .inr (14, mL f)), (tb, .inl (cB, 200, .inl g0))]) hD hS hA [0, 1] rfl
  refine va_callv (va_runV (As := [.int a0]) (rest := []) ⟨hx, hb, hml, hown, hts⟩ (m_put l dC dI h f tb cB g0 (0) (0 + nbN a0) a0 H.size hf_tape hf_length rfl (by omega)) (cwV 1 hts g_m_feed_m_put_266 rfl rfl rfl (by decide +kernel) ⟨Nat.le_of_ble_eq_true rfl, Nat.le_of_ble_eq_true rfl⟩) ⟨fun a U g mk q => by obtain ⟨e0, e1, qP, qK, qD⟩ := q; exact ⟨e0, e1, qP, va_K.moved (u := U) (U := U.calling g mk a) (Vm.Alike.refl U.vm) qK, qD⟩, va_recv hK hP (ci := 14) (q0 := 0) rfl rfl, fun U hU hW => ⟨rfl, by rw [hU], by rw [hU]; exact hPc, va_K.moved hW.alike hKc, hDc.weaken (fun _ _ _ _ => trivial)⟩⟩ rfl rfl hl.1 rfl (lv_room (Nat.le_of_ble_eq_true rfl)) dX13_feed_46 ⟨Nat.le_of_ble_eq_true rfl, Nat.le_of_ble_eq_true rfl⟩) hS (fun q _ h => hFc q h) hFc (fun u18 t H1 locs ht hvm hw hB hz1 hk1 hS => ?_)
  obtain ⟨hP1, hK1, hD1⟩ := hB
  rw [ht] at hP1
  obtain ⟨hP, hD⟩ := va_join (wr := []) (w1 := [(h, .inr (14, mL u18.1)), (tb, .inl (cB, 200, .inl u18.2))]) hP hD [0, 1] [] rfl rfl (by decide) (by decide) hk1 hFc hP1 hD1
  have hK1 := va_K.moved hvm.symm hK1
  have hK := hK.app hK1
  have hK : va_K (dC, dI) vwCl [(cB, .byte), (cB, .byte)] s := hK
  generalize H1 = H at hP hS ⊢
  have hP : va_P (dC, dI) vwCl [(h, .inr (14, mL u18.1)), (tb, .inl (cB, 200, .inl u18.2))] H := hP
  have hD : va_D A [(h, .inr (14, mL u18.1)), (tb, .inl (cB, 200, .inl u18.2))] := hD
  have hK := hK.sub (tys' := [(cB, .byte)]) [0] rfl
  refine W.widen (k := 0) (n := 0) (by omega) (by omega) ?_
  have ha_u18 := hw.1
  have hb_u18 := hw.2
  refine lv_aload_n hx hb dX13_feed_49 rfl (lv_at hl 0 rfl) ?_
  refine lv_iload_n hx hb dX13_feed_50 rfl (lv_at hl 2 rfl) ?_
  have hPc := hP.sub (ws' := [(h, .inr (14, mL u18.1)), (tb, .inl (cB, 200, .inl u18.2))]) [0, 1] rfl
  have hKc := hK.sub (tys' := [(cB, .byte)]) [0] rfl
  have hDc := hD.sub (ws' := [(h, .inr (14, mL u18.1)), (tb, .inl (cB, 200, .inl u18.2))]) [0, 1] (by decide) rfl
  have hFc := va_free (wc := [(h, .inr (14, mL u18.1)), (tb, .inl (cB, 200, .inl u18.2))]) hD hS hA [0, 1] rfl
  refine va_callv (va_runV (As := [.int a1]) (rest := []) ⟨hx, hb, hml, hown, hts⟩ (m_put l dC dI h u18.1 tb cB u18.2 (0 + nbN a0) ((0 + nbN a0) + nbN a1) a1 H.size hb_u18 ha_u18 rfl (by omega)) (cwV 1 hts g_m_feed_m_put_266 rfl rfl rfl (by decide +kernel) ⟨Nat.le_of_ble_eq_true rfl, Nat.le_of_ble_eq_true rfl⟩) ⟨fun a U g mk q => by obtain ⟨e0, e1, qP, qK, qD⟩ := q; exact ⟨e0, e1, qP, va_K.moved (u := U) (U := U.calling g mk a) (Vm.Alike.refl U.vm) qK, qD⟩, va_recv hK hP (ci := 14) (q0 := 0) rfl rfl, fun U hU hW => ⟨rfl, by rw [hU], by rw [hU]; exact hPc, va_K.moved hW.alike hKc, hDc.weaken (fun _ _ _ _ => trivial)⟩⟩ rfl rfl hl.1 rfl (lv_room (Nat.le_of_ble_eq_true rfl)) dX13_feed_51 ⟨Nat.le_of_ble_eq_true rfl, Nat.le_of_ble_eq_true rfl⟩) hS (fun q _ h => hFc q h) hFc (fun u20 t H1 locs ht hvm hw hB hz1 hk1 hS => ?_)
  obtain ⟨hP1, hK1, hD1⟩ := hB
  rw [ht] at hP1
  obtain ⟨hP, hD⟩ := va_join (wr := []) (w1 := [(h, .inr (14, mL u20.1)), (tb, .inl (cB, 200, .inl u20.2))]) hP hD [0, 1] [] rfl rfl (by decide) (by decide) hk1 hFc hP1 hD1
  have hK1 := va_K.moved hvm.symm hK1
  have hK := hK.app hK1
  have hK : va_K (dC, dI) vwCl [(cB, .byte), (cB, .byte)] s := hK
  generalize H1 = H at hP hS ⊢
  have hP : va_P (dC, dI) vwCl [(h, .inr (14, mL u20.1)), (tb, .inl (cB, 200, .inl u20.2))] H := hP
  have hD : va_D A [(h, .inr (14, mL u20.1)), (tb, .inl (cB, 200, .inl u20.2))] := hD
  have hK := hK.sub (tys' := [(cB, .byte)]) [0] rfl
  refine W.widen (k := 0) (n := 0) (by omega) (by omega) ?_
  have ha_u20 := hw.1
  have hb_u20 := hw.2
  refine lv_aload_n hx hb dX13_feed_54 rfl (lv_at hl 0 rfl) ?_
  refine lv_iload_n hx hb dX13_feed_55 rfl (lv_at hl 3 rfl) ?_
  have hPc := hP.sub (ws' := [(h, .inr (14, mL u20.1)), (tb, .inl (cB, 200, .inl u20.2))]) [0, 1] rfl
  have hKc := hK.sub (tys' := [(cB, .byte)]) [0] rfl
  have hDc := hD.sub (ws' := [(h, .inr (14, mL u20.1)), (tb, .inl (cB, 200, .inl u20.2))]) [0, 1] (by decide) rfl
  have hFc := va_free (wc := [(h, .inr (14, mL u20.1)), (tb, .inl (cB, 200, .inl u20.2))]) hD hS hA [0, 1] rfl
  refine va_callv (va_runV (As := [.int a2]) (rest := []) ⟨hx, hb, hml, hown, hts⟩ (m_put l dC dI h u20.1 tb cB u20.2 ((0 + nbN a0) + nbN a1) (((0 + nbN a0) + nbN a1) + nbN a2) a2 H.size hb_u20 ha_u20 rfl (by omega)) (cwV 1 hts g_m_feed_m_put_266 rfl rfl rfl (by decide +kernel) ⟨Nat.le_of_ble_eq_true rfl, Nat.le_of_ble_eq_true rfl⟩) ⟨fun a U g mk q => by obtain ⟨e0, e1, qP, qK, qD⟩ := q; exact ⟨e0, e1, qP, va_K.moved (u := U) (U := U.calling g mk a) (Vm.Alike.refl U.vm) qK, qD⟩, va_recv hK hP (ci := 14) (q0 := 0) rfl rfl, fun U hU hW => ⟨rfl, by rw [hU], by rw [hU]; exact hPc, va_K.moved hW.alike hKc, hDc.weaken (fun _ _ _ _ => trivial)⟩⟩ rfl rfl hl.1 rfl (lv_room (Nat.le_of_ble_eq_true rfl)) dX13_feed_56 ⟨Nat.le_of_ble_eq_true rfl, Nat.le_of_ble_eq_true rfl⟩) hS (fun q _ h => hFc q h) hFc (fun u22 t H1 locs ht hvm hw hB hz1 hk1 hS => ?_)
  obtain ⟨hP1, hK1, hD1⟩ := hB
  rw [ht] at hP1
  obtain ⟨hP, hD⟩ := va_join (wr := []) (w1 := [(h, .inr (14, mL u22.1)), (tb, .inl (cB, 200, .inl u22.2))]) hP hD [0, 1] [] rfl rfl (by decide) (by decide) hk1 hFc hP1 hD1
  have hK1 := va_K.moved hvm.symm hK1
  have hK := hK.app hK1
  have hK : va_K (dC, dI) vwCl [(cB, .byte), (cB, .byte)] s := hK
  generalize H1 = H at hP hS ⊢
  have hP : va_P (dC, dI) vwCl [(h, .inr (14, mL u22.1)), (tb, .inl (cB, 200, .inl u22.2))] H := hP
  have hD : va_D A [(h, .inr (14, mL u22.1)), (tb, .inl (cB, 200, .inl u22.2))] := hD
  have hK := hK.sub (tys' := [(cB, .byte)]) [0] rfl
  refine W.widen (k := 0) (n := 0) (by omega) (by omega) ?_
  have ha_u22 := hw.1
  have hb_u22 := hw.2
  refine lv_aload_n hx hb dX13_feed_59 rfl (lv_at hl 0 rfl) ?_
  refine lv_iload hx hb dX13_feed_60 (lv_at hl 4 rfl) ?_
  have hPc := hP.sub (ws' := [(h, .inr (14, mL u22.1)), (tb, .inl (cB, 200, .inl u22.2))]) [0, 1] rfl
  have hKc := hK.sub (tys' := [(cB, .byte)]) [0] rfl
  have hDc := hD.sub (ws' := [(h, .inr (14, mL u22.1)), (tb, .inl (cB, 200, .inl u22.2))]) [0, 1] (by decide) rfl
  have hFc := va_free (wc := [(h, .inr (14, mL u22.1)), (tb, .inl (cB, 200, .inl u22.2))]) hD hS hA [0, 1] rfl
  refine va_callv (va_runV (As := [.int a3]) (rest := []) ⟨hx, hb, hml, hown, hts⟩ (m_put l dC dI h u22.1 tb cB u22.2 (((0 + nbN a0) + nbN a1) + nbN a2) ((((0 + nbN a0) + nbN a1) + nbN a2) + nbN a3) a3 H.size hb_u22 ha_u22 rfl (by omega)) (cwV 1 hts g_m_feed_m_put_266 rfl rfl rfl (by decide +kernel) ⟨Nat.le_of_ble_eq_true rfl, Nat.le_of_ble_eq_true rfl⟩) ⟨fun a U g mk q => by obtain ⟨e0, e1, qP, qK, qD⟩ := q; exact ⟨e0, e1, qP, va_K.moved (u := U) (U := U.calling g mk a) (Vm.Alike.refl U.vm) qK, qD⟩, va_recv hK hP (ci := 14) (q0 := 0) rfl rfl, fun U hU hW => ⟨rfl, by rw [hU], by rw [hU]; exact hPc, va_K.moved hW.alike hKc, hDc.weaken (fun _ _ _ _ => trivial)⟩⟩ rfl rfl hl.1 rfl (lv_room (Nat.le_of_ble_eq_true rfl)) dX13_feed_62 ⟨Nat.le_of_ble_eq_true rfl, Nat.le_of_ble_eq_true rfl⟩) hS (fun q _ h => hFc q h) hFc (fun u24 t H1 locs ht hvm hw hB hz1 hk1 hS => ?_)
  obtain ⟨hP1, hK1, hD1⟩ := hB
  rw [ht] at hP1
  obtain ⟨hP, hD⟩ := va_join (wr := []) (w1 := [(h, .inr (14, mL u24.1)), (tb, .inl (cB, 200, .inl u24.2))]) hP hD [0, 1] [] rfl rfl (by decide) (by decide) hk1 hFc hP1 hD1
  have hK1 := va_K.moved hvm.symm hK1
  have hK := hK.app hK1
  have hK : va_K (dC, dI) vwCl [(cB, .byte), (cB, .byte)] s := hK
  generalize H1 = H at hP hS ⊢
  have hP : va_P (dC, dI) vwCl [(h, .inr (14, mL u24.1)), (tb, .inl (cB, 200, .inl u24.2))] H := hP
  have hD : va_D A [(h, .inr (14, mL u24.1)), (tb, .inl (cB, 200, .inl u24.2))] := hD
  have hK := hK.sub (tys' := [(cB, .byte)]) [0] rfl
  refine W.widen (k := 0) (n := 0) (by omega) (by omega) ?_
  have ha_u24 := hw.1
  have hb_u24 := hw.2
  refine lv_aload_n hx hb dX13_feed_65 rfl (lv_at hl 0 rfl) ?_
  refine lv_iload hx hb dX13_feed_66 (lv_at hl 5 rfl) ?_
  have hPc := hP.sub (ws' := [(h, .inr (14, mL u24.1)), (tb, .inl (cB, 200, .inl u24.2))]) [0, 1] rfl
  have hKc := hK.sub (tys' := [(cB, .byte)]) [0] rfl
  have hDc := hD.sub (ws' := [(h, .inr (14, mL u24.1)), (tb, .inl (cB, 200, .inl u24.2))]) [0, 1] (by decide) rfl
  have hFc := va_free (wc := [(h, .inr (14, mL u24.1)), (tb, .inl (cB, 200, .inl u24.2))]) hD hS hA [0, 1] rfl
  refine va_callv (va_runV (As := [.int a4]) (rest := []) ⟨hx, hb, hml, hown, hts⟩ (m_put l dC dI h u24.1 tb cB u24.2 ((((0 + nbN a0) + nbN a1) + nbN a2) + nbN a3) (((((0 + nbN a0) + nbN a1) + nbN a2) + nbN a3) + nbN a4) a4 H.size hb_u24 ha_u24 rfl (by omega)) (cwV 1 hts g_m_feed_m_put_266 rfl rfl rfl (by decide +kernel) ⟨Nat.le_of_ble_eq_true rfl, Nat.le_of_ble_eq_true rfl⟩) ⟨fun a U g mk q => by obtain ⟨e0, e1, qP, qK, qD⟩ := q; exact ⟨e0, e1, qP, va_K.moved (u := U) (U := U.calling g mk a) (Vm.Alike.refl U.vm) qK, qD⟩, va_recv hK hP (ci := 14) (q0 := 0) rfl rfl, fun U hU hW => ⟨rfl, by rw [hU], by rw [hU]; exact hPc, va_K.moved hW.alike hKc, hDc.weaken (fun _ _ _ _ => trivial)⟩⟩ rfl rfl hl.1 rfl (lv_room (Nat.le_of_ble_eq_true rfl)) dX13_feed_68 ⟨Nat.le_of_ble_eq_true rfl, Nat.le_of_ble_eq_true rfl⟩) hS (fun q _ h => hFc q h) hFc (fun u26 t H1 locs ht hvm hw hB hz1 hk1 hS => ?_)
  obtain ⟨hP1, hK1, hD1⟩ := hB
  rw [ht] at hP1
  obtain ⟨hP, hD⟩ := va_join (wr := []) (w1 := [(h, .inr (14, mL u26.1)), (tb, .inl (cB, 200, .inl u26.2))]) hP hD [0, 1] [] rfl rfl (by decide) (by decide) hk1 hFc hP1 hD1
  have hK1 := va_K.moved hvm.symm hK1
  have hK := hK.app hK1
  have hK : va_K (dC, dI) vwCl [(cB, .byte), (cB, .byte)] s := hK
  generalize H1 = H at hP hS ⊢
  have hP : va_P (dC, dI) vwCl [(h, .inr (14, mL u26.1)), (tb, .inl (cB, 200, .inl u26.2))] H := hP
  have hD : va_D A [(h, .inr (14, mL u26.1)), (tb, .inl (cB, 200, .inl u26.2))] := hD
  have hK := hK.sub (tys' := [(cB, .byte)]) [0] rfl
  refine W.widen (k := 0) (n := 0) (by omega) (by omega) ?_
  have ha_u26 := hw.1
  have hb_u26 := hw.2
  refine lv_aload_n hx hb dX13_feed_71 rfl (lv_at hl 0 rfl) ?_
  refine va_get (D := (dC, dI)) (ci := 14) (v := .int (nI ((((((0 + nbN a0) + nbN a1) + nbN a2) + nbN a3) + nbN a4)))) (C := RX13) (T := TX13) (N := 97) hx hb hts iw_m_feed_X13 hown hK hP 0 rfl rfl 16 (by decide) (hts (.fieldLink RX13 259 "UnlikeBoatsModel" "length" "I") (List.mem_of_getElem? (i := 2) rfl)) (fun _ h9 => h9) (mL_some (Nat.le_of_ble_eq_true rfl) ha_u26) dX13_feed_72 ?_
  exact W.iret (v := nI ((((((0 + nbN a0) + nbN a1) + nbN a2) + nbN a3) + nbN a4))) hx hb hr (fun t ht hW => ⟨⟨nI ((((((0 + nbN a0) + nbN a1) + nbN a2) + nbN a3) + nbN a4)), (), rfl, by rw [Nat.zero_add], trivial⟩, hS.F ht⟩) hS.2.2 dX13_feed_75
def A_m_score : List Cond := [.fieldLink RX13 228 "UnlikeBoatsModel" "thrown" "I", .methodLink RX13 252 yX13_isKnown, .instanceMethod yX13_isKnown, .selects RX13 yX13_isKnown yX13_isKnown, .initialized RX13, .fieldLink RX13 447 "UnlikeBoatsModel" "counting" "I", .fieldLink RX13 390 "UnlikeBoatsModel" "races" "I", .fieldLink RX13 239 "UnlikeBoatsModel" "boats" "I", .methodLink RX13 377 yX13_clear, .instanceMethod yX13_clear, .selects RX13 yX13_clear yX13_clear, .fieldLink RX13 44 "UnlikeBoatsModel" "letters" "[I", .methodLink RX13 380 yX13_worth, .instanceMethod yX13_worth, .selects RX13 yX13_worth yX13_worth, .methodLink RX13 383 Lib.Math.min.name, .static Lib.Math.min.name, .initialized "java/lang/Math", .code Lib.Math.min.name Lib.Math.min.code 2 (some .int), .methodLink RX13 385 Lib.Math.max.name, .static Lib.Math.max.name, .code Lib.Math.max.name Lib.Math.max.code 2 (some .int), .code yX13_isKnown cX13_isKnown 2 (some .boolean), .fieldLink RX13 232 "UnlikeBoatsModel" "now" "I", .methodLink RX13 235 yX13_isIn, .static yX13_isIn, .code yX13_isIn cX13_isIn 3 (some .boolean), .code yX13_clear cX13_clear 2 none, .code yX13_worth cX13_worth 5 (some .int), .methodLink RX13 373 yX13_rulesOn, .instanceMethod yX13_rulesOn, .selects RX13 yX13_rulesOn yX13_rulesOn, .code yX13_rulesOn cX13_rulesOn 5 (some .int), .fieldLink RX13 370 "UnlikeBoatsModel" "rules" "I"]
def v_m_score : List Cond := .code yX13_score cX13_score 7 (some .boolean) :: (A_m_score ++ wsX130)
theorem iw_m_score_X13 : ∀ w ∈ wsX130, w ∈ v_m_score := fun _ h => List.mem_cons_of_mem _ (List.mem_append_right _ (h))
theorem gb_m_score_m_isKnown0 : GoodIn v_m_score (.code yX13_isKnown cX13_isKnown 2 (some .boolean) :: A_m_isKnown) := (List.forall_mem_cons.mpr ⟨⟨List.mem_of_getElem? (i := 23) rfl, good_of_word rfl⟩, (List.forall_mem_cons.mpr ⟨⟨List.mem_of_getElem? (i := 24) rfl, good_of_word rfl⟩, (List.forall_mem_cons.mpr ⟨⟨List.mem_of_getElem? (i := 25) rfl, good_of_word rfl⟩, (List.forall_mem_cons.mpr ⟨⟨List.mem_of_getElem? (i := 26) rfl, good_of_word rfl⟩, (List.forall_mem_cons.mpr ⟨⟨List.mem_of_getElem? (i := 5) rfl, good_of_word rfl⟩, (List.forall_mem_cons.mpr ⟨⟨List.mem_of_getElem? (i := 27) rfl, good_of_word rfl⟩, (fun _ h => nomatch h)⟩)⟩)⟩)⟩)⟩)⟩)
theorem gb_m_score_m_isKnown : GoodIn v_m_score v_m_isKnown := (goodIn_ca gb_m_score_m_isKnown0 (goodIn_sub iw_m_score_X13 gw_X13))
theorem g_m_score_m_isKnown_252 : GoodIn v_m_score (wsV RX13 252 RX13 yX13_isKnown v_m_isKnown) := goodIn_app (List.forall_mem_cons.mpr ⟨⟨List.mem_of_getElem? (i := 2) rfl, good_of_word rfl⟩, (List.forall_mem_cons.mpr ⟨⟨List.mem_of_getElem? (i := 3) rfl, good_of_word rfl⟩, (List.forall_mem_cons.mpr ⟨⟨List.mem_of_getElem? (i := 4) rfl, good_of_word rfl⟩, (List.forall_mem_cons.mpr ⟨⟨List.mem_of_getElem? (i := 5) rfl, good_of_word rfl⟩, (fun _ h => nomatch h)⟩)⟩)⟩)⟩) gb_m_score_m_isKnown
theorem gb_m_score_m_clear0 : GoodIn v_m_score (.code yX13_clear cX13_clear 2 none :: A_m_clear) := (List.forall_mem_cons.mpr ⟨⟨List.mem_of_getElem? (i := 28) rfl, good_of_word rfl⟩, (List.forall_mem_cons.mpr ⟨⟨List.mem_of_getElem? (i := 12) rfl, good_of_word rfl⟩, (fun _ h => nomatch h)⟩)⟩)
theorem gb_m_score_m_clear : GoodIn v_m_score v_m_clear := (goodIn_ca gb_m_score_m_clear0 (goodIn_sub iw_m_score_X13 gw_X13))
theorem g_m_score_m_clear_377 : GoodIn v_m_score (wsV RX13 377 RX13 yX13_clear v_m_clear) := goodIn_app (List.forall_mem_cons.mpr ⟨⟨List.mem_of_getElem? (i := 9) rfl, good_of_word rfl⟩, (List.forall_mem_cons.mpr ⟨⟨List.mem_of_getElem? (i := 10) rfl, good_of_word rfl⟩, (List.forall_mem_cons.mpr ⟨⟨List.mem_of_getElem? (i := 11) rfl, good_of_word rfl⟩, (List.forall_mem_cons.mpr ⟨⟨List.mem_of_getElem? (i := 5) rfl, good_of_word rfl⟩, (fun _ h => nomatch h)⟩)⟩)⟩)⟩) gb_m_score_m_clear
theorem gb_m_score_m_worth0 : GoodIn v_m_score (.code yX13_worth cX13_worth 5 (some .int) :: A_m_worth) := (List.forall_mem_cons.mpr ⟨⟨List.mem_of_getElem? (i := 29) rfl, good_of_word rfl⟩, (List.forall_mem_cons.mpr ⟨⟨List.mem_of_getElem? (i := 30) rfl, good_of_word rfl⟩, (List.forall_mem_cons.mpr ⟨⟨List.mem_of_getElem? (i := 31) rfl, good_of_word rfl⟩, (List.forall_mem_cons.mpr ⟨⟨List.mem_of_getElem? (i := 32) rfl, good_of_word rfl⟩, (List.forall_mem_cons.mpr ⟨⟨List.mem_of_getElem? (i := 5) rfl, good_of_word rfl⟩, (List.forall_mem_cons.mpr ⟨⟨List.mem_of_getElem? (i := 33) rfl, good_of_word rfl⟩, (List.forall_mem_cons.mpr ⟨⟨List.mem_of_getElem? (i := 34) rfl, good_of_word rfl⟩, (fun _ h => nomatch h)⟩)⟩)⟩)⟩)⟩)⟩)⟩)
theorem gb_m_score_m_worth : GoodIn v_m_score v_m_worth := (goodIn_ca gb_m_score_m_worth0 (goodIn_sub iw_m_score_X13 gw_X13))
theorem g_m_score_m_worth_380 : GoodIn v_m_score (wsV RX13 380 RX13 yX13_worth v_m_worth) := goodIn_app (List.forall_mem_cons.mpr ⟨⟨List.mem_of_getElem? (i := 13) rfl, good_of_word rfl⟩, (List.forall_mem_cons.mpr ⟨⟨List.mem_of_getElem? (i := 14) rfl, good_of_word rfl⟩, (List.forall_mem_cons.mpr ⟨⟨List.mem_of_getElem? (i := 15) rfl, good_of_word rfl⟩, (List.forall_mem_cons.mpr ⟨⟨List.mem_of_getElem? (i := 5) rfl, good_of_word rfl⟩, (fun _ h => nomatch h)⟩)⟩)⟩)⟩) gb_m_score_m_worth
set_option maxHeartbeats 4000000 in
set_option maxRecDepth 100000 in
theorem m_score (l : Launch) (dC : Nat → ClassId) (dI : Nat → Nat → Nat) (h : Nat) (f : Nat → Value) (ltr : Nat) (cI : ClassId) (gt : Nat → Int32) (a0 : Int32) (sz : Nat) (hf_thrown : f 0 = .int 0) (hf_letters : f 15 = .ref ltr) (hf_now : f 1 = .int 0) (hf_counting : f 55 = .int 0) (hf_races : f 46 = .int 0) (hf_boats : f 8 = .int 0) (hf_rules : f 17 = .int 0) : Met l yX13_score v_m_score ({ frames := 2, cells := 0, slots := 0, locals := 80 }) (va_Pc [.ref h, .int a0] (fun U => U.heap.size = sz ∧ va_P (dC, dI) vwCl [(h, .inr (14, mL f)), (ltr, .inl (cI, 128, .inl gt))] U.heap ∧ va_K (dC, dI) vwCl [(cI, .int)] U ∧ va_D (fun _ => True) [(h, .inr (14, mL f)), (ltr, .inl (cI, 128, .inl gt))])) (va_Qi (S := Nat → Int32) (fun r _ => (r = 1 ∧ ¬ a0 < 0 ∧ ¬ 0 < a0) ∨ (r = 0 ∧ (a0 < 0 ∨ 0 < a0))) (fun u t => va_P (dC, dI) vwCl [(h, .inr (14, mL f)), (ltr, .inl (cI, 128, .inl u))] t.heap ∧ va_K (dC, dI) vwCl [(cI, .int)] t ∧ va_D (va_A [(h, .inr (14, mL f)), (ltr, .inl (cI, 128, .inl gt))] sz) [(h, .inr (14, mL f)), (ltr, .inl (cI, 128, .inl u))]) (va_A [(h, .inr (14, mL f)), (ltr, .inl (cI, 128, .inl gt))] sz)) 0 0 (va_A [(h, .inr (14, mL f)), (ltr, .inl (cI, 128, .inl gt))] sz) := by
  refine Met.ofW (cc := cX13_score) (maxL := 7) (ret := (some .boolean)) (by decide) rfl ?_
  intro p e s m args below meth c s₁ B hml hv
  obtain ⟨rfl, hsz, hP, hK, hD0⟩ := hv
  have hx := B.exec
  have hb := B.bytes
  have hr := B.returns
  have hts := atoms_spec (ws := v_m_score) B.pre
  have hown : s.vm.findClass RX13 = some m.cls := findClass_of_methodNamed B.named
  have hlocks := B.notSynchronized
  subst hsz
  have hD := hD0.self (sz := s.heap.size)
  generalize hAe : va_A [(h, .inr (14, mL f)), (ltr, .inl (cI, 128, .inl gt))] s.heap.size = A at hD ⊢
  have hA : ∀ q : Nat, s.heap.size ≤ q → A q := fun q h => by rw [← hAe]; exact Or.inr h
  have hS : va_S A s.heap s.heap [] := va_S.rf
  have hP : va_P (dC, dI) vwCl [(h, .inr (14, mL f)), (ltr, .inl (cI, 128, .inl gt))] s.heap := hP
  have hl := lv_entry ([.ref h, .int a0]) (n := 7) (Nat.le_of_ble_eq_true rfl)
  rw [lg_entry_eq]
  generalize (lg_sl ([.ref h, .int a0]) ++ List.replicate (7 - (lg_sl ([.ref h, .int a0])).length) Slot.unset).toArray = ls at hl ⊢
  have hl : lv_has ls 7 [(0, .ref h), (1, .int a0)] := hl
  refine lv_aload_n hx hb dX13_score_0 rfl (lv_at hl 0 rfl) ?_
  refine lv_iconst (v := 0) hx hb dX13_score_1 (by decide) ?_
  refine va_put (D := (dC, dI)) (ci := 14) (v := .int 0) (ty := .int) (C := RX13) (T := TX13) (N := 97) hx hb hts iw_m_score_X13 tyX13 tyX13_ok nmX13 hown hK hP hD hS 0 rfl rfl 0 (by decide) (hts (.fieldLink RX13 228 "UnlikeBoatsModel" "thrown" "I") (List.mem_of_getElem? (i := 1) rfl)) (fun _ h9 => h9) rfl (by decide +kernel) rfl rfl (mL_lt (Nat.le_of_ble_eq_true rfl)) dX13_score_2 (fun H locs hP hD hS => ?_)
  have hP : va_P (dC, dI) vwCl [(h, .inr (14, (mL f).set 0 (.int 0))), (ltr, .inl (cI, 128, .inl gt))] H := hP
  have hD : va_D A [(h, .inr (14, (mL f).set 0 (.int 0))), (ltr, .inl (cI, 128, .inl gt))] := hD
  rw [mL_same hf_thrown] at hP hD
  refine lv_aload_n hx hb dX13_score_5 rfl (lv_at hl 0 rfl) ?_
  refine lv_iload_n hx hb dX13_score_6 rfl (lv_at hl 1 rfl) ?_
  have hPc := hP.sub (ws' := [(h, .inr (14, mL f))]) [0] rfl
  have hKc := hK.sub (tys' := []) [] rfl
  refine va_calli (va_runV (As := [.int a0]) (rest := []) ⟨hx, hb, hml, hown, hts⟩ (m_isKnown l dC dI h f a0 hf_now) (cwV 1 hts g_m_score_m_isKnown_252 rfl rfl rfl (by decide +kernel) ⟨Nat.le_of_ble_eq_true rfl, Nat.le_of_ble_eq_true rfl⟩) ⟨fun a U g mk q => by obtain ⟨e0, qP, qK⟩ := q; exact ⟨e0, qP, va_K.moved (u := U) (U := U.calling g mk a) (Vm.Alike.refl U.vm) qK⟩, va_recv hK hP (ci := 14) (q0 := 0) rfl rfl, fun U hU hW => ⟨rfl, by rw [hU]; exact hPc, va_K.moved hW.alike hKc⟩⟩ rfl rfl hl.1 rfl (lv_room (Nat.le_of_ble_eq_true rfl)) dX13_score_7 ⟨Nat.le_of_ble_eq_true rfl, Nat.le_of_ble_eq_true rfl⟩) hS (fun _ _ h => h.elim) (fun _ h => h.elim) (fun r1 u2 t H1 locs ht hvm hw hB hz1 hk1 hS => ?_)
  have hP := ub_keep hP hk1
  generalize H1 = H at hP hS ⊢
  rcases hw with ⟨rfl, hw1, hw2⟩ | ⟨rfl, hw1⟩
  · --in
    have d3a := hw1
    have d3b := hw2
    refine lv_if_ne (tgt := 15) hx hb dX13_score_10 (by decide) (fun c4 => ?_) (fun c4 => by first | exact absurd c4 (by decide) | exact absurd (by decide) c4)
    refine lv_aload_n hx hb dX13_score_15 rfl (lv_at hl 0 rfl) ?_
    refine lv_iconst (v := 0) hx hb dX13_score_16 (by decide) ?_
    refine va_put (D := (dC, dI)) (ci := 14) (v := .int 0) (ty := .int) (C := RX13) (T := TX13) (N := 97) hx hb hts iw_m_score_X13 tyX13 tyX13_ok nmX13 hown hK hP hD hS 0 rfl rfl 55 (by decide) (hts (.fieldLink RX13 447 "UnlikeBoatsModel" "counting" "I") (List.mem_of_getElem? (i := 6) rfl)) (fun _ h9 => h9) rfl (by decide +kernel) rfl rfl (mL_lt (Nat.le_of_ble_eq_true rfl)) dX13_score_17 (fun H locs hP hD hS => ?_)
    have hP : va_P (dC, dI) vwCl [(h, .inr (14, (mL f).set 55 (.int 0))), (ltr, .inl (cI, 128, .inl gt))] H := hP
    have hD : va_D A [(h, .inr (14, (mL f).set 55 (.int 0))), (ltr, .inl (cI, 128, .inl gt))] := hD
    rw [mL_same hf_counting] at hP hD
    refine lv_aload_n hx hb dX13_score_20 rfl (lv_at hl 0 rfl) ?_
    refine va_get (D := (dC, dI)) (ci := 14) (v := .int 0) (C := RX13) (T := TX13) (N := 97) hx hb hts iw_m_score_X13 hown hK hP 0 rfl rfl 55 (by decide) (hts (.fieldLink RX13 447 "UnlikeBoatsModel" "counting" "I") (List.mem_of_getElem? (i := 6) rfl)) (fun _ h9 => h9) (mL_some (Nat.le_of_ble_eq_true rfl) hf_counting) dX13_score_21 ?_
    refine lv_aload_n hx hb dX13_score_24 rfl (lv_at hl 0 rfl) ?_
    refine va_get (D := (dC, dI)) (ci := 14) (v := .int 0) (C := RX13) (T := TX13) (N := 97) hx hb hts iw_m_score_X13 hown hK hP 0 rfl rfl 46 (by decide) (hts (.fieldLink RX13 390 "UnlikeBoatsModel" "races" "I") (List.mem_of_getElem? (i := 7) rfl)) (fun _ h9 => h9) (mL_some (Nat.le_of_ble_eq_true rfl) hf_races) dX13_score_25 ?_
    refine lv_icmp_ge (tgt := 57) hx hb dX13_score_28 (by decide) (fun c5 => ?_) (fun c5 => by first | exact absurd c5 (by decide) | exact absurd (by decide) c5)
    refine lv_iconst (v := 0) hx hb dX13_score_57 (by decide) ?_
    refine lv_istore_n (lv' := [(2, .int 0), (0, .ref h), (1, .int a0)]) hx hb dX13_score_58 rfl hl (by decide) rfl (fun ls hl => ?_)
    refine lv_iload_n hx hb dX13_score_59 rfl (lv_at hl 0 rfl) ?_
    refine lv_aload_n hx hb dX13_score_60 rfl (lv_at hl 1 rfl) ?_
    refine va_get (D := (dC, dI)) (ci := 14) (v := .int 0) (C := RX13) (T := TX13) (N := 97) hx hb hts iw_m_score_X13 hown hK hP 0 rfl rfl 8 (by decide) (hts (.fieldLink RX13 239 "UnlikeBoatsModel" "boats" "I") (List.mem_of_getElem? (i := 8) rfl)) (fun _ h9 => h9) (mL_some (Nat.le_of_ble_eq_true rfl) hf_boats) dX13_score_61 ?_
    refine lv_icmp_ge (tgt := 156) hx hb dX13_score_64 (by decide) (fun c6 => ?_) (fun c6 => by first | exact absurd c6 (by decide) | exact absurd (by decide) c6)
    refine lv_aload_n hx hb dX13_score_156 rfl (lv_at hl 1 rfl) ?_
    have hPc := hP.sub (ws' := [(h, .inr (14, mL f)), (ltr, .inl (cI, 128, .inl gt))]) [0, 1] rfl
    have hKc := hK.sub (tys' := [(cI, .int)]) [0] rfl
    have hDc := hD.sub (ws' := [(h, .inr (14, mL f)), (ltr, .inl (cI, 128, .inl gt))]) [0, 1] (by decide) rfl
    have hFc := va_free (wc := [(h, .inr (14, mL f)), (ltr, .inl (cI, 128, .inl gt))]) hD hS hA [0, 1] rfl
    refine va_callv (va_runV (As := []) (rest := []) ⟨hx, hb, hml, hown, hts⟩ (m_clear l dC dI h f ltr cI gt H.size hf_letters) (cwV 0 hts g_m_score_m_clear_377 rfl rfl rfl (by decide +kernel) ⟨Nat.le_of_ble_eq_true rfl, Nat.le_of_ble_eq_true rfl⟩) ⟨fun a U g mk q => by obtain ⟨e0, e1, qP, qK, qD⟩ := q; exact ⟨e0, e1, qP, va_K.moved (u := U) (U := U.calling g mk a) (Vm.Alike.refl U.vm) qK, qD⟩, va_recv hK hP (ci := 14) (q0 := 0) rfl rfl, fun U hU hW => ⟨rfl, by rw [hU], by rw [hU]; exact hPc, va_K.moved hW.alike hKc, hDc.weaken (fun _ _ _ _ => trivial)⟩⟩ rfl rfl hl.1 rfl (lv_room (Nat.le_of_ble_eq_true rfl)) dX13_score_157 ⟨Nat.le_of_ble_eq_true rfl, Nat.le_of_ble_eq_true rfl⟩) hS (fun q _ h => hFc q h) hFc (fun u8 t H1 locs ht hvm hw hB hz1 hk1 hS => ?_)
    obtain ⟨hP1, hK1, hD1⟩ := hB
    rw [ht] at hP1
    obtain ⟨hP, hD⟩ := va_join (wr := []) (w1 := [(h, .inr (14, mL f)), (ltr, .inl (cI, 128, .inl u8))]) hP hD [0, 1] [] rfl rfl (by decide) (by decide) hk1 hFc hP1 hD1
    have hK1 := va_K.moved hvm.symm hK1
    have hK := hK.app hK1
    have hK : va_K (dC, dI) vwCl [(cI, .int), (cI, .int)] s := hK
    generalize H1 = H at hP hS ⊢
    have hP : va_P (dC, dI) vwCl [(h, .inr (14, mL f)), (ltr, .inl (cI, 128, .inl u8))] H := hP
    have hD : va_D A [(h, .inr (14, mL f)), (ltr, .inl (cI, 128, .inl u8))] := hD
    have hK := hK.sub (tys' := [(cI, .int)]) [0] rfl
    refine W.widen (k := 0) (n := 0) (by omega) (by omega) ?_
    refine lv_aload_n hx hb dX13_score_160 rfl (lv_at hl 1 rfl) ?_
    refine va_get (D := (dC, dI)) (ci := 14) (v := .ref ltr) (C := RX13) (T := TX13) (N := 97) hx hb hts iw_m_score_X13 hown hK hP 0 rfl rfl 15 (by decide) (hts (.fieldLink RX13 44 "UnlikeBoatsModel" "letters" "[I") (List.mem_of_getElem? (i := 12) rfl)) (fun _ h9 => h9) (mL_some (Nat.le_of_ble_eq_true rfl) hf_letters) dX13_score_161 ?_
    refine lv_bipush (v := 99) hx hb dX13_score_164 (by decide) ?_
    refine lv_aload_n hx hb dX13_score_166 rfl (lv_at hl 1 rfl) ?_
    refine va_get (D := (dC, dI)) (ci := 14) (v := .int 0) (C := RX13) (T := TX13) (N := 97) hx hb hts iw_m_score_X13 hown hK hP 0 rfl rfl 55 (by decide) (hts (.fieldLink RX13 447 "UnlikeBoatsModel" "counting" "I") (List.mem_of_getElem? (i := 6) rfl)) (fun _ h9 => h9) (mL_some (Nat.le_of_ble_eq_true rfl) hf_counting) dX13_score_167 ?_
    refine va_iast hx hb hK hP hD hS 1 0 rfl rfl (vp_in_nI (n := 99) (N := 128) (by decide) (by decide)) dX13_score_170 (fun H locs hP hD hS => ?_)
    obtain ⟨f9, ef9⟩ : ∃ z9 : Nat → Int32, z9 = upd u8 (99 : Int32).toNatClampNeg 0 := ⟨_, rfl⟩
    have hP : va_P (dC, dI) vwCl [(h, .inr (14, mL f)), (ltr, .inl (cI, 128, .inl (upd u8 (99 : Int32).toNatClampNeg 0)))] H := hP
    have hD : va_D A [(h, .inr (14, mL f)), (ltr, .inl (cI, 128, .inl (upd u8 (99 : Int32).toNatClampNeg 0)))] := hD
    rw [← ef9] at hP hD
    refine lv_iconst (v := 0) hx hb dX13_score_171 (by decide) ?_
    refine lv_aload_n hx hb dX13_score_172 rfl (lv_at hl 1 rfl) ?_
    refine va_get (D := (dC, dI)) (ci := 14) (v := .int 0) (C := RX13) (T := TX13) (N := 97) hx hb hts iw_m_score_X13 hown hK hP 0 rfl rfl 55 (by decide) (hts (.fieldLink RX13 447 "UnlikeBoatsModel" "counting" "I") (List.mem_of_getElem? (i := 6) rfl)) (fun _ h9 => h9) (mL_some (Nat.le_of_ble_eq_true rfl) hf_counting) dX13_score_173 ?_
    refine lv_iconst (v := 1) hx hb dX13_score_176 (by decide) ?_
    refine lv_isub hx hb dX13_score_177 ?_
    refine lv_topi (fun y10 ey10 => ?_)
    obtain rfl : (-1 : Int32) = y10 := (ey10.trans (by decide)).symm
    refine lv_aload_n hx hb dX13_score_178 rfl (lv_at hl 1 rfl) ?_
    refine lv_bipush (v := 116) hx hb dX13_score_179 (by decide) ?_
    refine lv_iload_n hx hb dX13_score_181 rfl (lv_at hl 2 rfl) ?_
    refine lv_iload_n hx hb dX13_score_182 rfl (lv_at hl 2 rfl) ?_
    have hPc := hP.sub (ws' := [(h, .inr (14, mL f))]) [0] rfl
    have hKc := hK.sub (tys' := []) [] rfl
    refine va_calli (va_runV (As := [.int 116, .int a0, .int a0]) (rest := [.int (-1), .int 0]) ⟨hx, hb, hml, hown, hts⟩ (m_worth l dC dI h f a0 a0 hf_rules) (cwV 3 hts g_m_score_m_worth_380 rfl rfl rfl (by decide +kernel) ⟨Nat.le_of_ble_eq_true rfl, Nat.le_of_ble_eq_true rfl⟩) ⟨fun a U g mk q => by obtain ⟨e0, qP, qK⟩ := q; exact ⟨e0, qP, va_K.moved (u := U) (U := U.calling g mk a) (Vm.Alike.refl U.vm) qK⟩, va_recv hK hP (ci := 14) (q0 := 0) rfl rfl, fun U hU hW => ⟨rfl, by rw [hU]; exact hPc, va_K.moved hW.alike hKc⟩⟩ rfl rfl hl.1 rfl (lv_room (Nat.le_of_ble_eq_true rfl)) dX13_score_183 ⟨Nat.le_of_ble_eq_true rfl, Nat.le_of_ble_eq_true rfl⟩) hS (fun _ _ h => h.elim) (fun _ h => h.elim) (fun r11 u12 t H1 locs ht hvm hw hB hz1 hk1 hS => ?_)
    have hP := ub_keep hP hk1
    generalize H1 = H at hP hS ⊢
    obtain rfl : (0 : Int32) = r11 := hw.symm
    refine va_mmin hx hb (by rw [hml]; exact hl.1.symm) hown (hts (.methodLink RX13 383 Lib.Math.min.name) (List.mem_of_getElem? (i := 16) rfl)) (hts (.static Lib.Math.min.name) (List.mem_of_getElem? (i := 17) rfl)) (hts (.initialized "java/lang/Math") (List.mem_of_getElem? (i := 18) rfl)) (hts (.code Lib.Math.min.name Lib.Math.min.code 2 (some .int)) (List.mem_of_getElem? (i := 19) rfl)) (Nat.le_of_ble_eq_true rfl) (Nat.le_of_ble_eq_true rfl) (Nat.le_of_ble_eq_true rfl) (Nat.le_of_ble_eq_true rfl) dX13_score_186 ?_
    refine lv_topi (fun y13 ey13 => ?_)
    obtain rfl : (-1 : Int32) = y13 := (ey13.trans (by decide)).symm
    refine va_mmax hx hb (by rw [hml]; exact hl.1.symm) hown (hts (.methodLink RX13 385 Lib.Math.max.name) (List.mem_of_getElem? (i := 20) rfl)) (hts (.static Lib.Math.max.name) (List.mem_of_getElem? (i := 21) rfl)) (hts (.initialized "java/lang/Math") (List.mem_of_getElem? (i := 18) rfl)) (hts (.code Lib.Math.max.name Lib.Math.max.code 2 (some .int)) (List.mem_of_getElem? (i := 22) rfl)) (Nat.le_of_ble_eq_true rfl) (Nat.le_of_ble_eq_true rfl) (Nat.le_of_ble_eq_true rfl) (Nat.le_of_ble_eq_true rfl) dX13_score_189 ?_
    refine lv_topi (fun y14 ey14 => ?_)
    obtain rfl : (0 : Int32) = y14 := (ey14.trans (by decide)).symm
    refine lv_istore_n (lv' := [(2, .int 0), (0, .ref h), (1, .int a0)]) hx hb dX13_score_192 rfl hl (by decide) rfl (fun ls hl => ?_)
    refine lv_iconst (v := 0) hx hb dX13_score_193 (by decide) ?_
    refine lv_istore_n (lv' := [(3, .int 0), (2, .int 0), (0, .ref h), (1, .int a0)]) hx hb dX13_score_194 rfl hl (by decide) rfl (fun ls hl => ?_)
    refine lv_iload_n hx hb dX13_score_195 rfl (lv_at hl 0 rfl) ?_
    refine lv_aload_n hx hb dX13_score_196 rfl (lv_at hl 2 rfl) ?_
    refine va_get (D := (dC, dI)) (ci := 14) (v := .int 0) (C := RX13) (T := TX13) (N := 97) hx hb hts iw_m_score_X13 hown hK hP 0 rfl rfl 8 (by decide) (hts (.fieldLink RX13 239 "UnlikeBoatsModel" "boats" "I") (List.mem_of_getElem? (i := 8) rfl)) (fun _ h9 => h9) (mL_some (Nat.le_of_ble_eq_true rfl) hf_boats) dX13_score_197 ?_
    refine lv_icmp_ge (tgt := 375) hx hb dX13_score_200 (by decide) (fun c15 => ?_) (fun c15 => by first | exact absurd c15 (by decide) | exact absurd (by decide) c15)
    refine lv_iconst (v := 1) hx hb dX13_score_375 (by decide) ?_
    have hP9 := hP.sub (ws' := [(h, .inr (14, mL f)), (ltr, .inl (cI, 128, .inl f9))]) [0, 1] rfl
    have hD9 := hD.sub (ws' := [(h, .inr (14, mL f)), (ltr, .inl (cI, 128, .inl f9))]) [0, 1] (by decide) rfl
    have hK9 := hK.sub (tys' := [(cI, .int)]) [0] rfl
    exact W.zret (v := (1)) hx hb hr rfl (fun t ht hW => ⟨⟨(1), f9, rfl, Or.inl ⟨rfl, d3a, d3b⟩, (by rw [ht]; exact hP9), va_K.moved hW.alike hK9, hD9⟩, hS.F ht⟩) hS.2.2 dX13_score_376
  · --out
    have d16 := hw1
    refine lv_if_ne (tgt := 15) hx hb dX13_score_10 (by decide) (fun c17 => by first | exact absurd c17 (by decide) | exact absurd (by decide) c17) (fun c17 => ?_)
    refine lv_iconst (v := 0) hx hb dX13_score_13 (by decide) ?_
    have hP9 := hP.sub (ws' := [(h, .inr (14, mL f)), (ltr, .inl (cI, 128, .inl gt))]) [0, 1] rfl
    have hD9 := hD.sub (ws' := [(h, .inr (14, mL f)), (ltr, .inl (cI, 128, .inl gt))]) [0, 1] (by decide) rfl
    have hK9 := hK.sub (tys' := [(cI, .int)]) [0] rfl
    exact W.zret (v := (0)) hx hb hr rfl (fun t ht hW => ⟨⟨(0), gt, rfl, Or.inr ⟨rfl, d16⟩, (by rw [ht]; exact hP9), va_K.moved hW.alike hK9, hD9⟩, hS.F ht⟩) hS.2.2 dX13_score_14
def A_m_thrown_ : List Cond := [.methodLink RX13 450 yX13_score, .instanceMethod yX13_score, .selects RX13 yX13_score yX13_score, .initialized RX13, .fieldLink RX13 447 "UnlikeBoatsModel" "counting" "I", .methodLink RX13 235 yX13_isIn, .static yX13_isIn, .code yX13_score cX13_score 7 (some .boolean), .fieldLink RX13 228 "UnlikeBoatsModel" "thrown" "I", .methodLink RX13 252 yX13_isKnown, .instanceMethod yX13_isKnown, .selects RX13 yX13_isKnown yX13_isKnown, .fieldLink RX13 390 "UnlikeBoatsModel" "races" "I", .fieldLink RX13 239 "UnlikeBoatsModel" "boats" "I", .methodLink RX13 377 yX13_clear, .instanceMethod yX13_clear, .selects RX13 yX13_clear yX13_clear, .fieldLink RX13 44 "UnlikeBoatsModel" "letters" "[I", .methodLink RX13 380 yX13_worth, .instanceMethod yX13_worth, .selects RX13 yX13_worth yX13_worth, .methodLink RX13 383 Lib.Math.min.name, .static Lib.Math.min.name, .initialized "java/lang/Math", .code Lib.Math.min.name Lib.Math.min.code 2 (some .int), .methodLink RX13 385 Lib.Math.max.name, .static Lib.Math.max.name, .code Lib.Math.max.name Lib.Math.max.code 2 (some .int), .code yX13_isKnown cX13_isKnown 2 (some .boolean), .fieldLink RX13 232 "UnlikeBoatsModel" "now" "I", .code yX13_isIn cX13_isIn 3 (some .boolean), .code yX13_clear cX13_clear 2 none, .code yX13_worth cX13_worth 5 (some .int), .methodLink RX13 373 yX13_rulesOn, .instanceMethod yX13_rulesOn, .selects RX13 yX13_rulesOn yX13_rulesOn, .code yX13_rulesOn cX13_rulesOn 5 (some .int), .fieldLink RX13 370 "UnlikeBoatsModel" "rules" "I"]
def v_m_thrown_ : List Cond := .code yX13_thrown_ cX13_thrown_ 4 (some .int) :: (A_m_thrown_ ++ wsX130)
theorem iw_m_thrown__X13 : ∀ w ∈ wsX130, w ∈ v_m_thrown_ := fun _ h => List.mem_cons_of_mem _ (List.mem_append_right _ (h))
theorem gb_m_thrown__m_score0 : GoodIn v_m_thrown_ (.code yX13_score cX13_score 7 (some .boolean) :: A_m_score) := (List.forall_mem_cons.mpr ⟨⟨List.mem_of_getElem? (i := 8) rfl, good_of_word rfl⟩, (List.forall_mem_cons.mpr ⟨⟨List.mem_of_getElem? (i := 9) rfl, good_of_word rfl⟩, (List.forall_mem_cons.mpr ⟨⟨List.mem_of_getElem? (i := 10) rfl, good_of_word rfl⟩, (List.forall_mem_cons.mpr ⟨⟨List.mem_of_getElem? (i := 11) rfl, good_of_word rfl⟩, (List.forall_mem_cons.mpr ⟨⟨List.mem_of_getElem? (i := 12) rfl, good_of_word rfl⟩, (List.forall_mem_cons.mpr ⟨⟨List.mem_of_getElem? (i := 4) rfl, good_of_word rfl⟩, (List.forall_mem_cons.mpr ⟨⟨List.mem_of_getElem? (i := 5) rfl, good_of_word rfl⟩, (List.forall_mem_cons.mpr ⟨⟨List.mem_of_getElem? (i := 13) rfl, good_of_word rfl⟩, (List.forall_mem_cons.mpr ⟨⟨List.mem_of_getElem? (i := 14) rfl, good_of_word rfl⟩, (List.forall_mem_cons.mpr ⟨⟨List.mem_of_getElem? (i := 15) rfl, good_of_word rfl⟩, (List.forall_mem_cons.mpr ⟨⟨List.mem_of_getElem? (i := 16) rfl, good_of_word rfl⟩, (List.forall_mem_cons.mpr ⟨⟨List.mem_of_getElem? (i := 17) rfl, good_of_word rfl⟩, (List.forall_mem_cons.mpr ⟨⟨List.mem_of_getElem? (i := 18) rfl, good_of_word rfl⟩, (List.forall_mem_cons.mpr ⟨⟨List.mem_of_getElem? (i := 19) rfl, good_of_word rfl⟩, (List.forall_mem_cons.mpr ⟨⟨List.mem_of_getElem? (i := 20) rfl, good_of_word rfl⟩, (List.forall_mem_cons.mpr ⟨⟨List.mem_of_getElem? (i := 21) rfl, good_of_word rfl⟩, (List.forall_mem_cons.mpr ⟨⟨List.mem_of_getElem? (i := 22) rfl, good_of_word rfl⟩, (List.forall_mem_cons.mpr ⟨⟨List.mem_of_getElem? (i := 23) rfl, good_of_word rfl⟩, (List.forall_mem_cons.mpr ⟨⟨List.mem_of_getElem? (i := 24) rfl, good_of_word rfl⟩, (List.forall_mem_cons.mpr ⟨⟨List.mem_of_getElem? (i := 25) rfl, good_of_word rfl⟩, (List.forall_mem_cons.mpr ⟨⟨List.mem_of_getElem? (i := 26) rfl, good_of_word rfl⟩, (List.forall_mem_cons.mpr ⟨⟨List.mem_of_getElem? (i := 27) rfl, good_of_word rfl⟩, (List.forall_mem_cons.mpr ⟨⟨List.mem_of_getElem? (i := 28) rfl, good_of_word rfl⟩, (List.forall_mem_cons.mpr ⟨⟨List.mem_of_getElem? (i := 29) rfl, good_of_word rfl⟩, (List.forall_mem_cons.mpr ⟨⟨List.mem_of_getElem? (i := 30) rfl, good_of_word rfl⟩, (List.forall_mem_cons.mpr ⟨⟨List.mem_of_getElem? (i := 6) rfl, good_of_word rfl⟩, (List.forall_mem_cons.mpr ⟨⟨List.mem_of_getElem? (i := 7) rfl, good_of_word rfl⟩, (List.forall_mem_cons.mpr ⟨⟨List.mem_of_getElem? (i := 31) rfl, good_of_word rfl⟩, (List.forall_mem_cons.mpr ⟨⟨List.mem_of_getElem? (i := 32) rfl, good_of_word rfl⟩, (List.forall_mem_cons.mpr ⟨⟨List.mem_of_getElem? (i := 33) rfl, good_of_word rfl⟩, (List.forall_mem_cons.mpr ⟨⟨List.mem_of_getElem? (i := 34) rfl, good_of_word rfl⟩, (List.forall_mem_cons.mpr ⟨⟨List.mem_of_getElem? (i := 35) rfl, good_of_word rfl⟩, (List.forall_mem_cons.mpr ⟨⟨List.mem_of_getElem? (i := 36) rfl, good_of_word rfl⟩, (List.forall_mem_cons.mpr ⟨⟨List.mem_of_getElem? (i := 37) rfl, good_of_word rfl⟩, (List.forall_mem_cons.mpr ⟨⟨List.mem_of_getElem? (i := 38) rfl, good_of_word rfl⟩, (fun _ h => nomatch h)⟩)⟩)⟩)⟩)⟩)⟩)⟩)⟩)⟩)⟩)⟩)⟩)⟩)⟩)⟩)⟩)⟩)⟩)⟩)⟩)⟩)⟩)⟩)⟩)⟩)⟩)⟩)⟩)⟩)⟩)⟩)⟩)⟩)⟩)⟩)
theorem gb_m_thrown__m_score : GoodIn v_m_thrown_ v_m_score := (goodIn_ca gb_m_thrown__m_score0 (goodIn_sub iw_m_thrown__X13 gw_X13))
theorem g_m_thrown__m_score_450 : GoodIn v_m_thrown_ (wsV RX13 450 RX13 yX13_score v_m_score) := goodIn_app (List.forall_mem_cons.mpr ⟨⟨List.mem_of_getElem? (i := 1) rfl, good_of_word rfl⟩, (List.forall_mem_cons.mpr ⟨⟨List.mem_of_getElem? (i := 2) rfl, good_of_word rfl⟩, (List.forall_mem_cons.mpr ⟨⟨List.mem_of_getElem? (i := 3) rfl, good_of_word rfl⟩, (List.forall_mem_cons.mpr ⟨⟨List.mem_of_getElem? (i := 4) rfl, good_of_word rfl⟩, (fun _ h => nomatch h)⟩)⟩)⟩)⟩) gb_m_thrown__m_score
theorem gb_m_thrown__m_isIn0 : GoodIn v_m_thrown_ (.code yX13_isIn cX13_isIn 3 (some .boolean) :: A_m_isIn) := (List.forall_mem_cons.mpr ⟨⟨List.mem_of_getElem? (i := 31) rfl, good_of_word rfl⟩, (fun _ h => nomatch h)⟩)
theorem gb_m_thrown__m_isIn : GoodIn v_m_thrown_ v_m_isIn := gb_m_thrown__m_isIn0
theorem g_m_thrown__m_isIn_235 : GoodIn v_m_thrown_ (va_wsS RX13 235 yX13_isIn v_m_isIn) := goodIn_app (List.forall_mem_cons.mpr ⟨⟨List.mem_of_getElem? (i := 6) rfl, good_of_word rfl⟩, (List.forall_mem_cons.mpr ⟨⟨List.mem_of_getElem? (i := 7) rfl, good_of_word rfl⟩, (List.forall_mem_cons.mpr ⟨⟨List.mem_of_getElem? (i := 4) rfl, good_of_word rfl⟩, (fun _ h => nomatch h)⟩)⟩)⟩) gb_m_thrown__m_isIn
set_option maxHeartbeats 4000000 in
set_option maxRecDepth 100000 in
theorem m_thrown_ (l : Launch) (dC : Nat → ClassId) (dI : Nat → Nat → Nat) (h : Nat) (f : Nat → Value) (ltr : Nat) (cI : ClassId) (gt : Nat → Int32) (a0 : Int32) (a1 : Int32) (a2 : Int32) (sz : Nat) (hf_thrown : f 0 = .int 0) (hf_letters : f 15 = .ref ltr) (hf_now : f 1 = .int 0) (hf_counting : f 55 = .int 0) (hf_races : f 46 = .int 0) (hf_boats : f 8 = .int 0) (hf_rules : f 17 = .int 0) : Met l yX13_thrown_ v_m_thrown_ ({ frames := 3, cells := 0, slots := 0, locals := 120 }) (va_Pc [.ref h, .int a0, .int a1, .int a2] (fun U => U.heap.size = sz ∧ va_P (dC, dI) vwCl [(h, .inr (14, mL f)), (ltr, .inl (cI, 128, .inl gt))] U.heap ∧ va_K (dC, dI) vwCl [(cI, .int)] U ∧ va_D (fun _ => True) [(h, .inr (14, mL f)), (ltr, .inl (cI, 128, .inl gt))])) (va_Qi (S := Unit) (fun r _ => r = -1) (fun _ _ => True) (va_A [(h, .inr (14, mL f)), (ltr, .inl (cI, 128, .inl gt))] sz)) 0 0 (va_A [(h, .inr (14, mL f)), (ltr, .inl (cI, 128, .inl gt))] sz) := by
  refine Met.ofW (cc := cX13_thrown_) (maxL := 4) (ret := (some .int)) (by decide) rfl ?_
  intro p e s m args below meth c s₁ B hml hv
  obtain ⟨rfl, hsz, hP, hK, hD0⟩ := hv
  have hx := B.exec
  have hb := B.bytes
  have hr := B.returns
  have hts := atoms_spec (ws := v_m_thrown_) B.pre
  have hown : s.vm.findClass RX13 = some m.cls := findClass_of_methodNamed B.named
  have hlocks := B.notSynchronized
  subst hsz
  have hD := hD0.self (sz := s.heap.size)
  generalize hAe : va_A [(h, .inr (14, mL f)), (ltr, .inl (cI, 128, .inl gt))] s.heap.size = A at hD ⊢
  have hA : ∀ q : Nat, s.heap.size ≤ q → A q := fun q h => by rw [← hAe]; exact Or.inr h
  have hS : va_S A s.heap s.heap [] := va_S.rf
  have hP : va_P (dC, dI) vwCl [(h, .inr (14, mL f)), (ltr, .inl (cI, 128, .inl gt))] s.heap := hP
  have hl := lv_entry ([.ref h, .int a0, .int a1, .int a2]) (n := 4) (Nat.le_of_ble_eq_true rfl)
  rw [lg_entry_eq]
  generalize (lg_sl ([.ref h, .int a0, .int a1, .int a2]) ++ List.replicate (4 - (lg_sl ([.ref h, .int a0, .int a1, .int a2])).length) Slot.unset).toArray = ls at hl ⊢
  have hl : lv_has ls 4 [(0, .ref h), (1, .int a0), (2, .int a1), (3, .int a2)] := hl
  refine lv_aload_n hx hb dX13_thrown__0 rfl (lv_at hl 0 rfl) ?_
  refine lv_iload_n hx hb dX13_thrown__1 rfl (lv_at hl 3 rfl) ?_
  have hPc := hP.sub (ws' := [(h, .inr (14, mL f)), (ltr, .inl (cI, 128, .inl gt))]) [0, 1] rfl
  have hKc := hK.sub (tys' := [(cI, .int)]) [0] rfl
  have hDc := hD.sub (ws' := [(h, .inr (14, mL f)), (ltr, .inl (cI, 128, .inl gt))]) [0, 1] (by decide) rfl
  have hFc := va_free (wc := [(h, .inr (14, mL f)), (ltr, .inl (cI, 128, .inl gt))]) hD hS hA [0, 1] rfl
  refine va_calli (va_runV (As := [.int a2]) (rest := []) ⟨hx, hb, hml, hown, hts⟩ (m_score l dC dI h f ltr cI gt a2 s.heap.size hf_thrown hf_letters hf_now hf_counting hf_races hf_boats hf_rules) (cwV 1 hts g_m_thrown__m_score_450 rfl rfl rfl (by decide +kernel) ⟨Nat.le_of_ble_eq_true rfl, Nat.le_of_ble_eq_true rfl⟩) ⟨fun a U g mk q => by obtain ⟨e0, e1, qP, qK, qD⟩ := q; exact ⟨e0, e1, qP, va_K.moved (u := U) (U := U.calling g mk a) (Vm.Alike.refl U.vm) qK, qD⟩, va_recv hK hP (ci := 14) (q0 := 0) rfl rfl, fun U hU hW => ⟨rfl, by rw [hU], by rw [hU]; exact hPc, va_K.moved hW.alike hKc, hDc.weaken (fun _ _ _ _ => trivial)⟩⟩ rfl rfl hl.1 rfl (lv_room (Nat.le_of_ble_eq_true rfl)) dX13_thrown__2 ⟨Nat.le_of_ble_eq_true rfl, Nat.le_of_ble_eq_true rfl⟩) hS (fun q _ h => hFc q h) hFc (fun r1 u2 t H1 locs ht hvm hw hB hz1 hk1 hS => ?_)
  obtain ⟨hP1, hK1, hD1⟩ := hB
  rw [ht] at hP1
  obtain ⟨hP, hD⟩ := va_join (wr := []) (w1 := [(h, .inr (14, mL f)), (ltr, .inl (cI, 128, .inl u2))]) hP hD [0, 1] [] rfl rfl (by decide) (by decide) hk1 hFc hP1 hD1
  have hK1 := va_K.moved hvm.symm hK1
  have hK := hK.app hK1
  have hK : va_K (dC, dI) vwCl [(cI, .int), (cI, .int)] s := hK
  generalize H1 = H at hP hS ⊢
  have hP : va_P (dC, dI) vwCl [(h, .inr (14, mL f)), (ltr, .inl (cI, 128, .inl u2))] H := hP
  have hD : va_D A [(h, .inr (14, mL f)), (ltr, .inl (cI, 128, .inl u2))] := hD
  have hK := hK.sub (tys' := [(cI, .int)]) [0] rfl
  refine W.widen (k := 0) (n := 0) (by omega) (by omega) ?_
  rcases hw with ⟨rfl, hw1, hw2⟩ | ⟨rfl, hw1⟩
  · --in
    have d3a := hw1
    have d3b := hw2
    refine lv_if_eq (tgt := 39) hx hb dX13_thrown__5 (by decide) (fun c4 => by first | exact absurd c4 (by decide) | exact absurd (by decide) c4) (fun c4 => ?_)
    refine lv_iload_n hx hb dX13_thrown__8 rfl (lv_at hl 1 rfl) ?_
    refine lv_iconst (v := 0) hx hb dX13_thrown__9 (by decide) ?_
    refine lv_aload_n hx hb dX13_thrown__10 rfl (lv_at hl 0 rfl) ?_
    refine va_get (D := (dC, dI)) (ci := 14) (v := .int 0) (C := RX13) (T := TX13) (N := 97) hx hb hts iw_m_thrown__X13 hown hK hP 0 rfl rfl 55 (by decide) (hts (.fieldLink RX13 447 "UnlikeBoatsModel" "counting" "I") (List.mem_of_getElem? (i := 5) rfl)) (fun _ h9 => h9) (mL_some (Nat.le_of_ble_eq_true rfl) hf_counting) dX13_thrown__11 ?_
    refine lv_iconst (v := 1) hx hb dX13_thrown__14 (by decide) ?_
    refine lv_isub hx hb dX13_thrown__15 ?_
    refine lv_topi (fun y5 ey5 => ?_)
    obtain rfl : (-1 : Int32) = y5 := (ey5.trans (by decide)).symm
    refine va_calli (va_runS (As := [.int a0, .int 0, .int (-1)]) (rest := []) ⟨hx, hb, hml, hown, hts⟩ (m_isIn l a0 (0) (-1)) (va_cwS 3 hts g_m_thrown__m_isIn_235 rfl rfl rfl (by decide +kernel) ⟨Nat.le_of_ble_eq_true rfl, Nat.le_of_ble_eq_true rfl⟩) ⟨fun _ _ _ _ q => q, fun _ _ _ => ⟨rfl, trivial⟩⟩ rfl rfl hl.1 rfl (lv_room (Nat.le_of_ble_eq_true rfl)) dX13_thrown__16 ⟨Nat.le_of_ble_eq_true rfl, Nat.le_of_ble_eq_true rfl⟩) hS (fun _ _ h => h.elim) (fun _ h => h.elim) (fun r6 u7 t H1 locs ht hvm hw hB hz1 hk1 hS => ?_)
    have hP := ub_keep hP hk1
    generalize H1 = H at hP hS ⊢
    rcases hw with ⟨-, hw1, hw2⟩ | ⟨rfl, -⟩
    · exact (ub_rng (lo := 0) (hi := -1) (by decide) hw1 hw2).elim
    refine lv_if_eq (tgt := 39) hx hb dX13_thrown__19 (by decide) (fun c8 => ?_) (fun c8 => by first | exact absurd c8 (by decide) | exact absurd (by decide) c8)
    refine lv_iconst (v := -1) hx hb dX13_thrown__39 (by decide) ?_
    exact W.iret (v := (-1)) hx hb hr (fun t ht hW => ⟨⟨(-1), (), rfl, rfl, trivial⟩, hS.F ht⟩) hS.2.2 dX13_thrown__40
  · --out
    have d9 := hw1
    refine lv_if_eq (tgt := 39) hx hb dX13_thrown__5 (by decide) (fun c10 => ?_) (fun c10 => by first | exact absurd c10 (by decide) | exact absurd (by decide) c10)
    refine lv_iconst (v := -1) hx hb dX13_thrown__39 (by decide) ?_
    exact W.iret (v := (-1)) hx hb hr (fun t ht hW => ⟨⟨(-1), (), rfl, rfl, trivial⟩, hS.F ht⟩) hS.2.2 dX13_thrown__40
def A_m_total : List Cond := [.methodLink RX13 450 yX13_score, .instanceMethod yX13_score, .selects RX13 yX13_score yX13_score, .initialized RX13, .methodLink RX13 245 yX13_isBoat, .instanceMethod yX13_isBoat, .selects RX13 yX13_isBoat yX13_isBoat, .code yX13_score cX13_score 7 (some .boolean), .fieldLink RX13 228 "UnlikeBoatsModel" "thrown" "I", .methodLink RX13 252 yX13_isKnown, .instanceMethod yX13_isKnown, .selects RX13 yX13_isKnown yX13_isKnown, .fieldLink RX13 447 "UnlikeBoatsModel" "counting" "I", .fieldLink RX13 390 "UnlikeBoatsModel" "races" "I", .fieldLink RX13 239 "UnlikeBoatsModel" "boats" "I", .methodLink RX13 377 yX13_clear, .instanceMethod yX13_clear, .selects RX13 yX13_clear yX13_clear, .fieldLink RX13 44 "UnlikeBoatsModel" "letters" "[I", .methodLink RX13 380 yX13_worth, .instanceMethod yX13_worth, .selects RX13 yX13_worth yX13_worth, .methodLink RX13 383 Lib.Math.min.name, .static Lib.Math.min.name, .initialized "java/lang/Math", .code Lib.Math.min.name Lib.Math.min.code 2 (some .int), .methodLink RX13 385 Lib.Math.max.name, .static Lib.Math.max.name, .code Lib.Math.max.name Lib.Math.max.code 2 (some .int), .code yX13_isKnown cX13_isKnown 2 (some .boolean), .fieldLink RX13 232 "UnlikeBoatsModel" "now" "I", .methodLink RX13 235 yX13_isIn, .static yX13_isIn, .code yX13_isIn cX13_isIn 3 (some .boolean), .code yX13_clear cX13_clear 2 none, .code yX13_worth cX13_worth 5 (some .int), .methodLink RX13 373 yX13_rulesOn, .instanceMethod yX13_rulesOn, .selects RX13 yX13_rulesOn yX13_rulesOn, .code yX13_rulesOn cX13_rulesOn 5 (some .int), .fieldLink RX13 370 "UnlikeBoatsModel" "rules" "I", .code yX13_isBoat cX13_isBoat 2 (some .boolean)]
def v_m_total : List Cond := .code yX13_total cX13_total 3 (some .int) :: (A_m_total ++ wsX130)
theorem iw_m_total_X13 : ∀ w ∈ wsX130, w ∈ v_m_total := fun _ h => List.mem_cons_of_mem _ (List.mem_append_right _ (h))
theorem gb_m_total_m_score0 : GoodIn v_m_total (.code yX13_score cX13_score 7 (some .boolean) :: A_m_score) := (List.forall_mem_cons.mpr ⟨⟨List.mem_of_getElem? (i := 8) rfl, good_of_word rfl⟩, (List.forall_mem_cons.mpr ⟨⟨List.mem_of_getElem? (i := 9) rfl, good_of_word rfl⟩, (List.forall_mem_cons.mpr ⟨⟨List.mem_of_getElem? (i := 10) rfl, good_of_word rfl⟩, (List.forall_mem_cons.mpr ⟨⟨List.mem_of_getElem? (i := 11) rfl, good_of_word rfl⟩, (List.forall_mem_cons.mpr ⟨⟨List.mem_of_getElem? (i := 12) rfl, good_of_word rfl⟩, (List.forall_mem_cons.mpr ⟨⟨List.mem_of_getElem? (i := 4) rfl, good_of_word rfl⟩, (List.forall_mem_cons.mpr ⟨⟨List.mem_of_getElem? (i := 13) rfl, good_of_word rfl⟩, (List.forall_mem_cons.mpr ⟨⟨List.mem_of_getElem? (i := 14) rfl, good_of_word rfl⟩, (List.forall_mem_cons.mpr ⟨⟨List.mem_of_getElem? (i := 15) rfl, good_of_word rfl⟩, (List.forall_mem_cons.mpr ⟨⟨List.mem_of_getElem? (i := 16) rfl, good_of_word rfl⟩, (List.forall_mem_cons.mpr ⟨⟨List.mem_of_getElem? (i := 17) rfl, good_of_word rfl⟩, (List.forall_mem_cons.mpr ⟨⟨List.mem_of_getElem? (i := 18) rfl, good_of_word rfl⟩, (List.forall_mem_cons.mpr ⟨⟨List.mem_of_getElem? (i := 19) rfl, good_of_word rfl⟩, (List.forall_mem_cons.mpr ⟨⟨List.mem_of_getElem? (i := 20) rfl, good_of_word rfl⟩, (List.forall_mem_cons.mpr ⟨⟨List.mem_of_getElem? (i := 21) rfl, good_of_word rfl⟩, (List.forall_mem_cons.mpr ⟨⟨List.mem_of_getElem? (i := 22) rfl, good_of_word rfl⟩, (List.forall_mem_cons.mpr ⟨⟨List.mem_of_getElem? (i := 23) rfl, good_of_word rfl⟩, (List.forall_mem_cons.mpr ⟨⟨List.mem_of_getElem? (i := 24) rfl, good_of_word rfl⟩, (List.forall_mem_cons.mpr ⟨⟨List.mem_of_getElem? (i := 25) rfl, good_of_word rfl⟩, (List.forall_mem_cons.mpr ⟨⟨List.mem_of_getElem? (i := 26) rfl, good_of_word rfl⟩, (List.forall_mem_cons.mpr ⟨⟨List.mem_of_getElem? (i := 27) rfl, good_of_word rfl⟩, (List.forall_mem_cons.mpr ⟨⟨List.mem_of_getElem? (i := 28) rfl, good_of_word rfl⟩, (List.forall_mem_cons.mpr ⟨⟨List.mem_of_getElem? (i := 29) rfl, good_of_word rfl⟩, (List.forall_mem_cons.mpr ⟨⟨List.mem_of_getElem? (i := 30) rfl, good_of_word rfl⟩, (List.forall_mem_cons.mpr ⟨⟨List.mem_of_getElem? (i := 31) rfl, good_of_word rfl⟩, (List.forall_mem_cons.mpr ⟨⟨List.mem_of_getElem? (i := 32) rfl, good_of_word rfl⟩, (List.forall_mem_cons.mpr ⟨⟨List.mem_of_getElem? (i := 33) rfl, good_of_word rfl⟩, (List.forall_mem_cons.mpr ⟨⟨List.mem_of_getElem? (i := 34) rfl, good_of_word rfl⟩, (List.forall_mem_cons.mpr ⟨⟨List.mem_of_getElem? (i := 35) rfl, good_of_word rfl⟩, (List.forall_mem_cons.mpr ⟨⟨List.mem_of_getElem? (i := 36) rfl, good_of_word rfl⟩, (List.forall_mem_cons.mpr ⟨⟨List.mem_of_getElem? (i := 37) rfl, good_of_word rfl⟩, (List.forall_mem_cons.mpr ⟨⟨List.mem_of_getElem? (i := 38) rfl, good_of_word rfl⟩, (List.forall_mem_cons.mpr ⟨⟨List.mem_of_getElem? (i := 39) rfl, good_of_word rfl⟩, (List.forall_mem_cons.mpr ⟨⟨List.mem_of_getElem? (i := 40) rfl, good_of_word rfl⟩, (List.forall_mem_cons.mpr ⟨⟨List.mem_of_getElem? (i := 41) rfl, good_of_word rfl⟩, (fun _ h => nomatch h)⟩)⟩)⟩)⟩)⟩)⟩)⟩)⟩)⟩)⟩)⟩)⟩)⟩)⟩)⟩)⟩)⟩)⟩)⟩)⟩)⟩)⟩)⟩)⟩)⟩)⟩)⟩)⟩)⟩)⟩)⟩)⟩)⟩)⟩)⟩)
theorem gb_m_total_m_score : GoodIn v_m_total v_m_score := (goodIn_ca gb_m_total_m_score0 (goodIn_sub iw_m_total_X13 gw_X13))
theorem g_m_total_m_score_450 : GoodIn v_m_total (wsV RX13 450 RX13 yX13_score v_m_score) := goodIn_app (List.forall_mem_cons.mpr ⟨⟨List.mem_of_getElem? (i := 1) rfl, good_of_word rfl⟩, (List.forall_mem_cons.mpr ⟨⟨List.mem_of_getElem? (i := 2) rfl, good_of_word rfl⟩, (List.forall_mem_cons.mpr ⟨⟨List.mem_of_getElem? (i := 3) rfl, good_of_word rfl⟩, (List.forall_mem_cons.mpr ⟨⟨List.mem_of_getElem? (i := 4) rfl, good_of_word rfl⟩, (fun _ h => nomatch h)⟩)⟩)⟩)⟩) gb_m_total_m_score
theorem gb_m_total_m_isBoat0 : GoodIn v_m_total (.code yX13_isBoat cX13_isBoat 2 (some .boolean) :: A_m_isBoat) := (List.forall_mem_cons.mpr ⟨⟨List.mem_of_getElem? (i := 42) rfl, good_of_word rfl⟩, (List.forall_mem_cons.mpr ⟨⟨List.mem_of_getElem? (i := 15) rfl, good_of_word rfl⟩, (fun _ h => nomatch h)⟩)⟩)
theorem gb_m_total_m_isBoat : GoodIn v_m_total v_m_isBoat := (goodIn_ca gb_m_total_m_isBoat0 (goodIn_sub iw_m_total_X13 gw_X13))
theorem g_m_total_m_isBoat_245 : GoodIn v_m_total (wsV RX13 245 RX13 yX13_isBoat v_m_isBoat) := goodIn_app (List.forall_mem_cons.mpr ⟨⟨List.mem_of_getElem? (i := 5) rfl, good_of_word rfl⟩, (List.forall_mem_cons.mpr ⟨⟨List.mem_of_getElem? (i := 6) rfl, good_of_word rfl⟩, (List.forall_mem_cons.mpr ⟨⟨List.mem_of_getElem? (i := 7) rfl, good_of_word rfl⟩, (List.forall_mem_cons.mpr ⟨⟨List.mem_of_getElem? (i := 4) rfl, good_of_word rfl⟩, (fun _ h => nomatch h)⟩)⟩)⟩)⟩) gb_m_total_m_isBoat
set_option maxHeartbeats 4000000 in
set_option maxRecDepth 100000 in
theorem m_total (l : Launch) (dC : Nat → ClassId) (dI : Nat → Nat → Nat) (h : Nat) (f : Nat → Value) (ltr : Nat) (cI : ClassId) (gt : Nat → Int32) (a0 : Int32) (a1 : Int32) (sz : Nat) (hf_thrown : f 0 = .int 0) (hf_letters : f 15 = .ref ltr) (hf_now : f 1 = .int 0) (hf_counting : f 55 = .int 0) (hf_races : f 46 = .int 0) (hf_boats : f 8 = .int 0) (hf_rules : f 17 = .int 0) : Met l yX13_total v_m_total ({ frames := 3, cells := 0, slots := 0, locals := 120 }) (va_Pc [.ref h, .int a0, .int a1] (fun U => U.heap.size = sz ∧ va_P (dC, dI) vwCl [(h, .inr (14, mL f)), (ltr, .inl (cI, 128, .inl gt))] U.heap ∧ va_K (dC, dI) vwCl [(cI, .int)] U ∧ va_D (fun _ => True) [(h, .inr (14, mL f)), (ltr, .inl (cI, 128, .inl gt))])) (va_Qi (S := Unit) (fun r _ => r = -1) (fun _ _ => True) (va_A [(h, .inr (14, mL f)), (ltr, .inl (cI, 128, .inl gt))] sz)) 0 0 (va_A [(h, .inr (14, mL f)), (ltr, .inl (cI, 128, .inl gt))] sz) := by
  refine Met.ofW (cc := cX13_total) (maxL := 3) (ret := (some .int)) (by decide) rfl ?_
  intro p e s m args below meth c s₁ B hml hv
  obtain ⟨rfl, hsz, hP, hK, hD0⟩ := hv
  have hx := B.exec
  have hb := B.bytes
  have hr := B.returns
  have hts := atoms_spec (ws := v_m_total) B.pre
  have hown : s.vm.findClass RX13 = some m.cls := findClass_of_methodNamed B.named
  have hlocks := B.notSynchronized
  subst hsz
  have hD := hD0.self (sz := s.heap.size)
  generalize hAe : va_A [(h, .inr (14, mL f)), (ltr, .inl (cI, 128, .inl gt))] s.heap.size = A at hD ⊢
  have hA : ∀ q : Nat, s.heap.size ≤ q → A q := fun q h => by rw [← hAe]; exact Or.inr h
  have hS : va_S A s.heap s.heap [] := va_S.rf
  have hP : va_P (dC, dI) vwCl [(h, .inr (14, mL f)), (ltr, .inl (cI, 128, .inl gt))] s.heap := hP
  have hl := lv_entry ([.ref h, .int a0, .int a1]) (n := 3) (Nat.le_of_ble_eq_true rfl)
  rw [lg_entry_eq]
  generalize (lg_sl ([.ref h, .int a0, .int a1]) ++ List.replicate (3 - (lg_sl ([.ref h, .int a0, .int a1])).length) Slot.unset).toArray = ls at hl ⊢
  have hl : lv_has ls 3 [(0, .ref h), (1, .int a0), (2, .int a1)] := hl
  refine lv_aload_n hx hb dX13_total_0 rfl (lv_at hl 0 rfl) ?_
  refine lv_iload_n hx hb dX13_total_1 rfl (lv_at hl 2 rfl) ?_
  have hPc := hP.sub (ws' := [(h, .inr (14, mL f)), (ltr, .inl (cI, 128, .inl gt))]) [0, 1] rfl
  have hKc := hK.sub (tys' := [(cI, .int)]) [0] rfl
  have hDc := hD.sub (ws' := [(h, .inr (14, mL f)), (ltr, .inl (cI, 128, .inl gt))]) [0, 1] (by decide) rfl
  have hFc := va_free (wc := [(h, .inr (14, mL f)), (ltr, .inl (cI, 128, .inl gt))]) hD hS hA [0, 1] rfl
  refine va_calli (va_runV (As := [.int a1]) (rest := []) ⟨hx, hb, hml, hown, hts⟩ (m_score l dC dI h f ltr cI gt a1 s.heap.size hf_thrown hf_letters hf_now hf_counting hf_races hf_boats hf_rules) (cwV 1 hts g_m_total_m_score_450 rfl rfl rfl (by decide +kernel) ⟨Nat.le_of_ble_eq_true rfl, Nat.le_of_ble_eq_true rfl⟩) ⟨fun a U g mk q => by obtain ⟨e0, e1, qP, qK, qD⟩ := q; exact ⟨e0, e1, qP, va_K.moved (u := U) (U := U.calling g mk a) (Vm.Alike.refl U.vm) qK, qD⟩, va_recv hK hP (ci := 14) (q0 := 0) rfl rfl, fun U hU hW => ⟨rfl, by rw [hU], by rw [hU]; exact hPc, va_K.moved hW.alike hKc, hDc.weaken (fun _ _ _ _ => trivial)⟩⟩ rfl rfl hl.1 rfl (lv_room (Nat.le_of_ble_eq_true rfl)) dX13_total_2 ⟨Nat.le_of_ble_eq_true rfl, Nat.le_of_ble_eq_true rfl⟩) hS (fun q _ h => hFc q h) hFc (fun r1 u2 t H1 locs ht hvm hw hB hz1 hk1 hS => ?_)
  obtain ⟨hP1, hK1, hD1⟩ := hB
  rw [ht] at hP1
  obtain ⟨hP, hD⟩ := va_join (wr := []) (w1 := [(h, .inr (14, mL f)), (ltr, .inl (cI, 128, .inl u2))]) hP hD [0, 1] [] rfl rfl (by decide) (by decide) hk1 hFc hP1 hD1
  have hK1 := va_K.moved hvm.symm hK1
  have hK := hK.app hK1
  have hK : va_K (dC, dI) vwCl [(cI, .int), (cI, .int)] s := hK
  generalize H1 = H at hP hS ⊢
  have hP : va_P (dC, dI) vwCl [(h, .inr (14, mL f)), (ltr, .inl (cI, 128, .inl u2))] H := hP
  have hD : va_D A [(h, .inr (14, mL f)), (ltr, .inl (cI, 128, .inl u2))] := hD
  have hK := hK.sub (tys' := [(cI, .int)]) [0] rfl
  refine W.widen (k := 0) (n := 0) (by omega) (by omega) ?_
  rcases hw with ⟨rfl, hw1, hw2⟩ | ⟨rfl, hw1⟩
  · --in
    have d3a := hw1
    have d3b := hw2
    refine lv_if_eq (tgt := 34) hx hb dX13_total_5 (by decide) (fun c4 => by first | exact absurd c4 (by decide) | exact absurd (by decide) c4) (fun c4 => ?_)
    refine lv_aload_n hx hb dX13_total_8 rfl (lv_at hl 0 rfl) ?_
    refine lv_iload_n hx hb dX13_total_9 rfl (lv_at hl 1 rfl) ?_
    have hPc := hP.sub (ws' := [(h, .inr (14, mL f))]) [0] rfl
    have hKc := hK.sub (tys' := []) [] rfl
    refine va_calli (va_runV (As := [.int a0]) (rest := []) ⟨hx, hb, hml, hown, hts⟩ (m_isBoat l dC dI h f a0 hf_boats) (cwV 1 hts g_m_total_m_isBoat_245 rfl rfl rfl (by decide +kernel) ⟨Nat.le_of_ble_eq_true rfl, Nat.le_of_ble_eq_true rfl⟩) ⟨fun a U g mk q => by obtain ⟨e0, qP, qK⟩ := q; exact ⟨e0, qP, va_K.moved (u := U) (U := U.calling g mk a) (Vm.Alike.refl U.vm) qK⟩, va_recv hK hP (ci := 14) (q0 := 0) rfl rfl, fun U hU hW => ⟨rfl, by rw [hU]; exact hPc, va_K.moved hW.alike hKc⟩⟩ rfl rfl hl.1 rfl (lv_room (Nat.le_of_ble_eq_true rfl)) dX13_total_10 ⟨Nat.le_of_ble_eq_true rfl, Nat.le_of_ble_eq_true rfl⟩) hS (fun _ _ h => h.elim) (fun _ h => h.elim) (fun r5 u6 t H1 locs ht hvm hw hB hz1 hk1 hS => ?_)
    have hP := ub_keep hP hk1
    generalize H1 = H at hP hS ⊢
    obtain rfl : (0 : Int32) = r5 := hw.symm
    refine lv_if_eq (tgt := 34) hx hb dX13_total_13 (by decide) (fun c7 => ?_) (fun c7 => by first | exact absurd c7 (by decide) | exact absurd (by decide) c7)
    refine lv_iconst (v := -1) hx hb dX13_total_34 (by decide) ?_
    exact W.iret (v := (-1)) hx hb hr (fun t ht hW => ⟨⟨(-1), (), rfl, rfl, trivial⟩, hS.F ht⟩) hS.2.2 dX13_total_35
  · --out
    have d8 := hw1
    refine lv_if_eq (tgt := 34) hx hb dX13_total_5 (by decide) (fun c9 => ?_) (fun c9 => by first | exact absurd c9 (by decide) | exact absurd (by decide) c9)
    refine lv_iconst (v := -1) hx hb dX13_total_34 (by decide) ?_
    exact W.iret (v := (-1)) hx hb hr (fun t ht hW => ⟨⟨(-1), (), rfl, rfl, trivial⟩, hS.F ht⟩) hS.2.2 dX13_total_35
def A_m_ranked : List Cond := [.methodLink RX13 450 yX13_score, .instanceMethod yX13_score, .selects RX13 yX13_score yX13_score, .initialized RX13, .fieldLink RX13 239 "UnlikeBoatsModel" "boats" "I", .code yX13_score cX13_score 7 (some .boolean), .fieldLink RX13 228 "UnlikeBoatsModel" "thrown" "I", .methodLink RX13 252 yX13_isKnown, .instanceMethod yX13_isKnown, .selects RX13 yX13_isKnown yX13_isKnown, .fieldLink RX13 447 "UnlikeBoatsModel" "counting" "I", .fieldLink RX13 390 "UnlikeBoatsModel" "races" "I", .methodLink RX13 377 yX13_clear, .instanceMethod yX13_clear, .selects RX13 yX13_clear yX13_clear, .fieldLink RX13 44 "UnlikeBoatsModel" "letters" "[I", .methodLink RX13 380 yX13_worth, .instanceMethod yX13_worth, .selects RX13 yX13_worth yX13_worth, .methodLink RX13 383 Lib.Math.min.name, .static Lib.Math.min.name, .initialized "java/lang/Math", .code Lib.Math.min.name Lib.Math.min.code 2 (some .int), .methodLink RX13 385 Lib.Math.max.name, .static Lib.Math.max.name, .code Lib.Math.max.name Lib.Math.max.code 2 (some .int), .code yX13_isKnown cX13_isKnown 2 (some .boolean), .fieldLink RX13 232 "UnlikeBoatsModel" "now" "I", .methodLink RX13 235 yX13_isIn, .static yX13_isIn, .code yX13_isIn cX13_isIn 3 (some .boolean), .code yX13_clear cX13_clear 2 none, .code yX13_worth cX13_worth 5 (some .int), .methodLink RX13 373 yX13_rulesOn, .instanceMethod yX13_rulesOn, .selects RX13 yX13_rulesOn yX13_rulesOn, .code yX13_rulesOn cX13_rulesOn 5 (some .int), .fieldLink RX13 370 "UnlikeBoatsModel" "rules" "I"]
def v_m_ranked : List Cond := .code yX13_ranked cX13_ranked 6 (some .int) :: (A_m_ranked ++ wsX130)
theorem iw_m_ranked_X13 : ∀ w ∈ wsX130, w ∈ v_m_ranked := fun _ h => List.mem_cons_of_mem _ (List.mem_append_right _ (h))
theorem gb_m_ranked_m_score0 : GoodIn v_m_ranked (.code yX13_score cX13_score 7 (some .boolean) :: A_m_score) := (List.forall_mem_cons.mpr ⟨⟨List.mem_of_getElem? (i := 6) rfl, good_of_word rfl⟩, (List.forall_mem_cons.mpr ⟨⟨List.mem_of_getElem? (i := 7) rfl, good_of_word rfl⟩, (List.forall_mem_cons.mpr ⟨⟨List.mem_of_getElem? (i := 8) rfl, good_of_word rfl⟩, (List.forall_mem_cons.mpr ⟨⟨List.mem_of_getElem? (i := 9) rfl, good_of_word rfl⟩, (List.forall_mem_cons.mpr ⟨⟨List.mem_of_getElem? (i := 10) rfl, good_of_word rfl⟩, (List.forall_mem_cons.mpr ⟨⟨List.mem_of_getElem? (i := 4) rfl, good_of_word rfl⟩, (List.forall_mem_cons.mpr ⟨⟨List.mem_of_getElem? (i := 11) rfl, good_of_word rfl⟩, (List.forall_mem_cons.mpr ⟨⟨List.mem_of_getElem? (i := 12) rfl, good_of_word rfl⟩, (List.forall_mem_cons.mpr ⟨⟨List.mem_of_getElem? (i := 5) rfl, good_of_word rfl⟩, (List.forall_mem_cons.mpr ⟨⟨List.mem_of_getElem? (i := 13) rfl, good_of_word rfl⟩, (List.forall_mem_cons.mpr ⟨⟨List.mem_of_getElem? (i := 14) rfl, good_of_word rfl⟩, (List.forall_mem_cons.mpr ⟨⟨List.mem_of_getElem? (i := 15) rfl, good_of_word rfl⟩, (List.forall_mem_cons.mpr ⟨⟨List.mem_of_getElem? (i := 16) rfl, good_of_word rfl⟩, (List.forall_mem_cons.mpr ⟨⟨List.mem_of_getElem? (i := 17) rfl, good_of_word rfl⟩, (List.forall_mem_cons.mpr ⟨⟨List.mem_of_getElem? (i := 18) rfl, good_of_word rfl⟩, (List.forall_mem_cons.mpr ⟨⟨List.mem_of_getElem? (i := 19) rfl, good_of_word rfl⟩, (List.forall_mem_cons.mpr ⟨⟨List.mem_of_getElem? (i := 20) rfl, good_of_word rfl⟩, (List.forall_mem_cons.mpr ⟨⟨List.mem_of_getElem? (i := 21) rfl, good_of_word rfl⟩, (List.forall_mem_cons.mpr ⟨⟨List.mem_of_getElem? (i := 22) rfl, good_of_word rfl⟩, (List.forall_mem_cons.mpr ⟨⟨List.mem_of_getElem? (i := 23) rfl, good_of_word rfl⟩, (List.forall_mem_cons.mpr ⟨⟨List.mem_of_getElem? (i := 24) rfl, good_of_word rfl⟩, (List.forall_mem_cons.mpr ⟨⟨List.mem_of_getElem? (i := 25) rfl, good_of_word rfl⟩, (List.forall_mem_cons.mpr ⟨⟨List.mem_of_getElem? (i := 26) rfl, good_of_word rfl⟩, (List.forall_mem_cons.mpr ⟨⟨List.mem_of_getElem? (i := 27) rfl, good_of_word rfl⟩, (List.forall_mem_cons.mpr ⟨⟨List.mem_of_getElem? (i := 28) rfl, good_of_word rfl⟩, (List.forall_mem_cons.mpr ⟨⟨List.mem_of_getElem? (i := 29) rfl, good_of_word rfl⟩, (List.forall_mem_cons.mpr ⟨⟨List.mem_of_getElem? (i := 30) rfl, good_of_word rfl⟩, (List.forall_mem_cons.mpr ⟨⟨List.mem_of_getElem? (i := 31) rfl, good_of_word rfl⟩, (List.forall_mem_cons.mpr ⟨⟨List.mem_of_getElem? (i := 32) rfl, good_of_word rfl⟩, (List.forall_mem_cons.mpr ⟨⟨List.mem_of_getElem? (i := 33) rfl, good_of_word rfl⟩, (List.forall_mem_cons.mpr ⟨⟨List.mem_of_getElem? (i := 34) rfl, good_of_word rfl⟩, (List.forall_mem_cons.mpr ⟨⟨List.mem_of_getElem? (i := 35) rfl, good_of_word rfl⟩, (List.forall_mem_cons.mpr ⟨⟨List.mem_of_getElem? (i := 36) rfl, good_of_word rfl⟩, (List.forall_mem_cons.mpr ⟨⟨List.mem_of_getElem? (i := 37) rfl, good_of_word rfl⟩, (List.forall_mem_cons.mpr ⟨⟨List.mem_of_getElem? (i := 38) rfl, good_of_word rfl⟩, (fun _ h => nomatch h)⟩)⟩)⟩)⟩)⟩)⟩)⟩)⟩)⟩)⟩)⟩)⟩)⟩)⟩)⟩)⟩)⟩)⟩)⟩)⟩)⟩)⟩)⟩)⟩)⟩)⟩)⟩)⟩)⟩)⟩)⟩)⟩)⟩)⟩)⟩)
theorem gb_m_ranked_m_score : GoodIn v_m_ranked v_m_score := (goodIn_ca gb_m_ranked_m_score0 (goodIn_sub iw_m_ranked_X13 gw_X13))
theorem g_m_ranked_m_score_450 : GoodIn v_m_ranked (wsV RX13 450 RX13 yX13_score v_m_score) := goodIn_app (List.forall_mem_cons.mpr ⟨⟨List.mem_of_getElem? (i := 1) rfl, good_of_word rfl⟩, (List.forall_mem_cons.mpr ⟨⟨List.mem_of_getElem? (i := 2) rfl, good_of_word rfl⟩, (List.forall_mem_cons.mpr ⟨⟨List.mem_of_getElem? (i := 3) rfl, good_of_word rfl⟩, (List.forall_mem_cons.mpr ⟨⟨List.mem_of_getElem? (i := 4) rfl, good_of_word rfl⟩, (fun _ h => nomatch h)⟩)⟩)⟩)⟩) gb_m_ranked_m_score
set_option maxHeartbeats 4000000 in
set_option maxRecDepth 100000 in
theorem m_ranked (l : Launch) (dC : Nat → ClassId) (dI : Nat → Nat → Nat) (h : Nat) (f : Nat → Value) (ltr : Nat) (cI : ClassId) (gt : Nat → Int32) (a0 : Int32) (a1 : Int32) (sz : Nat) (hf_thrown : f 0 = .int 0) (hf_letters : f 15 = .ref ltr) (hf_now : f 1 = .int 0) (hf_counting : f 55 = .int 0) (hf_races : f 46 = .int 0) (hf_boats : f 8 = .int 0) (hf_rules : f 17 = .int 0) : Met l yX13_ranked v_m_ranked ({ frames := 3, cells := 0, slots := 0, locals := 120 }) (va_Pc [.ref h, .int a0, .int a1] (fun U => U.heap.size = sz ∧ va_P (dC, dI) vwCl [(h, .inr (14, mL f)), (ltr, .inl (cI, 128, .inl gt))] U.heap ∧ va_K (dC, dI) vwCl [(cI, .int)] U ∧ va_D (fun _ => True) [(h, .inr (14, mL f)), (ltr, .inl (cI, 128, .inl gt))])) (va_Qi (S := Unit) (fun r _ => r = -1) (fun _ _ => True) (va_A [(h, .inr (14, mL f)), (ltr, .inl (cI, 128, .inl gt))] sz)) 0 0 (va_A [(h, .inr (14, mL f)), (ltr, .inl (cI, 128, .inl gt))] sz) := by
  refine Met.ofW (cc := cX13_ranked) (maxL := 6) (ret := (some .int)) (by decide) rfl ?_
  intro p e s m args below meth c s₁ B hml hv
  obtain ⟨rfl, hsz, hP, hK, hD0⟩ := hv
  have hx := B.exec
  have hb := B.bytes
  have hr := B.returns
  have hts := atoms_spec (ws := v_m_ranked) B.pre
  have hown : s.vm.findClass RX13 = some m.cls := findClass_of_methodNamed B.named
  have hlocks := B.notSynchronized
  subst hsz
  have hD := hD0.self (sz := s.heap.size)
  generalize hAe : va_A [(h, .inr (14, mL f)), (ltr, .inl (cI, 128, .inl gt))] s.heap.size = A at hD ⊢
  have hA : ∀ q : Nat, s.heap.size ≤ q → A q := fun q h => by rw [← hAe]; exact Or.inr h
  have hS : va_S A s.heap s.heap [] := va_S.rf
  have hP : va_P (dC, dI) vwCl [(h, .inr (14, mL f)), (ltr, .inl (cI, 128, .inl gt))] s.heap := hP
  have hl := lv_entry ([.ref h, .int a0, .int a1]) (n := 6) (Nat.le_of_ble_eq_true rfl)
  rw [lg_entry_eq]
  generalize (lg_sl ([.ref h, .int a0, .int a1]) ++ List.replicate (6 - (lg_sl ([.ref h, .int a0, .int a1])).length) Slot.unset).toArray = ls at hl ⊢
  have hl : lv_has ls 6 [(0, .ref h), (1, .int a0), (2, .int a1)] := hl
  refine lv_aload_n hx hb dX13_ranked_0 rfl (lv_at hl 0 rfl) ?_
  refine lv_iload_n hx hb dX13_ranked_1 rfl (lv_at hl 2 rfl) ?_
  have hPc := hP.sub (ws' := [(h, .inr (14, mL f)), (ltr, .inl (cI, 128, .inl gt))]) [0, 1] rfl
  have hKc := hK.sub (tys' := [(cI, .int)]) [0] rfl
  have hDc := hD.sub (ws' := [(h, .inr (14, mL f)), (ltr, .inl (cI, 128, .inl gt))]) [0, 1] (by decide) rfl
  have hFc := va_free (wc := [(h, .inr (14, mL f)), (ltr, .inl (cI, 128, .inl gt))]) hD hS hA [0, 1] rfl
  refine va_calli (va_runV (As := [.int a1]) (rest := []) ⟨hx, hb, hml, hown, hts⟩ (m_score l dC dI h f ltr cI gt a1 s.heap.size hf_thrown hf_letters hf_now hf_counting hf_races hf_boats hf_rules) (cwV 1 hts g_m_ranked_m_score_450 rfl rfl rfl (by decide +kernel) ⟨Nat.le_of_ble_eq_true rfl, Nat.le_of_ble_eq_true rfl⟩) ⟨fun a U g mk q => by obtain ⟨e0, e1, qP, qK, qD⟩ := q; exact ⟨e0, e1, qP, va_K.moved (u := U) (U := U.calling g mk a) (Vm.Alike.refl U.vm) qK, qD⟩, va_recv hK hP (ci := 14) (q0 := 0) rfl rfl, fun U hU hW => ⟨rfl, by rw [hU], by rw [hU]; exact hPc, va_K.moved hW.alike hKc, hDc.weaken (fun _ _ _ _ => trivial)⟩⟩ rfl rfl hl.1 rfl (lv_room (Nat.le_of_ble_eq_true rfl)) dX13_ranked_2 ⟨Nat.le_of_ble_eq_true rfl, Nat.le_of_ble_eq_true rfl⟩) hS (fun q _ h => hFc q h) hFc (fun r1 u2 t H1 locs ht hvm hw hB hz1 hk1 hS => ?_)
  obtain ⟨hP1, hK1, hD1⟩ := hB
  rw [ht] at hP1
  obtain ⟨hP, hD⟩ := va_join (wr := []) (w1 := [(h, .inr (14, mL f)), (ltr, .inl (cI, 128, .inl u2))]) hP hD [0, 1] [] rfl rfl (by decide) (by decide) hk1 hFc hP1 hD1
  have hK1 := va_K.moved hvm.symm hK1
  have hK := hK.app hK1
  have hK : va_K (dC, dI) vwCl [(cI, .int), (cI, .int)] s := hK
  generalize H1 = H at hP hS ⊢
  have hP : va_P (dC, dI) vwCl [(h, .inr (14, mL f)), (ltr, .inl (cI, 128, .inl u2))] H := hP
  have hD : va_D A [(h, .inr (14, mL f)), (ltr, .inl (cI, 128, .inl u2))] := hD
  have hK := hK.sub (tys' := [(cI, .int)]) [0] rfl
  refine W.widen (k := 0) (n := 0) (by omega) (by omega) ?_
  rcases hw with ⟨rfl, hw1, hw2⟩ | ⟨rfl, hw1⟩
  · --in
    have d3a := hw1
    have d3b := hw2
    refine lv_if_ne (tgt := 10) hx hb dX13_ranked_5 (by decide) (fun c4 => ?_) (fun c4 => by first | exact absurd c4 (by decide) | exact absurd (by decide) c4)
    refine lv_iconst (v := 0) hx hb dX13_ranked_10 (by decide) ?_
    refine lv_istore_n (lv' := [(3, .int 0), (0, .ref h), (1, .int a0), (2, .int a1)]) hx hb dX13_ranked_11 rfl hl (by decide) rfl (fun ls hl => ?_)
    refine lv_iload_n hx hb dX13_ranked_12 rfl (lv_at hl 0 rfl) ?_
    refine lv_aload_n hx hb dX13_ranked_13 rfl (lv_at hl 1 rfl) ?_
    refine va_get (D := (dC, dI)) (ci := 14) (v := .int 0) (C := RX13) (T := TX13) (N := 97) hx hb hts iw_m_ranked_X13 hown hK hP 0 rfl rfl 8 (by decide) (hts (.fieldLink RX13 239 "UnlikeBoatsModel" "boats" "I") (List.mem_of_getElem? (i := 5) rfl)) (fun _ h9 => h9) (mL_some (Nat.le_of_ble_eq_true rfl) hf_boats) dX13_ranked_14 ?_
    refine lv_icmp_ge (tgt := 103) hx hb dX13_ranked_17 (by decide) (fun c5 => ?_) (fun c5 => by first | exact absurd c5 (by decide) | exact absurd (by decide) c5)
    refine lv_iconst (v := -1) hx hb dX13_ranked_103 (by decide) ?_
    exact W.iret (v := (-1)) hx hb hr (fun t ht hW => ⟨⟨(-1), (), rfl, rfl, trivial⟩, hS.F ht⟩) hS.2.2 dX13_ranked_104
  · --out
    have d6 := hw1
    refine lv_if_ne (tgt := 10) hx hb dX13_ranked_5 (by decide) (fun c7 => by first | exact absurd c7 (by decide) | exact absurd (by decide) c7) (fun c7 => ?_)
    refine lv_iconst (v := -1) hx hb dX13_ranked_8 (by decide) ?_
    exact W.iret (v := (-1)) hx hb hr (fun t ht hW => ⟨⟨(-1), (), rfl, rfl, trivial⟩, hS.F ht⟩) hS.2.2 dX13_ranked_9
def A_m_thrown0 : List Cond := [.fieldLink RX13 228 "UnlikeBoatsModel" "thrown" "I"]
def v_m_thrown0 : List Cond := .code yX13_thrown cX13_thrown 1 (some .int) :: (A_m_thrown0 ++ wsX130)
theorem iw_m_thrown0_X13 : ∀ w ∈ wsX130, w ∈ v_m_thrown0 := fun _ h => List.mem_cons_of_mem _ (List.mem_append_right _ (h))
set_option maxHeartbeats 4000000 in
set_option maxRecDepth 100000 in
theorem m_thrown0 (l : Launch) (dC : Nat → ClassId) (dI : Nat → Nat → Nat) (h : Nat) (f : Nat → Value) (v : Int32) (hf_thrown : f 0 = .int v) : Met l yX13_thrown v_m_thrown0 ({ frames := 0, cells := 0, slots := 0, locals := 0 }) (va_Pc [.ref h] (fun U => va_P (dC, dI) vwCl [(h, .inr (14, mL f))] U.heap ∧ va_K (dC, dI) vwCl [] U)) (va_Qi (S := Unit) (fun r _ => r = v) (fun _ _ => True) (fun _ => False)) 0 0 (fun _ => False) := by
  refine Met.ofW (cc := cX13_thrown) (maxL := 1) (ret := (some .int)) (by decide) rfl ?_
  intro p e s m args below meth c s₁ B hml hv
  obtain ⟨rfl, hP, hK⟩ := hv
  have hx := B.exec
  have hb := B.bytes
  have hr := B.returns
  have hts := atoms_spec (ws := v_m_thrown0) B.pre
  have hown : s.vm.findClass RX13 = some m.cls := findClass_of_methodNamed B.named
  have hlocks := B.notSynchronized
  have hS : va_S (fun _ : Nat => False) s.heap s.heap [] := va_S.rf
  have hl := lv_entry ([.ref h]) (n := 1) (Nat.le_of_ble_eq_true rfl)
  rw [lg_entry_eq]
  generalize (lg_sl ([.ref h]) ++ List.replicate (1 - (lg_sl ([.ref h])).length) Slot.unset).toArray = ls at hl ⊢
  have hl : lv_has ls 1 [(0, .ref h)] := hl
  refine lv_aload_n hx hb dX13_thrown_0 rfl (lv_at hl 0 rfl) ?_
  refine va_get (D := (dC, dI)) (ci := 14) (v := .int v) (C := RX13) (T := TX13) (N := 97) hx hb hts iw_m_thrown0_X13 hown hK hP 0 rfl rfl 0 (by decide) (hts (.fieldLink RX13 228 "UnlikeBoatsModel" "thrown" "I") (List.mem_of_getElem? (i := 1) rfl)) (fun _ h9 => h9) (mL_some (Nat.le_of_ble_eq_true rfl) hf_thrown) dX13_thrown_1 ?_
  exact W.iret (v := v) hx hb hr (fun t ht hW => ⟨⟨v, (), rfl, rfl, trivial⟩, hS.F ht⟩) hS.2.2 dX13_thrown_4
def A_c_forgetLetters : List Cond := [.fieldLink RX0 41 "UnlikeBoats$Book" "letters" "[I", .methodLink RX0 134 yJ7_fill_53178, .static yJ7_fill_53178, .initialized RJ7, .code yJ7_fill_53178 cJ7_fill_53178 4 none]
def v_c_forgetLetters : List Cond := .code yX0_forgetLetters cX0_forgetLetters 1 none :: (A_c_forgetLetters ++ wsX00)
theorem iw_c_forgetLetters_X0 : ∀ w ∈ wsX00, w ∈ v_c_forgetLetters := fun _ h => List.mem_cons_of_mem _ (List.mem_append_right _ (h))
theorem gb_c_forgetLetters_c_fill0 : GoodIn v_c_forgetLetters (.code yJ7_fill_53178 cJ7_fill_53178 4 none :: A_c_fill) := (List.forall_mem_cons.mpr ⟨⟨List.mem_of_getElem? (i := 5) rfl, good_of_word rfl⟩, (fun _ h => nomatch h)⟩)
theorem gb_c_forgetLetters_c_fill : GoodIn v_c_forgetLetters v_c_fill := gb_c_forgetLetters_c_fill0
theorem g_c_forgetLetters_c_fill_134 : GoodIn v_c_forgetLetters (va_wsS RX0 134 yJ7_fill_53178 v_c_fill) := goodIn_app (List.forall_mem_cons.mpr ⟨⟨List.mem_of_getElem? (i := 2) rfl, good_of_word rfl⟩, (List.forall_mem_cons.mpr ⟨⟨List.mem_of_getElem? (i := 3) rfl, good_of_word rfl⟩, (List.forall_mem_cons.mpr ⟨⟨List.mem_of_getElem? (i := 4) rfl, good_of_word rfl⟩, (fun _ h => nomatch h)⟩)⟩)⟩) gb_c_forgetLetters_c_fill
set_option maxHeartbeats 4000000 in
set_option maxRecDepth 100000 in
theorem c_forgetLetters (l : Launch) (dC : Nat → ClassId) (dI : Nat → Nat → Nat) (bk : Nat) (lc : Nat) (lr : Nat) (la : Nat) (le : Nat) (lw : Nat) (lp : Nat) (ltr : Nat) (stk : Nat) (cI : ClassId) (gt : Nat → Int32) (sz : Nat)  : Met l yX0_forgetLetters v_c_forgetLetters ({ frames := 1, cells := 0, slots := 0, locals := 40 }) (va_Pc [.ref bk] (fun U => U.heap.size = sz ∧ va_P (dC, dI) vwCl [(bk, .inr (1, [.int 0, .int 0, .int 0, .ref lc, .ref lr, .ref la, .ref le, .ref lw, .ref lp, .ref ltr, .ref stk])), (ltr, .inl (cI, 14, .inl gt))] U.heap ∧ va_K (dC, dI) vwCl [(cI, .int)] U ∧ va_D (fun _ => True) [(bk, .inr (1, [.int 0, .int 0, .int 0, .ref lc, .ref lr, .ref la, .ref le, .ref lw, .ref lp, .ref ltr, .ref stk])), (ltr, .inl (cI, 14, .inl gt))])) (va_Qv (S := Nat → Int32) (fun _ => True) (fun u t => va_P (dC, dI) vwCl [(bk, .inr (1, [.int 0, .int 0, .int 0, .ref lc, .ref lr, .ref la, .ref le, .ref lw, .ref lp, .ref ltr, .ref stk])), (ltr, .inl (cI, 14, .inl u))] t.heap ∧ va_K (dC, dI) vwCl [(cI, .int)] t ∧ va_D (va_A [(bk, .inr (1, [.int 0, .int 0, .int 0, .ref lc, .ref lr, .ref la, .ref le, .ref lw, .ref lp, .ref ltr, .ref stk])), (ltr, .inl (cI, 14, .inl gt))] sz) [(bk, .inr (1, [.int 0, .int 0, .int 0, .ref lc, .ref lr, .ref la, .ref le, .ref lw, .ref lp, .ref ltr, .ref stk])), (ltr, .inl (cI, 14, .inl u))]) (va_A [(bk, .inr (1, [.int 0, .int 0, .int 0, .ref lc, .ref lr, .ref la, .ref le, .ref lw, .ref lp, .ref ltr, .ref stk])), (ltr, .inl (cI, 14, .inl gt))] sz)) 0 0 (va_A [(bk, .inr (1, [.int 0, .int 0, .int 0, .ref lc, .ref lr, .ref la, .ref le, .ref lw, .ref lp, .ref ltr, .ref stk])), (ltr, .inl (cI, 14, .inl gt))] sz) := by
  refine Met.ofW (cc := cX0_forgetLetters) (maxL := 1) (ret := none) (by decide) rfl ?_
  intro p e s m args below meth c s₁ B hml hv
  obtain ⟨rfl, hsz, hP, hK, hD0⟩ := hv
  have hx := B.exec
  have hb := B.bytes
  have hr := B.returns
  have hts := atoms_spec (ws := v_c_forgetLetters) B.pre
  have hown : s.vm.findClass RX0 = some m.cls := findClass_of_methodNamed B.named
  have hlocks := B.notSynchronized
  subst hsz
  have hD := hD0.self (sz := s.heap.size)
  generalize hAe : va_A [(bk, .inr (1, [.int 0, .int 0, .int 0, .ref lc, .ref lr, .ref la, .ref le, .ref lw, .ref lp, .ref ltr, .ref stk])), (ltr, .inl (cI, 14, .inl gt))] s.heap.size = A at hD ⊢
  have hA : ∀ q : Nat, s.heap.size ≤ q → A q := fun q h => by rw [← hAe]; exact Or.inr h
  have hS : va_S A s.heap s.heap [] := va_S.rf
  have hP : va_P (dC, dI) vwCl [(bk, .inr (1, [.int 0, .int 0, .int 0, .ref lc, .ref lr, .ref la, .ref le, .ref lw, .ref lp, .ref ltr, .ref stk])), (ltr, .inl (cI, 14, .inl gt))] s.heap := hP
  have hl := lv_entry ([.ref bk]) (n := 1) (Nat.le_of_ble_eq_true rfl)
  rw [lg_entry_eq]
  generalize (lg_sl ([.ref bk]) ++ List.replicate (1 - (lg_sl ([.ref bk])).length) Slot.unset).toArray = ls at hl ⊢
  have hl : lv_has ls 1 [(0, .ref bk)] := hl
  refine lv_aload_n hx hb dX0_forgetLetters_0 rfl (lv_at hl 0 rfl) ?_
  refine va_get (D := (dC, dI)) (ci := 1) (v := .ref ltr) (C := RX0) (T := TX0) (N := 11) hx hb hts iw_c_forgetLetters_X0 hown hK hP 0 rfl rfl 9 (by decide) (hts (.fieldLink RX0 41 "UnlikeBoats$Book" "letters" "[I") (List.mem_of_getElem? (i := 1) rfl)) (fun _ h9 => h9) rfl dX0_forgetLetters_1 ?_
  refine lv_iconst (v := 0) hx hb dX0_forgetLetters_4 (by decide) ?_
  have hPc := hP.sub (ws' := [(ltr, .inl (cI, 14, .inl gt))]) [1] rfl
  have hKc := hK.sub (tys' := [(cI, .int)]) [0] rfl
  have hDc := hD.sub (ws' := [(ltr, .inl (cI, 14, .inl gt))]) [1] (by decide) rfl
  have hFc := va_free (wc := [(ltr, .inl (cI, 14, .inl gt))]) hD hS hA [1] rfl
  refine va_callv (va_runS (As := [.ref ltr, .int 0]) (rest := []) ⟨hx, hb, hml, hown, hts⟩ (c_fill l dC dI ltr cI (14) gt (0) s.heap.size (by decide)) (va_cwS 2 hts g_c_forgetLetters_c_fill_134 rfl rfl rfl (by decide +kernel) ⟨Nat.le_of_ble_eq_true rfl, Nat.le_of_ble_eq_true rfl⟩) ⟨fun a U g mk q => by obtain ⟨e0, e1, qP, qK, qD⟩ := q; exact ⟨e0, e1, qP, va_K.moved (u := U) (U := U.calling g mk a) (Vm.Alike.refl U.vm) qK, qD⟩, fun U hU hW => ⟨rfl, by rw [hU], by rw [hU]; exact hPc, va_K.moved hW.alike hKc, hDc.weaken (fun _ _ _ _ => trivial)⟩⟩ rfl rfl hl.1 rfl (lv_room (Nat.le_of_ble_eq_true rfl)) dX0_forgetLetters_5 ⟨Nat.le_of_ble_eq_true rfl, Nat.le_of_ble_eq_true rfl⟩) hS (fun q _ h => hFc q h) hFc (fun u2 t H1 locs ht hvm hw hB hz1 hk1 hS => ?_)
  obtain ⟨hP1, hK1, hD1⟩ := hB
  rw [ht] at hP1
  obtain ⟨hP, hD⟩ := va_join (wr := [(bk, .inr (1, [.int 0, .int 0, .int 0, .ref lc, .ref lr, .ref la, .ref le, .ref lw, .ref lp, .ref ltr, .ref stk]))]) (w1 := [(ltr, .inl (cI, 14, .inl u2))]) hP hD [1] [0] rfl rfl (by decide) (by decide) hk1 hFc hP1 hD1
  have hK1 := va_K.moved hvm.symm hK1
  have hK := hK.app hK1
  have hK : va_K (dC, dI) vwCl [(cI, .int), (cI, .int)] s := hK
  generalize H1 = H at hP hS ⊢
  have hP : va_P (dC, dI) vwCl [(bk, .inr (1, [.int 0, .int 0, .int 0, .ref lc, .ref lr, .ref la, .ref le, .ref lw, .ref lp, .ref ltr, .ref stk])), (ltr, .inl (cI, 14, .inl u2))] H := hP
  have hD : va_D A [(bk, .inr (1, [.int 0, .int 0, .int 0, .ref lc, .ref lr, .ref la, .ref le, .ref lw, .ref lp, .ref ltr, .ref stk])), (ltr, .inl (cI, 14, .inl u2))] := hD
  have hK := hK.sub (tys' := [(cI, .int)]) [0] rfl
  refine W.widen (k := 0) (n := 0) (by omega) (by omega) ?_
  have hw_u2 := hw
  have hP9 := hP.sub (ws' := [(bk, .inr (1, [.int 0, .int 0, .int 0, .ref lc, .ref lr, .ref la, .ref le, .ref lw, .ref lp, .ref ltr, .ref stk])), (ltr, .inl (cI, 14, .inl u2))]) [0, 1] rfl
  have hD9 := hD.sub (ws' := [(bk, .inr (1, [.int 0, .int 0, .int 0, .ref lc, .ref lr, .ref la, .ref le, .ref lw, .ref lp, .ref ltr, .ref stk])), (ltr, .inl (cI, 14, .inl u2))]) [0, 1] (by decide) rfl
  have hK9 := hK.sub (tys' := [(cI, .int)]) [0] rfl
  exact W.vret hx hb hr (fun t ht hW => ⟨⟨u2, rfl, trivial, (by rw [ht]; exact hP9), va_K.moved hW.alike hK9, hD9⟩, hS.F ht⟩) hS.2.2 dX0_forgetLetters_8
def A_c_throwOutsIn : List Cond := [.fieldLink RX8 34 "UnlikeBoats$Scores" "book" "LUnlikeBoats$Book;", .methodLink RX8 96 yX0_forgetLetters, .instanceMethod yX0_forgetLetters, .selects RX0 yX0_forgetLetters yX0_forgetLetters, .initialized RX0, .fieldLink RX8 99 "UnlikeBoats$Book" "letters" "[I", .fieldLink RX8 73 "UnlikeBoats$Scores" "races" "I", .methodLink RX8 102 yX0_rulesOn, .instanceMethod yX0_rulesOn, .selects RX0 yX0_rulesOn yX0_rulesOn, .methodLink RX8 105 yX0_worthIn, .instanceMethod yX0_worthIn, .selects RX0 yX0_worthIn yX0_worthIn, .methodLink RX8 109 Lib.Math.max.name, .static Lib.Math.max.name, .initialized "java/lang/Math", .code Lib.Math.max.name Lib.Math.max.code 2 (some .int), .initialized RX12, .static yX12_held, .code yX0_forgetLetters cX0_forgetLetters 1 none, .fieldLink RX0 41 "UnlikeBoats$Book" "letters" "[I", .methodLink RX0 134 yJ7_fill_53178, .static yJ7_fill_53178, .initialized RJ7, .code yJ7_fill_53178 cJ7_fill_53178 4 none, .code yX0_rulesOn cX0_rulesOn 7 (some .int), .fieldLink RX0 18 "UnlikeBoats$Book" "rules" "Ljava/util/ArrayList;", .methodLink RX0 56 yJx4a65c_size_8abf5, .instanceMethod yJx4a65c_size_8abf5, .selects RJx4a65c yJx4a65c_size_8abf5 yJx4a65c_size_8abf5, .initialized RJx4a65c, .code yJx4a65c_size_8abf5 cJx4a65c_size_8abf5 1 (some .int), .fieldLink RJx4a65c 48 "java/util/ArrayList" "size" "I", .code yX0_worthIn cX0_worthIn 3 (some .int), .code yX12_held cX12_held 3 (some .int)]
def v_c_throwOutsIn : List Cond := .code yX8_throwOutsIn cX8_throwOutsIn 3 (some .int) :: (A_c_throwOutsIn ++ wsX80 ++ wsX00 ++ wsJx4a65c0)
theorem iw_c_throwOutsIn_X8 : ∀ w ∈ wsX80, w ∈ v_c_throwOutsIn := fun _ h => List.mem_cons_of_mem _ (List.mem_append_left _ (List.mem_append_left _ (List.mem_append_right _ (h))))
theorem iw_c_throwOutsIn_X0 : ∀ w ∈ wsX00, w ∈ v_c_throwOutsIn := fun _ h => List.mem_cons_of_mem _ (List.mem_append_left _ (List.mem_append_right _ (h)))
theorem iw_c_throwOutsIn_Jx4a65c : ∀ w ∈ wsJx4a65c0, w ∈ v_c_throwOutsIn := fun _ h => List.mem_cons_of_mem _ (List.mem_append_right _ (h))
theorem gb_c_throwOutsIn_c_forgetLetters0 : GoodIn v_c_throwOutsIn (.code yX0_forgetLetters cX0_forgetLetters 1 none :: A_c_forgetLetters) := (List.forall_mem_cons.mpr ⟨⟨List.mem_of_getElem? (i := 20) rfl, good_of_word rfl⟩, (List.forall_mem_cons.mpr ⟨⟨List.mem_of_getElem? (i := 21) rfl, good_of_word rfl⟩, (List.forall_mem_cons.mpr ⟨⟨List.mem_of_getElem? (i := 22) rfl, good_of_word rfl⟩, (List.forall_mem_cons.mpr ⟨⟨List.mem_of_getElem? (i := 23) rfl, good_of_word rfl⟩, (List.forall_mem_cons.mpr ⟨⟨List.mem_of_getElem? (i := 24) rfl, good_of_word rfl⟩, (List.forall_mem_cons.mpr ⟨⟨List.mem_of_getElem? (i := 25) rfl, good_of_word rfl⟩, (fun _ h => nomatch h)⟩)⟩)⟩)⟩)⟩)⟩)
theorem gb_c_throwOutsIn_c_forgetLetters : GoodIn v_c_throwOutsIn v_c_forgetLetters := (goodIn_ca gb_c_throwOutsIn_c_forgetLetters0 (goodIn_sub iw_c_throwOutsIn_X0 gw_X0))
theorem g_c_throwOutsIn_c_forgetLetters_96 : GoodIn v_c_throwOutsIn (wsV RX8 96 RX0 yX0_forgetLetters v_c_forgetLetters) := goodIn_app (List.forall_mem_cons.mpr ⟨⟨List.mem_of_getElem? (i := 2) rfl, good_of_word rfl⟩, (List.forall_mem_cons.mpr ⟨⟨List.mem_of_getElem? (i := 3) rfl, good_of_word rfl⟩, (List.forall_mem_cons.mpr ⟨⟨List.mem_of_getElem? (i := 4) rfl, good_of_word rfl⟩, (List.forall_mem_cons.mpr ⟨⟨List.mem_of_getElem? (i := 5) rfl, good_of_word rfl⟩, (fun _ h => nomatch h)⟩)⟩)⟩)⟩) gb_c_throwOutsIn_c_forgetLetters
theorem gb_c_throwOutsIn_c_rulesOn00 : GoodIn v_c_throwOutsIn (.code yX0_rulesOn cX0_rulesOn 7 (some .int) :: A_c_rulesOn0) := (List.forall_mem_cons.mpr ⟨⟨List.mem_of_getElem? (i := 26) rfl, good_of_word rfl⟩, (List.forall_mem_cons.mpr ⟨⟨List.mem_of_getElem? (i := 27) rfl, good_of_word rfl⟩, (List.forall_mem_cons.mpr ⟨⟨List.mem_of_getElem? (i := 28) rfl, good_of_word rfl⟩, (List.forall_mem_cons.mpr ⟨⟨List.mem_of_getElem? (i := 29) rfl, good_of_word rfl⟩, (List.forall_mem_cons.mpr ⟨⟨List.mem_of_getElem? (i := 30) rfl, good_of_word rfl⟩, (List.forall_mem_cons.mpr ⟨⟨List.mem_of_getElem? (i := 31) rfl, good_of_word rfl⟩, (List.forall_mem_cons.mpr ⟨⟨List.mem_of_getElem? (i := 32) rfl, good_of_word rfl⟩, (List.forall_mem_cons.mpr ⟨⟨List.mem_of_getElem? (i := 33) rfl, good_of_word rfl⟩, (fun _ h => nomatch h)⟩)⟩)⟩)⟩)⟩)⟩)⟩)⟩)
theorem gb_c_throwOutsIn_c_rulesOn0 : GoodIn v_c_throwOutsIn v_c_rulesOn0 := (goodIn_ca (goodIn_ca gb_c_throwOutsIn_c_rulesOn00 (goodIn_sub iw_c_throwOutsIn_X0 gw_X0)) (goodIn_sub iw_c_throwOutsIn_Jx4a65c gw_Jx4a65c))
theorem g_c_throwOutsIn_c_rulesOn0_102 : GoodIn v_c_throwOutsIn (wsV RX8 102 RX0 yX0_rulesOn v_c_rulesOn0) := goodIn_app (List.forall_mem_cons.mpr ⟨⟨List.mem_of_getElem? (i := 8) rfl, good_of_word rfl⟩, (List.forall_mem_cons.mpr ⟨⟨List.mem_of_getElem? (i := 9) rfl, good_of_word rfl⟩, (List.forall_mem_cons.mpr ⟨⟨List.mem_of_getElem? (i := 10) rfl, good_of_word rfl⟩, (List.forall_mem_cons.mpr ⟨⟨List.mem_of_getElem? (i := 5) rfl, good_of_word rfl⟩, (fun _ h => nomatch h)⟩)⟩)⟩)⟩) gb_c_throwOutsIn_c_rulesOn0
theorem gb_c_throwOutsIn_c_worthIn00 : GoodIn v_c_throwOutsIn (.code yX0_worthIn cX0_worthIn 3 (some .int) :: A_c_worthIn0) := (List.forall_mem_cons.mpr ⟨⟨List.mem_of_getElem? (i := 34) rfl, good_of_word rfl⟩, (fun _ h => nomatch h)⟩)
theorem gb_c_throwOutsIn_c_worthIn0 : GoodIn v_c_throwOutsIn v_c_worthIn0 := gb_c_throwOutsIn_c_worthIn00
theorem g_c_throwOutsIn_c_worthIn0_105 : GoodIn v_c_throwOutsIn (wsV RX8 105 RX0 yX0_worthIn v_c_worthIn0) := goodIn_app (List.forall_mem_cons.mpr ⟨⟨List.mem_of_getElem? (i := 11) rfl, good_of_word rfl⟩, (List.forall_mem_cons.mpr ⟨⟨List.mem_of_getElem? (i := 12) rfl, good_of_word rfl⟩, (List.forall_mem_cons.mpr ⟨⟨List.mem_of_getElem? (i := 13) rfl, good_of_word rfl⟩, (List.forall_mem_cons.mpr ⟨⟨List.mem_of_getElem? (i := 5) rfl, good_of_word rfl⟩, (fun _ h => nomatch h)⟩)⟩)⟩)⟩) gb_c_throwOutsIn_c_worthIn0
theorem gb_c_throwOutsIn_c_held0 : GoodIn v_c_throwOutsIn (.code yX12_held cX12_held 3 (some .int) :: A_c_held) := (List.forall_mem_cons.mpr ⟨⟨List.mem_of_getElem? (i := 35) rfl, good_of_word rfl⟩, (fun _ h => nomatch h)⟩)
theorem gb_c_throwOutsIn_c_held : GoodIn v_c_throwOutsIn v_c_held := gb_c_throwOutsIn_c_held0
theorem g_c_throwOutsIn_c_held : GoodIn v_c_throwOutsIn (v_c_held) := gb_c_throwOutsIn_c_held
set_option maxHeartbeats 4000000 in
set_option maxRecDepth 100000 in
theorem c_throwOutsIn (l : Launch) (dC : Nat → ClassId) (dI : Nat → Nat → Nat) (sc : Nat) (bk : Nat) (sh : Nat) (spl : Nat) (spo : Nat) (sou : Nat) (ssc : Nat) (sto : Nat) (smi : Nat) (sth : Nat) (lc : Nat) (lr : Nat) (la : Nat) (le : Nat) (lw : Nat) (lp : Nat) (ltr : Nat) (stk : Nat) (ed : Nat) (cI : ClassId) (gt : Nat → Int32) (q : Int32) (sz : Nat)  : Met l yX8_throwOutsIn v_c_throwOutsIn ({ frames := 2, cells := 0, slots := 0, locals := 80 }) (va_Pc [.ref sc, .int q] (fun U => U.heap.size = sz ∧ va_P (dC, dI) vwCl [(sc, .inr (9, [.ref bk, .ref sh, .int 0, .ref spl, .ref spo, .ref sou, .ref ssc, .ref sto, .ref smi, .ref sth])), (bk, .inr (1, [.int 0, .int 0, .int 0, .ref lc, .ref lr, .ref la, .ref le, .ref lw, .ref lp, .ref ltr, .ref stk])), (lr, .inr (0, [.int 0, .ref ed, .int 0])), (ltr, .inl (cI, 14, .inl gt))] U.heap ∧ va_K (dC, dI) vwCl [(cI, .int)] U ∧ va_D (fun _ => True) [(sc, .inr (9, [.ref bk, .ref sh, .int 0, .ref spl, .ref spo, .ref sou, .ref ssc, .ref sto, .ref smi, .ref sth])), (bk, .inr (1, [.int 0, .int 0, .int 0, .ref lc, .ref lr, .ref la, .ref le, .ref lw, .ref lp, .ref ltr, .ref stk])), (lr, .inr (0, [.int 0, .ref ed, .int 0])), (ltr, .inl (cI, 14, .inl gt))] ∧ ub_NX U)) (va_Qi (S := Nat → Int32) (fun r _ => r = 0) (fun u t => va_P (dC, dI) vwCl [(sc, .inr (9, [.ref bk, .ref sh, .int 0, .ref spl, .ref spo, .ref sou, .ref ssc, .ref sto, .ref smi, .ref sth])), (bk, .inr (1, [.int 0, .int 0, .int 0, .ref lc, .ref lr, .ref la, .ref le, .ref lw, .ref lp, .ref ltr, .ref stk])), (lr, .inr (0, [.int 0, .ref ed, .int 0])), (ltr, .inl (cI, 14, .inl u))] t.heap ∧ va_K (dC, dI) vwCl [(cI, .int)] t ∧ va_D (va_A [(sc, .inr (9, [.ref bk, .ref sh, .int 0, .ref spl, .ref spo, .ref sou, .ref ssc, .ref sto, .ref smi, .ref sth])), (bk, .inr (1, [.int 0, .int 0, .int 0, .ref lc, .ref lr, .ref la, .ref le, .ref lw, .ref lp, .ref ltr, .ref stk])), (lr, .inr (0, [.int 0, .ref ed, .int 0])), (ltr, .inl (cI, 14, .inl gt))] sz) [(sc, .inr (9, [.ref bk, .ref sh, .int 0, .ref spl, .ref spo, .ref sou, .ref ssc, .ref sto, .ref smi, .ref sth])), (bk, .inr (1, [.int 0, .int 0, .int 0, .ref lc, .ref lr, .ref la, .ref le, .ref lw, .ref lp, .ref ltr, .ref stk])), (lr, .inr (0, [.int 0, .ref ed, .int 0])), (ltr, .inl (cI, 14, .inl u))]) (va_A [(sc, .inr (9, [.ref bk, .ref sh, .int 0, .ref spl, .ref spo, .ref sou, .ref ssc, .ref sto, .ref smi, .ref sth])), (bk, .inr (1, [.int 0, .int 0, .int 0, .ref lc, .ref lr, .ref la, .ref le, .ref lw, .ref lp, .ref ltr, .ref stk])), (lr, .inr (0, [.int 0, .ref ed, .int 0])), (ltr, .inl (cI, 14, .inl gt))] sz)) 0 0 (va_A [(sc, .inr (9, [.ref bk, .ref sh, .int 0, .ref spl, .ref spo, .ref sou, .ref ssc, .ref sto, .ref smi, .ref sth])), (bk, .inr (1, [.int 0, .int 0, .int 0, .ref lc, .ref lr, .ref la, .ref le, .ref lw, .ref lp, .ref ltr, .ref stk])), (lr, .inr (0, [.int 0, .ref ed, .int 0])), (ltr, .inl (cI, 14, .inl gt))] sz) := by
  refine Met.ofW (cc := cX8_throwOutsIn) (maxL := 3) (ret := (some .int)) (by decide) rfl ?_
  intro p e s m args below meth c s₁ B hml hv
  obtain ⟨rfl, hsz, hP, hK, hD0, hN⟩ := hv
  have hx := B.exec
  have hb := B.bytes
  have hr := B.returns
  have hts := atoms_spec (ws := v_c_throwOutsIn) B.pre
  have hown : s.vm.findClass RX8 = some m.cls := findClass_of_methodNamed B.named
  have hlocks := B.notSynchronized
  subst hsz
  have hD := hD0.self (sz := s.heap.size)
  generalize hAe : va_A [(sc, .inr (9, [.ref bk, .ref sh, .int 0, .ref spl, .ref spo, .ref sou, .ref ssc, .ref sto, .ref smi, .ref sth])), (bk, .inr (1, [.int 0, .int 0, .int 0, .ref lc, .ref lr, .ref la, .ref le, .ref lw, .ref lp, .ref ltr, .ref stk])), (lr, .inr (0, [.int 0, .ref ed, .int 0])), (ltr, .inl (cI, 14, .inl gt))] s.heap.size = A at hD ⊢
  have hA : ∀ q : Nat, s.heap.size ≤ q → A q := fun q h => by rw [← hAe]; exact Or.inr h
  have hS : va_S A s.heap s.heap [] := va_S.rf
  have hP : va_P (dC, dI) vwCl [(sc, .inr (9, [.ref bk, .ref sh, .int 0, .ref spl, .ref spo, .ref sou, .ref ssc, .ref sto, .ref smi, .ref sth])), (bk, .inr (1, [.int 0, .int 0, .int 0, .ref lc, .ref lr, .ref la, .ref le, .ref lw, .ref lp, .ref ltr, .ref stk])), (lr, .inr (0, [.int 0, .ref ed, .int 0])), (ltr, .inl (cI, 14, .inl gt))] s.heap := hP
  have hl := lv_entry ([.ref sc, .int q]) (n := 3) (Nat.le_of_ble_eq_true rfl)
  rw [lg_entry_eq]
  generalize (lg_sl ([.ref sc, .int q]) ++ List.replicate (3 - (lg_sl ([.ref sc, .int q])).length) Slot.unset).toArray = ls at hl ⊢
  have hl : lv_has ls 3 [(0, .ref sc), (1, .int q)] := hl
  refine lv_aload_n hx hb dX8_throwOutsIn_0 rfl (lv_at hl 0 rfl) ?_
  refine va_get (D := (dC, dI)) (ci := 9) (v := .ref bk) (C := RX8) (T := TX8) (N := 10) hx hb hts iw_c_throwOutsIn_X8 hown hK hP 0 rfl rfl 0 (by decide) (hts (.fieldLink RX8 34 "UnlikeBoats$Scores" "book" "LUnlikeBoats$Book;") (List.mem_of_getElem? (i := 1) rfl)) (fun _ h9 => h9) rfl dX8_throwOutsIn_1 ?_
  have hPc := hP.sub (ws' := [(bk, .inr (1, [.int 0, .int 0, .int 0, .ref lc, .ref lr, .ref la, .ref le, .ref lw, .ref lp, .ref ltr, .ref stk])), (ltr, .inl (cI, 14, .inl gt))]) [1, 3] rfl
  have hKc := hK.sub (tys' := [(cI, .int)]) [0] rfl
  have hDc := hD.sub (ws' := [(bk, .inr (1, [.int 0, .int 0, .int 0, .ref lc, .ref lr, .ref la, .ref le, .ref lw, .ref lp, .ref ltr, .ref stk])), (ltr, .inl (cI, 14, .inl gt))]) [1, 3] (by decide) rfl
  have hFc := va_free (wc := [(bk, .inr (1, [.int 0, .int 0, .int 0, .ref lc, .ref lr, .ref la, .ref le, .ref lw, .ref lp, .ref ltr, .ref stk])), (ltr, .inl (cI, 14, .inl gt))]) hD hS hA [1, 3] rfl
  refine va_callv (va_runV (As := []) (rest := []) ⟨hx, hb, hml, hown, hts⟩ (c_forgetLetters l dC dI bk lc lr la le lw lp ltr stk cI gt s.heap.size) (cwV 0 hts g_c_throwOutsIn_c_forgetLetters_96 rfl rfl rfl (by decide +kernel) ⟨Nat.le_of_ble_eq_true rfl, Nat.le_of_ble_eq_true rfl⟩) ⟨fun a U g mk q => by obtain ⟨e0, e1, qP, qK, qD⟩ := q; exact ⟨e0, e1, qP, va_K.moved (u := U) (U := U.calling g mk a) (Vm.Alike.refl U.vm) qK, qD⟩, va_recv hK hP (ci := 1) (q0 := 1) rfl rfl, fun U hU hW => ⟨rfl, by rw [hU], by rw [hU]; exact hPc, va_K.moved hW.alike hKc, hDc.weaken (fun _ _ _ _ => trivial)⟩⟩ rfl rfl hl.1 rfl (lv_room (Nat.le_of_ble_eq_true rfl)) dX8_throwOutsIn_4 ⟨Nat.le_of_ble_eq_true rfl, Nat.le_of_ble_eq_true rfl⟩) hS (fun q _ h => hFc q h) hFc (fun u2 t H1 locs ht hvm hw hB hz1 hk1 hS => ?_)
  obtain ⟨hP1, hK1, hD1⟩ := hB
  rw [ht] at hP1
  obtain ⟨hP, hD⟩ := va_join (wr := [(sc, .inr (9, [.ref bk, .ref sh, .int 0, .ref spl, .ref spo, .ref sou, .ref ssc, .ref sto, .ref smi, .ref sth])), (lr, .inr (0, [.int 0, .ref ed, .int 0]))]) (w1 := [(bk, .inr (1, [.int 0, .int 0, .int 0, .ref lc, .ref lr, .ref la, .ref le, .ref lw, .ref lp, .ref ltr, .ref stk])), (ltr, .inl (cI, 14, .inl u2))]) hP hD [1, 3] [0, 2] rfl rfl (by decide) (by decide) hk1 hFc hP1 hD1
  have hK1 := va_K.moved hvm.symm hK1
  have hK := hK.app hK1
  have hK : va_K (dC, dI) vwCl [(cI, .int), (cI, .int)] s := hK
  generalize H1 = H at hP hS ⊢
  have hP : va_P (dC, dI) vwCl [(sc, .inr (9, [.ref bk, .ref sh, .int 0, .ref spl, .ref spo, .ref sou, .ref ssc, .ref sto, .ref smi, .ref sth])), (lr, .inr (0, [.int 0, .ref ed, .int 0])), (bk, .inr (1, [.int 0, .int 0, .int 0, .ref lc, .ref lr, .ref la, .ref le, .ref lw, .ref lp, .ref ltr, .ref stk])), (ltr, .inl (cI, 14, .inl u2))] H := hP
  have hD : va_D A [(sc, .inr (9, [.ref bk, .ref sh, .int 0, .ref spl, .ref spo, .ref sou, .ref ssc, .ref sto, .ref smi, .ref sth])), (lr, .inr (0, [.int 0, .ref ed, .int 0])), (bk, .inr (1, [.int 0, .int 0, .int 0, .ref lc, .ref lr, .ref la, .ref le, .ref lw, .ref lp, .ref ltr, .ref stk])), (ltr, .inl (cI, 14, .inl u2))] := hD
  have hK := hK.sub (tys' := [(cI, .int)]) [0] rfl
  refine W.widen (k := 0) (n := 0) (by omega) (by omega) ?_
  refine lv_aload_n hx hb dX8_throwOutsIn_7 rfl (lv_at hl 0 rfl) ?_
  refine va_get (D := (dC, dI)) (ci := 9) (v := .ref bk) (C := RX8) (T := TX8) (N := 10) hx hb hts iw_c_throwOutsIn_X8 hown hK hP 0 rfl rfl 0 (by decide) (hts (.fieldLink RX8 34 "UnlikeBoats$Scores" "book" "LUnlikeBoats$Book;") (List.mem_of_getElem? (i := 1) rfl)) (fun _ h9 => h9) rfl dX8_throwOutsIn_8 ?_
  refine va_get (D := (dC, dI)) (ci := 1) (v := .ref ltr) (C := RX0) (T := TX0) (N := 11) hx hb hts iw_c_throwOutsIn_X0 hown hK hP 2 rfl rfl 9 (by decide) (hts (.fieldLink RX8 99 "UnlikeBoats$Book" "letters" "[I") (List.mem_of_getElem? (i := 6) rfl)) (fun _ h9 => h9) rfl dX8_throwOutsIn_11 ?_
  refine lv_bipush (v := 7) hx hb dX8_throwOutsIn_14 (by decide) ?_
  refine lv_aload_n hx hb dX8_throwOutsIn_16 rfl (lv_at hl 0 rfl) ?_
  refine va_get (D := (dC, dI)) (ci := 9) (v := .int 0) (C := RX8) (T := TX8) (N := 10) hx hb hts iw_c_throwOutsIn_X8 hown hK hP 0 rfl rfl 2 (by decide) (hts (.fieldLink RX8 73 "UnlikeBoats$Scores" "races" "I") (List.mem_of_getElem? (i := 7) rfl)) (fun _ h9 => h9) rfl dX8_throwOutsIn_17 ?_
  refine va_iast hx hb hK hP hD hS 3 0 rfl rfl (vp_in_nI (n := 7) (N := 14) (by decide) (by decide)) dX8_throwOutsIn_20 (fun H locs hP hD hS => ?_)
  obtain ⟨f3, ef3⟩ : ∃ z9 : Nat → Int32, z9 = upd u2 (7 : Int32).toNatClampNeg 0 := ⟨_, rfl⟩
  have hP : va_P (dC, dI) vwCl [(sc, .inr (9, [.ref bk, .ref sh, .int 0, .ref spl, .ref spo, .ref sou, .ref ssc, .ref sto, .ref smi, .ref sth])), (lr, .inr (0, [.int 0, .ref ed, .int 0])), (bk, .inr (1, [.int 0, .int 0, .int 0, .ref lc, .ref lr, .ref la, .ref le, .ref lw, .ref lp, .ref ltr, .ref stk])), (ltr, .inl (cI, 14, .inl (upd u2 (7 : Int32).toNatClampNeg 0)))] H := hP
  have hD : va_D A [(sc, .inr (9, [.ref bk, .ref sh, .int 0, .ref spl, .ref spo, .ref sou, .ref ssc, .ref sto, .ref smi, .ref sth])), (lr, .inr (0, [.int 0, .ref ed, .int 0])), (bk, .inr (1, [.int 0, .int 0, .int 0, .ref lc, .ref lr, .ref la, .ref le, .ref lw, .ref lp, .ref ltr, .ref stk])), (ltr, .inl (cI, 14, .inl (upd u2 (7 : Int32).toNatClampNeg 0)))] := hD
  rw [← ef3] at hP hD
  refine lv_aload_n hx hb dX8_throwOutsIn_21 rfl (lv_at hl 0 rfl) ?_
  refine va_get (D := (dC, dI)) (ci := 9) (v := .ref bk) (C := RX8) (T := TX8) (N := 10) hx hb hts iw_c_throwOutsIn_X8 hown hK hP 0 rfl rfl 0 (by decide) (hts (.fieldLink RX8 34 "UnlikeBoats$Scores" "book" "LUnlikeBoats$Book;") (List.mem_of_getElem? (i := 1) rfl)) (fun _ h9 => h9) rfl dX8_throwOutsIn_22 ?_
  refine lv_aload_n hx hb dX8_throwOutsIn_25 rfl (lv_at hl 0 rfl) ?_
  refine va_get (D := (dC, dI)) (ci := 9) (v := .ref bk) (C := RX8) (T := TX8) (N := 10) hx hb hts iw_c_throwOutsIn_X8 hown hK hP 0 rfl rfl 0 (by decide) (hts (.fieldLink RX8 34 "UnlikeBoats$Scores" "book" "LUnlikeBoats$Book;") (List.mem_of_getElem? (i := 1) rfl)) (fun _ h9 => h9) rfl dX8_throwOutsIn_26 ?_
  refine lv_iload_n hx hb dX8_throwOutsIn_29 rfl (lv_at hl 1 rfl) ?_
  refine lv_iload_n hx hb dX8_throwOutsIn_30 rfl (lv_at hl 1 rfl) ?_
  have hPc := hP.sub (ws' := [(bk, .inr (1, [.int 0, .int 0, .int 0, .ref lc, .ref lr, .ref la, .ref le, .ref lw, .ref lp, .ref ltr, .ref stk])), (lr, .inr (0, [.int 0, .ref ed, .int 0]))]) [2, 1] rfl
  have hKc := hK.sub (tys' := []) [] rfl
  refine va_calli (va_runV (As := [.int q, .int q]) (rest := [.ref bk]) ⟨hx, hb, hml, hown, hts⟩ (c_rulesOn0 l dC dI bk lc lr la le lw lp ltr stk ed q q) (cwV 2 hts g_c_throwOutsIn_c_rulesOn0_102 rfl rfl rfl (by decide +kernel) ⟨Nat.le_of_ble_eq_true rfl, Nat.le_of_ble_eq_true rfl⟩) ⟨fun a U g mk q => by obtain ⟨e0, qP, qK, qN⟩ := q; exact ⟨e0, qP, va_K.moved (u := U) (U := U.calling g mk a) (Vm.Alike.refl U.vm) qK, ub_NX_c qN⟩, va_recv hK hP (ci := 1) (q0 := 2) rfl rfl, fun U hU hW => ⟨rfl, by rw [hU]; exact hPc, va_K.moved hW.alike hKc, ub_NX_w hW hN⟩⟩ rfl rfl hl.1 rfl (lv_room (Nat.le_of_ble_eq_true rfl)) dX8_throwOutsIn_31 ⟨Nat.le_of_ble_eq_true rfl, Nat.le_of_ble_eq_true rfl⟩) hS (fun _ _ h => h.elim) (fun _ h => h.elim) (fun r4 u5 t H1 locs ht hvm hw hB hz1 hk1 hS => ?_)
  have hP := ub_keep hP hk1
  generalize H1 = H at hP hS ⊢
  obtain rfl : (-1 : Int32) = r4 := hw.symm
  refine lv_bipush (v := 116) hx hb dX8_throwOutsIn_34 (by decide) ?_
  have hPc := hP.sub (ws' := []) [] rfl
  have hKc := hK.sub (tys' := []) [] rfl
  refine va_calli (va_runV (As := [.int (-1), .int 116]) (rest := []) ⟨hx, hb, hml, hown, hts⟩ (c_worthIn0 l dC dI bk (116)) (cwV 2 hts g_c_throwOutsIn_c_worthIn0_105 rfl rfl rfl (by decide +kernel) ⟨Nat.le_of_ble_eq_true rfl, Nat.le_of_ble_eq_true rfl⟩) ⟨fun a U g mk q => by obtain ⟨e0, qP, qK⟩ := q; exact ⟨e0, qP, va_K.moved (u := U) (U := U.calling g mk a) (Vm.Alike.refl U.vm) qK⟩, va_recv hK hP (ci := 1) (q0 := 2) rfl rfl, fun U hU hW => ⟨rfl, by rw [hU]; exact hPc, va_K.moved hW.alike hKc⟩⟩ rfl rfl hl.1 rfl (lv_room (Nat.le_of_ble_eq_true rfl)) dX8_throwOutsIn_36 ⟨Nat.le_of_ble_eq_true rfl, Nat.le_of_ble_eq_true rfl⟩) hS (fun _ _ h => h.elim) (fun _ h => h.elim) (fun r6 u7 t H1 locs ht hvm hw hB hz1 hk1 hS => ?_)
  have hP := ub_keep hP hk1
  generalize H1 = H at hP hS ⊢
  obtain rfl : (0 : Int32) = r6 := hw.symm
  refine lv_istore_n (lv' := [(2, .int 0), (0, .ref sc), (1, .int q)]) hx hb dX8_throwOutsIn_39 rfl hl (by decide) rfl (fun ls hl => ?_)
  refine lv_iload_n hx hb dX8_throwOutsIn_40 rfl (lv_at hl 0 rfl) ?_
  refine lv_iconst (v := 0) hx hb dX8_throwOutsIn_41 (by decide) ?_
  refine lv_iconst (v := 0) hx hb dX8_throwOutsIn_42 (by decide) ?_
  refine lv_aload_n hx hb dX8_throwOutsIn_43 rfl (lv_at hl 1 rfl) ?_
  refine va_get (D := (dC, dI)) (ci := 9) (v := .int 0) (C := RX8) (T := TX8) (N := 10) hx hb hts iw_c_throwOutsIn_X8 hown hK hP 0 rfl rfl 2 (by decide) (hts (.fieldLink RX8 73 "UnlikeBoats$Scores" "races" "I") (List.mem_of_getElem? (i := 7) rfl)) (fun _ h9 => h9) rfl dX8_throwOutsIn_44 ?_
  refine lv_iconst (v := 1) hx hb dX8_throwOutsIn_47 (by decide) ?_
  refine lv_isub hx hb dX8_throwOutsIn_48 ?_
  refine lv_topi (fun y8 ey8 => ?_)
  obtain rfl : (-1 : Int32) = y8 := (ey8.trans (by decide)).symm
  refine va_mmax hx hb (by rw [hml]; exact hl.1.symm) hown (hts (.methodLink RX8 109 Lib.Math.max.name) (List.mem_of_getElem? (i := 14) rfl)) (hts (.static Lib.Math.max.name) (List.mem_of_getElem? (i := 15) rfl)) (hts (.initialized "java/lang/Math") (List.mem_of_getElem? (i := 16) rfl)) (hts (.code Lib.Math.max.name Lib.Math.max.code 2 (some .int)) (List.mem_of_getElem? (i := 17) rfl)) (Nat.le_of_ble_eq_true rfl) (Nat.le_of_ble_eq_true rfl) (Nat.le_of_ble_eq_true rfl) (Nat.le_of_ble_eq_true rfl) dX8_throwOutsIn_49 ?_
  refine lv_topi (fun y9 ey9 => ?_)
  obtain rfl : (0 : Int32) = y9 := (ey9.trans (by decide)).symm
  refine va_calli (va_runSN (As := [.int 0, .int 0, .int 0]) (rest := []) ⟨hx, hb, hml, hown, hts⟩ (c_held l ) ⟨va_cnB 3 hts g_c_throwOutsIn_c_held rfl rfl rfl (ub_nx3 hN) (hts (.initialized RX12) (List.mem_of_getElem? (i := 18) rfl)) (by decide +kernel) ⟨Nat.le_of_ble_eq_true rfl, Nat.le_of_ble_eq_true rfl⟩, (hts (.static yX12_held) (List.mem_of_getElem? (i := 19) rfl)), trivial⟩ ⟨fun _ _ _ _ q => q, fun _ _ _ => ⟨rfl, trivial⟩⟩ rfl rfl hl.1 rfl (lv_room (Nat.le_of_ble_eq_true rfl)) dX8_throwOutsIn_52 ⟨Nat.le_of_ble_eq_true rfl, Nat.le_of_ble_eq_true rfl⟩) hS (fun _ _ h => h.elim) (fun _ h => h.elim) (fun r10 u11 t H1 locs ht hvm hw hB hz1 hk1 hS => ?_)
  have hP := ub_keep hP hk1
  generalize H1 = H at hP hS ⊢
  obtain rfl : (0 : Int32) = r10 := hw.symm
  have hP9 := hP.sub (ws' := [(sc, .inr (9, [.ref bk, .ref sh, .int 0, .ref spl, .ref spo, .ref sou, .ref ssc, .ref sto, .ref smi, .ref sth])), (bk, .inr (1, [.int 0, .int 0, .int 0, .ref lc, .ref lr, .ref la, .ref le, .ref lw, .ref lp, .ref ltr, .ref stk])), (lr, .inr (0, [.int 0, .ref ed, .int 0])), (ltr, .inl (cI, 14, .inl f3))]) [0, 2, 1, 3] rfl
  have hD9 := hD.sub (ws' := [(sc, .inr (9, [.ref bk, .ref sh, .int 0, .ref spl, .ref spo, .ref sou, .ref ssc, .ref sto, .ref smi, .ref sth])), (bk, .inr (1, [.int 0, .int 0, .int 0, .ref lc, .ref lr, .ref la, .ref le, .ref lw, .ref lp, .ref ltr, .ref stk])), (lr, .inr (0, [.int 0, .ref ed, .int 0])), (ltr, .inl (cI, 14, .inl f3))]) [0, 2, 1, 3] (by decide) rfl
  have hK9 := hK.sub (tys' := [(cI, .int)]) [0] rfl
  exact W.iret (v := (0)) hx hb hr (fun t ht hW => ⟨⟨(0), f3, rfl, rfl, (by rw [ht]; exact hP9), va_K.moved hW.alike hK9, hD9⟩, hS.F ht⟩) hS.2.2 dX8_throwOutsIn_55
def A_c_tally : List Cond := [.fieldLink RX8 34 "UnlikeBoats$Scores" "book" "LUnlikeBoats$Book;", .methodLink RX8 70 yX0_racesIn, .instanceMethod yX0_racesIn, .selects RX0 yX0_racesIn yX0_racesIn, .initialized RX0, .fieldLink RX8 73 "UnlikeBoats$Scores" "races" "I", .methodLink RX8 90 yX8_throwOutsIn, .instanceMethod yX8_throwOutsIn, .selects RX8 yX8_throwOutsIn yX8_throwOutsIn, .initialized RX8, .fieldLink RX8 84 "UnlikeBoats$Book" "boats" "I", .fieldLink RX8 22 "UnlikeBoats$Scores" "scored" "[Z", .code yX0_racesIn cX0_racesIn 4 (some .int), .fieldLink RX0 21 "UnlikeBoats$Book" "races" "Ljava/util/ArrayList;", .methodLink RX0 56 yJx4a65c_size_8abf5, .instanceMethod yJx4a65c_size_8abf5, .selects RJx4a65c yJx4a65c_size_8abf5 yJx4a65c_size_8abf5, .initialized RJx4a65c, .code yJx4a65c_size_8abf5 cJx4a65c_size_8abf5 1 (some .int), .fieldLink RJx4a65c 48 "java/util/ArrayList" "size" "I", .code yX8_throwOutsIn cX8_throwOutsIn 3 (some .int), .methodLink RX8 96 yX0_forgetLetters, .instanceMethod yX0_forgetLetters, .selects RX0 yX0_forgetLetters yX0_forgetLetters, .fieldLink RX8 99 "UnlikeBoats$Book" "letters" "[I", .methodLink RX8 102 yX0_rulesOn, .instanceMethod yX0_rulesOn, .selects RX0 yX0_rulesOn yX0_rulesOn, .methodLink RX8 105 yX0_worthIn, .instanceMethod yX0_worthIn, .selects RX0 yX0_worthIn yX0_worthIn, .methodLink RX8 109 Lib.Math.max.name, .static Lib.Math.max.name, .initialized "java/lang/Math", .code Lib.Math.max.name Lib.Math.max.code 2 (some .int), .initialized RX12, .static yX12_held, .code yX0_forgetLetters cX0_forgetLetters 1 none, .fieldLink RX0 41 "UnlikeBoats$Book" "letters" "[I", .methodLink RX0 134 yJ7_fill_53178, .static yJ7_fill_53178, .initialized RJ7, .code yJ7_fill_53178 cJ7_fill_53178 4 none, .code yX0_rulesOn cX0_rulesOn 7 (some .int), .fieldLink RX0 18 "UnlikeBoats$Book" "rules" "Ljava/util/ArrayList;", .code yX0_worthIn cX0_worthIn 3 (some .int), .code yX12_held cX12_held 3 (some .int)]
def v_c_tally : List Cond := .code yX8_tally cX8_tally 6 none :: (A_c_tally ++ wsX80 ++ wsX00 ++ wsJx4a65c0)
theorem iw_c_tally_X8 : ∀ w ∈ wsX80, w ∈ v_c_tally := fun _ h => List.mem_cons_of_mem _ (List.mem_append_left _ (List.mem_append_left _ (List.mem_append_right _ (h))))
theorem iw_c_tally_X0 : ∀ w ∈ wsX00, w ∈ v_c_tally := fun _ h => List.mem_cons_of_mem _ (List.mem_append_left _ (List.mem_append_right _ (h)))
theorem iw_c_tally_Jx4a65c : ∀ w ∈ wsJx4a65c0, w ∈ v_c_tally := fun _ h => List.mem_cons_of_mem _ (List.mem_append_right _ (h))
theorem gb_c_tally_c_racesIn00 : GoodIn v_c_tally (.code yX0_racesIn cX0_racesIn 4 (some .int) :: A_c_racesIn0) := (List.forall_mem_cons.mpr ⟨⟨List.mem_of_getElem? (i := 13) rfl, good_of_word rfl⟩, (List.forall_mem_cons.mpr ⟨⟨List.mem_of_getElem? (i := 14) rfl, good_of_word rfl⟩, (List.forall_mem_cons.mpr ⟨⟨List.mem_of_getElem? (i := 15) rfl, good_of_word rfl⟩, (List.forall_mem_cons.mpr ⟨⟨List.mem_of_getElem? (i := 16) rfl, good_of_word rfl⟩, (List.forall_mem_cons.mpr ⟨⟨List.mem_of_getElem? (i := 17) rfl, good_of_word rfl⟩, (List.forall_mem_cons.mpr ⟨⟨List.mem_of_getElem? (i := 18) rfl, good_of_word rfl⟩, (List.forall_mem_cons.mpr ⟨⟨List.mem_of_getElem? (i := 19) rfl, good_of_word rfl⟩, (List.forall_mem_cons.mpr ⟨⟨List.mem_of_getElem? (i := 20) rfl, good_of_word rfl⟩, (fun _ h => nomatch h)⟩)⟩)⟩)⟩)⟩)⟩)⟩)⟩)
theorem gb_c_tally_c_racesIn0 : GoodIn v_c_tally v_c_racesIn0 := (goodIn_ca (goodIn_ca gb_c_tally_c_racesIn00 (goodIn_sub iw_c_tally_X0 gw_X0)) (goodIn_sub iw_c_tally_Jx4a65c gw_Jx4a65c))
theorem g_c_tally_c_racesIn0_70 : GoodIn v_c_tally (wsV RX8 70 RX0 yX0_racesIn v_c_racesIn0) := goodIn_app (List.forall_mem_cons.mpr ⟨⟨List.mem_of_getElem? (i := 2) rfl, good_of_word rfl⟩, (List.forall_mem_cons.mpr ⟨⟨List.mem_of_getElem? (i := 3) rfl, good_of_word rfl⟩, (List.forall_mem_cons.mpr ⟨⟨List.mem_of_getElem? (i := 4) rfl, good_of_word rfl⟩, (List.forall_mem_cons.mpr ⟨⟨List.mem_of_getElem? (i := 5) rfl, good_of_word rfl⟩, (fun _ h => nomatch h)⟩)⟩)⟩)⟩) gb_c_tally_c_racesIn0
theorem gb_c_tally_c_throwOutsIn0 : GoodIn v_c_tally (.code yX8_throwOutsIn cX8_throwOutsIn 3 (some .int) :: A_c_throwOutsIn) := (List.forall_mem_cons.mpr ⟨⟨List.mem_of_getElem? (i := 21) rfl, good_of_word rfl⟩, (List.forall_mem_cons.mpr ⟨⟨List.mem_of_getElem? (i := 1) rfl, good_of_word rfl⟩, (List.forall_mem_cons.mpr ⟨⟨List.mem_of_getElem? (i := 22) rfl, good_of_word rfl⟩, (List.forall_mem_cons.mpr ⟨⟨List.mem_of_getElem? (i := 23) rfl, good_of_word rfl⟩, (List.forall_mem_cons.mpr ⟨⟨List.mem_of_getElem? (i := 24) rfl, good_of_word rfl⟩, (List.forall_mem_cons.mpr ⟨⟨List.mem_of_getElem? (i := 5) rfl, good_of_word rfl⟩, (List.forall_mem_cons.mpr ⟨⟨List.mem_of_getElem? (i := 25) rfl, good_of_word rfl⟩, (List.forall_mem_cons.mpr ⟨⟨List.mem_of_getElem? (i := 6) rfl, good_of_word rfl⟩, (List.forall_mem_cons.mpr ⟨⟨List.mem_of_getElem? (i := 26) rfl, good_of_word rfl⟩, (List.forall_mem_cons.mpr ⟨⟨List.mem_of_getElem? (i := 27) rfl, good_of_word rfl⟩, (List.forall_mem_cons.mpr ⟨⟨List.mem_of_getElem? (i := 28) rfl, good_of_word rfl⟩, (List.forall_mem_cons.mpr ⟨⟨List.mem_of_getElem? (i := 29) rfl, good_of_word rfl⟩, (List.forall_mem_cons.mpr ⟨⟨List.mem_of_getElem? (i := 30) rfl, good_of_word rfl⟩, (List.forall_mem_cons.mpr ⟨⟨List.mem_of_getElem? (i := 31) rfl, good_of_word rfl⟩, (List.forall_mem_cons.mpr ⟨⟨List.mem_of_getElem? (i := 32) rfl, good_of_word rfl⟩, (List.forall_mem_cons.mpr ⟨⟨List.mem_of_getElem? (i := 33) rfl, good_of_word rfl⟩, (List.forall_mem_cons.mpr ⟨⟨List.mem_of_getElem? (i := 34) rfl, good_of_word rfl⟩, (List.forall_mem_cons.mpr ⟨⟨List.mem_of_getElem? (i := 35) rfl, good_of_word rfl⟩, (List.forall_mem_cons.mpr ⟨⟨List.mem_of_getElem? (i := 36) rfl, good_of_word rfl⟩, (List.forall_mem_cons.mpr ⟨⟨List.mem_of_getElem? (i := 37) rfl, good_of_word rfl⟩, (List.forall_mem_cons.mpr ⟨⟨List.mem_of_getElem? (i := 38) rfl, good_of_word rfl⟩, (List.forall_mem_cons.mpr ⟨⟨List.mem_of_getElem? (i := 39) rfl, good_of_word rfl⟩, (List.forall_mem_cons.mpr ⟨⟨List.mem_of_getElem? (i := 40) rfl, good_of_word rfl⟩, (List.forall_mem_cons.mpr ⟨⟨List.mem_of_getElem? (i := 41) rfl, good_of_word rfl⟩, (List.forall_mem_cons.mpr ⟨⟨List.mem_of_getElem? (i := 42) rfl, good_of_word rfl⟩, (List.forall_mem_cons.mpr ⟨⟨List.mem_of_getElem? (i := 43) rfl, good_of_word rfl⟩, (List.forall_mem_cons.mpr ⟨⟨List.mem_of_getElem? (i := 44) rfl, good_of_word rfl⟩, (List.forall_mem_cons.mpr ⟨⟨List.mem_of_getElem? (i := 45) rfl, good_of_word rfl⟩, (List.forall_mem_cons.mpr ⟨⟨List.mem_of_getElem? (i := 15) rfl, good_of_word rfl⟩, (List.forall_mem_cons.mpr ⟨⟨List.mem_of_getElem? (i := 16) rfl, good_of_word rfl⟩, (List.forall_mem_cons.mpr ⟨⟨List.mem_of_getElem? (i := 17) rfl, good_of_word rfl⟩, (List.forall_mem_cons.mpr ⟨⟨List.mem_of_getElem? (i := 18) rfl, good_of_word rfl⟩, (List.forall_mem_cons.mpr ⟨⟨List.mem_of_getElem? (i := 19) rfl, good_of_word rfl⟩, (List.forall_mem_cons.mpr ⟨⟨List.mem_of_getElem? (i := 20) rfl, good_of_word rfl⟩, (List.forall_mem_cons.mpr ⟨⟨List.mem_of_getElem? (i := 46) rfl, good_of_word rfl⟩, (List.forall_mem_cons.mpr ⟨⟨List.mem_of_getElem? (i := 47) rfl, good_of_word rfl⟩, (fun _ h => nomatch h)⟩)⟩)⟩)⟩)⟩)⟩)⟩)⟩)⟩)⟩)⟩)⟩)⟩)⟩)⟩)⟩)⟩)⟩)⟩)⟩)⟩)⟩)⟩)⟩)⟩)⟩)⟩)⟩)⟩)⟩)⟩)⟩)⟩)⟩)⟩)⟩)
theorem gb_c_tally_c_throwOutsIn : GoodIn v_c_tally v_c_throwOutsIn := (goodIn_ca (goodIn_ca (goodIn_ca gb_c_tally_c_throwOutsIn0 (goodIn_sub iw_c_tally_X8 gw_X8)) (goodIn_sub iw_c_tally_X0 gw_X0)) (goodIn_sub iw_c_tally_Jx4a65c gw_Jx4a65c))
theorem g_c_tally_c_throwOutsIn_90 : GoodIn v_c_tally (wsV RX8 90 RX8 yX8_throwOutsIn v_c_throwOutsIn) := goodIn_app (List.forall_mem_cons.mpr ⟨⟨List.mem_of_getElem? (i := 7) rfl, good_of_word rfl⟩, (List.forall_mem_cons.mpr ⟨⟨List.mem_of_getElem? (i := 8) rfl, good_of_word rfl⟩, (List.forall_mem_cons.mpr ⟨⟨List.mem_of_getElem? (i := 9) rfl, good_of_word rfl⟩, (List.forall_mem_cons.mpr ⟨⟨List.mem_of_getElem? (i := 10) rfl, good_of_word rfl⟩, (fun _ h => nomatch h)⟩)⟩)⟩)⟩) gb_c_tally_c_throwOutsIn
set_option maxHeartbeats 4000000 in
set_option maxRecDepth 100000 in
theorem c_tally (l : Launch) (dC : Nat → ClassId) (dI : Nat → Nat → Nat) (sc : Nat) (bk : Nat) (sh : Nat) (spl : Nat) (spo : Nat) (sou : Nat) (ssc : Nat) (sto : Nat) (smi : Nat) (sth : Nat) (lc : Nat) (lr : Nat) (la : Nat) (le : Nat) (lw : Nat) (lp : Nat) (ltr : Nat) (stk : Nat) (ed : Nat) (cI : ClassId) (gt : Nat → Int32) (cZ : ClassId) (gz : Nat → Int32) (q : Int32) (sz : Nat)  : Met l yX8_tally v_c_tally ({ frames := 3, cells := 0, slots := 0, locals := 120 }) (va_Pc [.ref sc, .int q] (fun U => U.heap.size = sz ∧ va_P (dC, dI) vwCl [(sc, .inr (9, [.ref bk, .ref sh, .int 0, .ref spl, .ref spo, .ref sou, .ref ssc, .ref sto, .ref smi, .ref sth])), (bk, .inr (1, [.int 0, .int 0, .int 0, .ref lc, .ref lr, .ref la, .ref le, .ref lw, .ref lp, .ref ltr, .ref stk])), (la, .inr (0, [.int 0, .ref ed, .int 0])), (lr, .inr (0, [.int 0, .ref ed, .int 0])), (ltr, .inl (cI, 14, .inl gt)), (ssc, .inl (cZ, 16, .inl gz))] U.heap ∧ va_K (dC, dI) vwCl [(cI, .int), (cZ, .boolean)] U ∧ va_D (fun _ => True) [(sc, .inr (9, [.ref bk, .ref sh, .int 0, .ref spl, .ref spo, .ref sou, .ref ssc, .ref sto, .ref smi, .ref sth])), (bk, .inr (1, [.int 0, .int 0, .int 0, .ref lc, .ref lr, .ref la, .ref le, .ref lw, .ref lp, .ref ltr, .ref stk])), (la, .inr (0, [.int 0, .ref ed, .int 0])), (lr, .inr (0, [.int 0, .ref ed, .int 0])), (ltr, .inl (cI, 14, .inl gt)), (ssc, .inl (cZ, 16, .inl gz))] ∧ ub_NX U)) (va_Qv (S := (Nat → Int32) × (Nat → Int32)) (fun _ => True) (fun u t => va_P (dC, dI) vwCl [(sc, .inr (9, [.ref bk, .ref sh, .int 0, .ref spl, .ref spo, .ref sou, .ref ssc, .ref sto, .ref smi, .ref sth])), (bk, .inr (1, [.int 0, .int 0, .int 0, .ref lc, .ref lr, .ref la, .ref le, .ref lw, .ref lp, .ref ltr, .ref stk])), (la, .inr (0, [.int 0, .ref ed, .int 0])), (lr, .inr (0, [.int 0, .ref ed, .int 0])), (ltr, .inl (cI, 14, .inl u.1)), (ssc, .inl (cZ, 16, .inl u.2))] t.heap ∧ va_K (dC, dI) vwCl [(cI, .int), (cZ, .boolean)] t ∧ va_D (va_A [(sc, .inr (9, [.ref bk, .ref sh, .int 0, .ref spl, .ref spo, .ref sou, .ref ssc, .ref sto, .ref smi, .ref sth])), (bk, .inr (1, [.int 0, .int 0, .int 0, .ref lc, .ref lr, .ref la, .ref le, .ref lw, .ref lp, .ref ltr, .ref stk])), (la, .inr (0, [.int 0, .ref ed, .int 0])), (lr, .inr (0, [.int 0, .ref ed, .int 0])), (ltr, .inl (cI, 14, .inl gt)), (ssc, .inl (cZ, 16, .inl gz))] sz) [(sc, .inr (9, [.ref bk, .ref sh, .int 0, .ref spl, .ref spo, .ref sou, .ref ssc, .ref sto, .ref smi, .ref sth])), (bk, .inr (1, [.int 0, .int 0, .int 0, .ref lc, .ref lr, .ref la, .ref le, .ref lw, .ref lp, .ref ltr, .ref stk])), (la, .inr (0, [.int 0, .ref ed, .int 0])), (lr, .inr (0, [.int 0, .ref ed, .int 0])), (ltr, .inl (cI, 14, .inl u.1)), (ssc, .inl (cZ, 16, .inl u.2))]) (va_A [(sc, .inr (9, [.ref bk, .ref sh, .int 0, .ref spl, .ref spo, .ref sou, .ref ssc, .ref sto, .ref smi, .ref sth])), (bk, .inr (1, [.int 0, .int 0, .int 0, .ref lc, .ref lr, .ref la, .ref le, .ref lw, .ref lp, .ref ltr, .ref stk])), (la, .inr (0, [.int 0, .ref ed, .int 0])), (lr, .inr (0, [.int 0, .ref ed, .int 0])), (ltr, .inl (cI, 14, .inl gt)), (ssc, .inl (cZ, 16, .inl gz))] sz)) 0 0 (va_A [(sc, .inr (9, [.ref bk, .ref sh, .int 0, .ref spl, .ref spo, .ref sou, .ref ssc, .ref sto, .ref smi, .ref sth])), (bk, .inr (1, [.int 0, .int 0, .int 0, .ref lc, .ref lr, .ref la, .ref le, .ref lw, .ref lp, .ref ltr, .ref stk])), (la, .inr (0, [.int 0, .ref ed, .int 0])), (lr, .inr (0, [.int 0, .ref ed, .int 0])), (ltr, .inl (cI, 14, .inl gt)), (ssc, .inl (cZ, 16, .inl gz))] sz) := by
  refine Met.ofW (cc := cX8_tally) (maxL := 6) (ret := none) (by decide) rfl ?_
  intro p e s m args below meth c s₁ B hml hv
  obtain ⟨rfl, hsz, hP, hK, hD0, hN⟩ := hv
  have hx := B.exec
  have hb := B.bytes
  have hr := B.returns
  have hts := atoms_spec (ws := v_c_tally) B.pre
  have hown : s.vm.findClass RX8 = some m.cls := findClass_of_methodNamed B.named
  have hlocks := B.notSynchronized
  subst hsz
  have hD := hD0.self (sz := s.heap.size)
  generalize hAe : va_A [(sc, .inr (9, [.ref bk, .ref sh, .int 0, .ref spl, .ref spo, .ref sou, .ref ssc, .ref sto, .ref smi, .ref sth])), (bk, .inr (1, [.int 0, .int 0, .int 0, .ref lc, .ref lr, .ref la, .ref le, .ref lw, .ref lp, .ref ltr, .ref stk])), (la, .inr (0, [.int 0, .ref ed, .int 0])), (lr, .inr (0, [.int 0, .ref ed, .int 0])), (ltr, .inl (cI, 14, .inl gt)), (ssc, .inl (cZ, 16, .inl gz))] s.heap.size = A at hD ⊢
  have hA : ∀ q : Nat, s.heap.size ≤ q → A q := fun q h => by rw [← hAe]; exact Or.inr h
  have hS : va_S A s.heap s.heap [] := va_S.rf
  have hP : va_P (dC, dI) vwCl [(sc, .inr (9, [.ref bk, .ref sh, .int 0, .ref spl, .ref spo, .ref sou, .ref ssc, .ref sto, .ref smi, .ref sth])), (bk, .inr (1, [.int 0, .int 0, .int 0, .ref lc, .ref lr, .ref la, .ref le, .ref lw, .ref lp, .ref ltr, .ref stk])), (la, .inr (0, [.int 0, .ref ed, .int 0])), (lr, .inr (0, [.int 0, .ref ed, .int 0])), (ltr, .inl (cI, 14, .inl gt)), (ssc, .inl (cZ, 16, .inl gz))] s.heap := hP
  have hl := lv_entry ([.ref sc, .int q]) (n := 6) (Nat.le_of_ble_eq_true rfl)
  rw [lg_entry_eq]
  generalize (lg_sl ([.ref sc, .int q]) ++ List.replicate (6 - (lg_sl ([.ref sc, .int q])).length) Slot.unset).toArray = ls at hl ⊢
  have hl : lv_has ls 6 [(0, .ref sc), (1, .int q)] := hl
  refine lv_aload_n hx hb dX8_tally_0 rfl (lv_at hl 0 rfl) ?_
  refine lv_aload_n hx hb dX8_tally_1 rfl (lv_at hl 0 rfl) ?_
  refine va_get (D := (dC, dI)) (ci := 9) (v := .ref bk) (C := RX8) (T := TX8) (N := 10) hx hb hts iw_c_tally_X8 hown hK hP 0 rfl rfl 0 (by decide) (hts (.fieldLink RX8 34 "UnlikeBoats$Scores" "book" "LUnlikeBoats$Book;") (List.mem_of_getElem? (i := 1) rfl)) (fun _ h9 => h9) rfl dX8_tally_2 ?_
  refine lv_iload_n hx hb dX8_tally_5 rfl (lv_at hl 1 rfl) ?_
  have hPc := hP.sub (ws' := [(bk, .inr (1, [.int 0, .int 0, .int 0, .ref lc, .ref lr, .ref la, .ref le, .ref lw, .ref lp, .ref ltr, .ref stk])), (la, .inr (0, [.int 0, .ref ed, .int 0]))]) [1, 2] rfl
  have hKc := hK.sub (tys' := []) [] rfl
  refine va_calli (va_runV (As := [.int q]) (rest := [.ref sc]) ⟨hx, hb, hml, hown, hts⟩ (c_racesIn0 l dC dI bk lc lr la le lw lp ltr stk ed q) (cwV 1 hts g_c_tally_c_racesIn0_70 rfl rfl rfl (by decide +kernel) ⟨Nat.le_of_ble_eq_true rfl, Nat.le_of_ble_eq_true rfl⟩) ⟨fun a U g mk q => by obtain ⟨e0, qP, qK, qN⟩ := q; exact ⟨e0, qP, va_K.moved (u := U) (U := U.calling g mk a) (Vm.Alike.refl U.vm) qK, ub_NX_c qN⟩, va_recv hK hP (ci := 1) (q0 := 1) rfl rfl, fun U hU hW => ⟨rfl, by rw [hU]; exact hPc, va_K.moved hW.alike hKc, ub_NX_w hW hN⟩⟩ rfl rfl hl.1 rfl (lv_room (Nat.le_of_ble_eq_true rfl)) dX8_tally_6 ⟨Nat.le_of_ble_eq_true rfl, Nat.le_of_ble_eq_true rfl⟩) hS (fun _ _ h => h.elim) (fun _ h => h.elim) (fun r1 u2 t H1 locs ht hvm hw hB hz1 hk1 hS => ?_)
  have hP := ub_keep hP hk1
  generalize H1 = H at hP hS ⊢
  obtain rfl : (0 : Int32) = r1 := hw.symm
  refine va_put (D := (dC, dI)) (ci := 9) (v := .int 0) (ty := .int) (C := RX8) (T := TX8) (N := 10) hx hb hts iw_c_tally_X8 tyX8 tyX8_ok nmX8 hown hK hP hD hS 0 rfl rfl 2 (by decide) (hts (.fieldLink RX8 73 "UnlikeBoats$Scores" "races" "I") (List.mem_of_getElem? (i := 6) rfl)) (fun _ h9 => h9) rfl (by decide +kernel) rfl rfl (Nat.le_of_ble_eq_true rfl) dX8_tally_9 (fun H locs hP hD hS => ?_)
  have hP : va_P (dC, dI) vwCl [(sc, .inr (9, [.ref bk, .ref sh, .int 0, .ref spl, .ref spo, .ref sou, .ref ssc, .ref sto, .ref smi, .ref sth])), (bk, .inr (1, [.int 0, .int 0, .int 0, .ref lc, .ref lr, .ref la, .ref le, .ref lw, .ref lp, .ref ltr, .ref stk])), (la, .inr (0, [.int 0, .ref ed, .int 0])), (lr, .inr (0, [.int 0, .ref ed, .int 0])), (ltr, .inl (cI, 14, .inl gt)), (ssc, .inl (cZ, 16, .inl gz))] H := hP
  have hD : va_D A [(sc, .inr (9, [.ref bk, .ref sh, .int 0, .ref spl, .ref spo, .ref sou, .ref ssc, .ref sto, .ref smi, .ref sth])), (bk, .inr (1, [.int 0, .int 0, .int 0, .ref lc, .ref lr, .ref la, .ref le, .ref lw, .ref lp, .ref ltr, .ref stk])), (la, .inr (0, [.int 0, .ref ed, .int 0])), (lr, .inr (0, [.int 0, .ref ed, .int 0])), (ltr, .inl (cI, 14, .inl gt)), (ssc, .inl (cZ, 16, .inl gz))] := hD
  refine lv_iconst (v := 0) hx hb dX8_tally_12 (by decide) ?_
  refine lv_istore_n (lv' := [(2, .int 0), (0, .ref sc), (1, .int q)]) hx hb dX8_tally_13 rfl hl (by decide) rfl (fun ls hl => ?_)
  have hLp : ∀ (d i : Nat) (gl0 : Nat → Int32) (H : Heap) (locs : List Loc) (ls : Array Slot), i + d = 16 → va_P (dC, dI) vwCl [(sc, .inr (9, [.ref bk, .ref sh, .int 0, .ref spl, .ref spo, .ref sou, .ref ssc, .ref sto, .ref smi, .ref sth])), (bk, .inr (1, [.int 0, .int 0, .int 0, .ref lc, .ref lr, .ref la, .ref le, .ref lw, .ref lp, .ref ltr, .ref stk])), (la, .inr (0, [.int 0, .ref ed, .int 0])), (lr, .inr (0, [.int 0, .ref ed, .int 0])), (ltr, .inl (cI, 14, .inl gt)), (ssc, .inl (cZ, 16, .inl gl0))] H → va_D A [(sc, .inr (9, [.ref bk, .ref sh, .int 0, .ref spl, .ref spo, .ref sou, .ref ssc, .ref sto, .ref smi, .ref sth])), (bk, .inr (1, [.int 0, .int 0, .int 0, .ref lc, .ref lr, .ref la, .ref le, .ref lw, .ref lp, .ref ltr, .ref stk])), (la, .inr (0, [.int 0, .ref ed, .int 0])), (lr, .inr (0, [.int 0, .ref ed, .int 0])), (ltr, .inl (cI, 14, .inl gt)), (ssc, .inl (cZ, 16, .inl gl0))] → va_S A s.heap H locs → lv_has ls 6 [(2, .int (nI i)), (0, .ref sc), (1, .int q)] → W p l e (headSpec v_c_tally ({ frames := 3, cells := 0, slots := 0, locals := 120 })).room s m ([.ref sc, .int q] : List Value).toArray below meth c H locs 0 0 (MQ below (va_Qv (S := (Nat → Int32) × (Nat → Int32)) (fun _ => True) (fun u t => va_P (dC, dI) vwCl [(sc, .inr (9, [.ref bk, .ref sh, .int 0, .ref spl, .ref spo, .ref sou, .ref ssc, .ref sto, .ref smi, .ref sth])), (bk, .inr (1, [.int 0, .int 0, .int 0, .ref lc, .ref lr, .ref la, .ref le, .ref lw, .ref lp, .ref ltr, .ref stk])), (la, .inr (0, [.int 0, .ref ed, .int 0])), (lr, .inr (0, [.int 0, .ref ed, .int 0])), (ltr, .inl (cI, 14, .inl u.1)), (ssc, .inl (cZ, 16, .inl u.2))] t.heap ∧ va_K (dC, dI) vwCl [(cI, .int), (cZ, .boolean)] t ∧ va_D (A) [(sc, .inr (9, [.ref bk, .ref sh, .int 0, .ref spl, .ref spo, .ref sou, .ref ssc, .ref sto, .ref smi, .ref sth])), (bk, .inr (1, [.int 0, .int 0, .int 0, .ref lc, .ref lr, .ref la, .ref le, .ref lw, .ref lp, .ref ltr, .ref stk])), (la, .inr (0, [.int 0, .ref ed, .int 0])), (lr, .inr (0, [.int 0, .ref ed, .int 0])), (ltr, .inl (cI, 14, .inl u.1)), (ssc, .inl (cZ, 16, .inl u.2))]) (A)) ([.ref sc, .int q] : List Value).toArray s 0 0 (A)) (F0 m 14 ls []) := by
    intro d
    induction d with
    | zero =>
      intro i gl0 H locs ls hi  hP hD hS hl
      refine lv_iload_n hx hb dX8_tally_14 rfl (lv_at hl 0 rfl) ?_
      refine lv_bipush (v := 16) hx hb dX8_tally_15 (by decide) ?_
      refine lv_icmp_ge (tgt := 33) hx hb dX8_tally_17 (by decide) (fun c3 => ?_) (fun c3 => by first | exact absurd c3 (nI_le (a := 16) (b := i) (by omega) (by omega)) | exact absurd (nI_le (a := 16) (b := i) (by omega) (by omega)) c3)
      refine lv_iconst (v := 0) hx hb dX8_tally_33 (by decide) ?_
      refine lv_istore_n (lv' := [(2, .int 0), (0, .ref sc), (1, .int q)]) hx hb dX8_tally_34 rfl hl (by decide) rfl (fun ls hl => ?_)
      refine lv_iload_n hx hb dX8_tally_35 rfl (lv_at hl 0 rfl) ?_
      refine lv_aload_n hx hb dX8_tally_36 rfl (lv_at hl 1 rfl) ?_
      refine va_get (D := (dC, dI)) (ci := 9) (v := .int 0) (C := RX8) (T := TX8) (N := 10) hx hb hts iw_c_tally_X8 hown hK hP 0 rfl rfl 2 (by decide) (hts (.fieldLink RX8 73 "UnlikeBoats$Scores" "races" "I") (List.mem_of_getElem? (i := 6) rfl)) (fun _ h9 => h9) rfl dX8_tally_37 ?_
      refine lv_icmp_ge (tgt := 115) hx hb dX8_tally_40 (by decide) (fun c4 => ?_) (fun c4 => by first | exact absurd c4 (by decide) | exact absurd (by decide) c4)
      refine lv_aload_n hx hb dX8_tally_115 rfl (lv_at hl 1 rfl) ?_
      refine lv_iload_n hx hb dX8_tally_116 rfl (lv_at hl 2 rfl) ?_
      have hPc := hP.sub (ws' := [(sc, .inr (9, [.ref bk, .ref sh, .int 0, .ref spl, .ref spo, .ref sou, .ref ssc, .ref sto, .ref smi, .ref sth])), (bk, .inr (1, [.int 0, .int 0, .int 0, .ref lc, .ref lr, .ref la, .ref le, .ref lw, .ref lp, .ref ltr, .ref stk])), (lr, .inr (0, [.int 0, .ref ed, .int 0])), (ltr, .inl (cI, 14, .inl gt))]) [0, 1, 3, 4] rfl
      have hKc := hK.sub (tys' := [(cI, .int)]) [0] rfl
      have hDc := hD.sub (ws' := [(sc, .inr (9, [.ref bk, .ref sh, .int 0, .ref spl, .ref spo, .ref sou, .ref ssc, .ref sto, .ref smi, .ref sth])), (bk, .inr (1, [.int 0, .int 0, .int 0, .ref lc, .ref lr, .ref la, .ref le, .ref lw, .ref lp, .ref ltr, .ref stk])), (lr, .inr (0, [.int 0, .ref ed, .int 0])), (ltr, .inl (cI, 14, .inl gt))]) [0, 1, 3, 4] (by decide) rfl
      have hFc := va_free (wc := [(sc, .inr (9, [.ref bk, .ref sh, .int 0, .ref spl, .ref spo, .ref sou, .ref ssc, .ref sto, .ref smi, .ref sth])), (bk, .inr (1, [.int 0, .int 0, .int 0, .ref lc, .ref lr, .ref la, .ref le, .ref lw, .ref lp, .ref ltr, .ref stk])), (lr, .inr (0, [.int 0, .ref ed, .int 0])), (ltr, .inl (cI, 14, .inl gt))]) hD hS hA [0, 1, 3, 4] rfl
      refine va_calli (va_runV (As := [.int q]) (rest := []) ⟨hx, hb, hml, hown, hts⟩ (c_throwOutsIn l dC dI sc bk sh spl spo sou ssc sto smi sth lc lr la le lw lp ltr stk ed cI gt q H.size) (cwV 1 hts g_c_tally_c_throwOutsIn_90 rfl rfl rfl (by decide +kernel) ⟨Nat.le_of_ble_eq_true rfl, Nat.le_of_ble_eq_true rfl⟩) ⟨fun a U g mk q => by obtain ⟨e0, e1, qP, qK, qD, qN⟩ := q; exact ⟨e0, e1, qP, va_K.moved (u := U) (U := U.calling g mk a) (Vm.Alike.refl U.vm) qK, qD, ub_NX_c qN⟩, va_recv hK hP (ci := 9) (q0 := 0) rfl rfl, fun U hU hW => ⟨rfl, by rw [hU], by rw [hU]; exact hPc, va_K.moved hW.alike hKc, hDc.weaken (fun _ _ _ _ => trivial), ub_NX_w hW hN⟩⟩ rfl rfl hl.1 rfl (lv_room (Nat.le_of_ble_eq_true rfl)) dX8_tally_117 ⟨Nat.le_of_ble_eq_true rfl, Nat.le_of_ble_eq_true rfl⟩) hS (fun q _ h => hFc q h) hFc (fun r5 u6 t H1 locs ht hvm hw hB hz1 hk1 hS => ?_)
      obtain ⟨hP1, hK1, hD1⟩ := hB
      rw [ht] at hP1
      obtain ⟨hP, hD⟩ := va_join (wr := [(la, .inr (0, [.int 0, .ref ed, .int 0])), (ssc, .inl (cZ, 16, .inl gl0))]) (w1 := [(sc, .inr (9, [.ref bk, .ref sh, .int 0, .ref spl, .ref spo, .ref sou, .ref ssc, .ref sto, .ref smi, .ref sth])), (bk, .inr (1, [.int 0, .int 0, .int 0, .ref lc, .ref lr, .ref la, .ref le, .ref lw, .ref lp, .ref ltr, .ref stk])), (lr, .inr (0, [.int 0, .ref ed, .int 0])), (ltr, .inl (cI, 14, .inl u6))]) hP hD [0, 1, 3, 4] [2, 5] rfl rfl (by decide) (by decide) hk1 hFc hP1 hD1
      have hK1 := va_K.moved hvm.symm hK1
      have hK := hK.app hK1
      have hK : va_K (dC, dI) vwCl [(cI, .int), (cZ, .boolean), (cI, .int)] s := hK
      generalize H1 = H at hP hS ⊢
      have hP : va_P (dC, dI) vwCl [(la, .inr (0, [.int 0, .ref ed, .int 0])), (ssc, .inl (cZ, 16, .inl gl0)), (sc, .inr (9, [.ref bk, .ref sh, .int 0, .ref spl, .ref spo, .ref sou, .ref ssc, .ref sto, .ref smi, .ref sth])), (bk, .inr (1, [.int 0, .int 0, .int 0, .ref lc, .ref lr, .ref la, .ref le, .ref lw, .ref lp, .ref ltr, .ref stk])), (lr, .inr (0, [.int 0, .ref ed, .int 0])), (ltr, .inl (cI, 14, .inl u6))] H := hP
      have hD : va_D A [(la, .inr (0, [.int 0, .ref ed, .int 0])), (ssc, .inl (cZ, 16, .inl gl0)), (sc, .inr (9, [.ref bk, .ref sh, .int 0, .ref spl, .ref spo, .ref sou, .ref ssc, .ref sto, .ref smi, .ref sth])), (bk, .inr (1, [.int 0, .int 0, .int 0, .ref lc, .ref lr, .ref la, .ref le, .ref lw, .ref lp, .ref ltr, .ref stk])), (lr, .inr (0, [.int 0, .ref ed, .int 0])), (ltr, .inl (cI, 14, .inl u6))] := hD
      have hK := hK.sub (tys' := [(cI, .int), (cZ, .boolean)]) [0, 1] rfl
      refine W.widen (k := 0) (n := 0) (by omega) (by omega) ?_
      obtain rfl : (0 : Int32) = r5 := hw.symm
      refine lv_istore_n (lv' := [(2, .int 0), (0, .ref sc), (1, .int q)]) hx hb dX8_tally_120 rfl hl (by decide) rfl (fun ls hl => ?_)
      refine lv_iconst (v := 0) hx hb dX8_tally_121 (by decide) ?_
      refine lv_istore_n (lv' := [(3, .int 0), (2, .int 0), (0, .ref sc), (1, .int q)]) hx hb dX8_tally_122 rfl hl (by decide) rfl (fun ls hl => ?_)
      refine lv_iload_n hx hb dX8_tally_123 rfl (lv_at hl 0 rfl) ?_
      refine lv_aload_n hx hb dX8_tally_124 rfl (lv_at hl 2 rfl) ?_
      refine va_get (D := (dC, dI)) (ci := 9) (v := .ref bk) (C := RX8) (T := TX8) (N := 10) hx hb hts iw_c_tally_X8 hown hK hP 2 rfl rfl 0 (by decide) (hts (.fieldLink RX8 34 "UnlikeBoats$Scores" "book" "LUnlikeBoats$Book;") (List.mem_of_getElem? (i := 1) rfl)) (fun _ h9 => h9) rfl dX8_tally_125 ?_
      refine va_get (D := (dC, dI)) (ci := 1) (v := .int 0) (C := RX0) (T := TX0) (N := 11) hx hb hts iw_c_tally_X0 hown hK hP 3 rfl rfl 1 (by decide) (hts (.fieldLink RX8 84 "UnlikeBoats$Book" "boats" "I") (List.mem_of_getElem? (i := 11) rfl)) (fun _ h9 => h9) rfl dX8_tally_128 ?_
      refine lv_icmp_ge (tgt := 224) hx hb dX8_tally_131 (by decide) (fun c7 => ?_) (fun c7 => by first | exact absurd c7 (by decide) | exact absurd (by decide) c7)
      have hP9 := hP.sub (ws' := [(sc, .inr (9, [.ref bk, .ref sh, .int 0, .ref spl, .ref spo, .ref sou, .ref ssc, .ref sto, .ref smi, .ref sth])), (bk, .inr (1, [.int 0, .int 0, .int 0, .ref lc, .ref lr, .ref la, .ref le, .ref lw, .ref lp, .ref ltr, .ref stk])), (la, .inr (0, [.int 0, .ref ed, .int 0])), (lr, .inr (0, [.int 0, .ref ed, .int 0])), (ltr, .inl (cI, 14, .inl u6)), (ssc, .inl (cZ, 16, .inl gl0))]) [2, 3, 0, 4, 5, 1] rfl
      have hD9 := hD.sub (ws' := [(sc, .inr (9, [.ref bk, .ref sh, .int 0, .ref spl, .ref spo, .ref sou, .ref ssc, .ref sto, .ref smi, .ref sth])), (bk, .inr (1, [.int 0, .int 0, .int 0, .ref lc, .ref lr, .ref la, .ref le, .ref lw, .ref lp, .ref ltr, .ref stk])), (la, .inr (0, [.int 0, .ref ed, .int 0])), (lr, .inr (0, [.int 0, .ref ed, .int 0])), (ltr, .inl (cI, 14, .inl u6)), (ssc, .inl (cZ, 16, .inl gl0))]) [2, 3, 0, 4, 5, 1] (by decide) rfl
      have hK9 := hK.sub (tys' := [(cI, .int), (cZ, .boolean)]) [0, 1] rfl
      exact W.vret hx hb hr (fun t ht hW => ⟨⟨(u6, gl0), rfl, trivial, (by rw [ht]; exact hP9), va_K.moved hW.alike hK9, hD9⟩, hS.F ht⟩) hS.2.2 dX8_tally_224
    | succ d ih =>
      intro i gl0 H locs ls hi  hP hD hS hl
      refine lv_iload_n hx hb dX8_tally_14 rfl (lv_at hl 0 rfl) ?_
      refine lv_bipush (v := 16) hx hb dX8_tally_15 (by decide) ?_
      refine lv_icmp_ge (tgt := 33) hx hb dX8_tally_17 (by decide) (fun c8 => by first | exact absurd c8 (nI_ge (a := i) (b := 16) (by omega) (by omega)) | exact absurd (nI_ge (a := i) (b := 16) (by omega) (by omega)) c8) (fun c8 => ?_)
      refine lv_aload_n hx hb dX8_tally_20 rfl (lv_at hl 1 rfl) ?_
      refine va_get (D := (dC, dI)) (ci := 9) (v := .ref ssc) (C := RX8) (T := TX8) (N := 10) hx hb hts iw_c_tally_X8 hown hK hP 0 rfl rfl 6 (by decide) (hts (.fieldLink RX8 22 "UnlikeBoats$Scores" "scored" "[Z") (List.mem_of_getElem? (i := 12) rfl)) (fun _ h9 => h9) rfl dX8_tally_21 ?_
      refine lv_iload_n hx hb dX8_tally_24 rfl (lv_at hl 0 rfl) ?_
      refine lv_iconst (v := 0) hx hb dX8_tally_25 (by decide) ?_
      refine va_zast hx hb hK hP hD hS 5 1 rfl rfl (vp_in_nI (n := i) (N := 16) (by omega) (by omega)) dX8_tally_26 (fun H locs hP hD hS => ?_)
      obtain ⟨f9, ef9⟩ : ∃ z9 : Nat → Int32, z9 = upd gl0 (nI i).toNatClampNeg (vp_nar .boolean (0 : Int32)) := ⟨_, rfl⟩
      have hP : va_P (dC, dI) vwCl [(sc, .inr (9, [.ref bk, .ref sh, .int 0, .ref spl, .ref spo, .ref sou, .ref ssc, .ref sto, .ref smi, .ref sth])), (bk, .inr (1, [.int 0, .int 0, .int 0, .ref lc, .ref lr, .ref la, .ref le, .ref lw, .ref lp, .ref ltr, .ref stk])), (la, .inr (0, [.int 0, .ref ed, .int 0])), (lr, .inr (0, [.int 0, .ref ed, .int 0])), (ltr, .inl (cI, 14, .inl gt)), (ssc, .inl (cZ, 16, .inl (upd gl0 (nI i).toNatClampNeg (vp_nar .boolean (0 : Int32)))))] H := hP
      have hD : va_D A [(sc, .inr (9, [.ref bk, .ref sh, .int 0, .ref spl, .ref spo, .ref sou, .ref ssc, .ref sto, .ref smi, .ref sth])), (bk, .inr (1, [.int 0, .int 0, .int 0, .ref lc, .ref lr, .ref la, .ref le, .ref lw, .ref lp, .ref ltr, .ref stk])), (la, .inr (0, [.int 0, .ref ed, .int 0])), (lr, .inr (0, [.int 0, .ref ed, .int 0])), (ltr, .inl (cI, 14, .inl gt)), (ssc, .inl (cZ, 16, .inl (upd gl0 (nI i).toNatClampNeg (vp_nar .boolean (0 : Int32)))))] := hD
      rw [← ef9] at hP hD
      refine lv_iinc (v := nI (i + 1)) (lv' := [(2, .int (nI (i + 1))), (0, .ref sc), (1, .int q)]) hx hb dX8_tally_27 hl (k := 0) rfl (nI_1 _) (by decide) rfl (fun ls hl => ?_)
      refine lv_goto (tgt := 14) hx hb dX8_tally_30 (by decide) ?_
      exact ih (i + 1) f9 _ _ ls (by omega)  hP hD hS (lv_sub hl [0, 1, 2] rfl)
  exact hLp 16 0 gz _ _ ls (by omega)  hP hD hS (lv_sub hl [0, 1, 2] rfl)
def A_c_boatAt0 : List Cond := [.fieldLink RX8 34 "UnlikeBoats$Scores" "book" "LUnlikeBoats$Book;", .fieldLink RX8 84 "UnlikeBoats$Book" "boats" "I"]
def v_c_boatAt0 : List Cond := .code yX8_boatAt cX8_boatAt 5 (some .int) :: (A_c_boatAt0 ++ wsX80 ++ wsX00)
theorem iw_c_boatAt0_X8 : ∀ w ∈ wsX80, w ∈ v_c_boatAt0 := fun _ h => List.mem_cons_of_mem _ (List.mem_append_left _ (List.mem_append_right _ (h)))
theorem iw_c_boatAt0_X0 : ∀ w ∈ wsX00, w ∈ v_c_boatAt0 := fun _ h => List.mem_cons_of_mem _ (List.mem_append_right _ (h))
set_option maxHeartbeats 4000000 in
set_option maxRecDepth 100000 in
theorem c_boatAt0 (l : Launch) (dC : Nat → ClassId) (dI : Nat → Nat → Nat) (sc : Nat) (bk : Nat) (sh : Nat) (spl : Nat) (spo : Nat) (sou : Nat) (ssc : Nat) (sto : Nat) (smi : Nat) (sth : Nat) (lc : Nat) (lr : Nat) (la : Nat) (le : Nat) (lw : Nat) (lp : Nat) (ltr : Nat) (stk : Nat) (q : Int32)  : Met l yX8_boatAt v_c_boatAt0 ({ frames := 0, cells := 0, slots := 0, locals := 0 }) (va_Pc [.ref sc, .int q] (fun U => va_P (dC, dI) vwCl [(sc, .inr (9, [.ref bk, .ref sh, .int 0, .ref spl, .ref spo, .ref sou, .ref ssc, .ref sto, .ref smi, .ref sth])), (bk, .inr (1, [.int 0, .int 0, .int 0, .ref lc, .ref lr, .ref la, .ref le, .ref lw, .ref lp, .ref ltr, .ref stk]))] U.heap ∧ va_K (dC, dI) vwCl [] U)) (va_Qi (S := Unit) (fun r _ => r = -1) (fun _ _ => True) (fun _ => False)) 0 0 (fun _ => False) := by
  refine Met.ofW (cc := cX8_boatAt) (maxL := 5) (ret := (some .int)) (by decide) rfl ?_
  intro p e s m args below meth c s₁ B hml hv
  obtain ⟨rfl, hP, hK⟩ := hv
  have hx := B.exec
  have hb := B.bytes
  have hr := B.returns
  have hts := atoms_spec (ws := v_c_boatAt0) B.pre
  have hown : s.vm.findClass RX8 = some m.cls := findClass_of_methodNamed B.named
  have hlocks := B.notSynchronized
  have hS : va_S (fun _ : Nat => False) s.heap s.heap [] := va_S.rf
  have hl := lv_entry ([.ref sc, .int q]) (n := 5) (Nat.le_of_ble_eq_true rfl)
  rw [lg_entry_eq]
  generalize (lg_sl ([.ref sc, .int q]) ++ List.replicate (5 - (lg_sl ([.ref sc, .int q])).length) Slot.unset).toArray = ls at hl ⊢
  have hl : lv_has ls 5 [(0, .ref sc), (1, .int q)] := hl
  refine lv_iconst (v := 0) hx hb dX8_boatAt_0 (by decide) ?_
  refine lv_istore_n (lv' := [(2, .int 0), (0, .ref sc), (1, .int q)]) hx hb dX8_boatAt_1 rfl hl (by decide) rfl (fun ls hl => ?_)
  refine lv_iload_n hx hb dX8_boatAt_2 rfl (lv_at hl 0 rfl) ?_
  refine lv_aload_n hx hb dX8_boatAt_3 rfl (lv_at hl 1 rfl) ?_
  refine va_get (D := (dC, dI)) (ci := 9) (v := .ref bk) (C := RX8) (T := TX8) (N := 10) hx hb hts iw_c_boatAt0_X8 hown hK hP 0 rfl rfl 0 (by decide) (hts (.fieldLink RX8 34 "UnlikeBoats$Scores" "book" "LUnlikeBoats$Book;") (List.mem_of_getElem? (i := 1) rfl)) (fun _ h9 => h9) rfl dX8_boatAt_4 ?_
  refine va_get (D := (dC, dI)) (ci := 1) (v := .int 0) (C := RX0) (T := TX0) (N := 11) hx hb hts iw_c_boatAt0_X0 hown hK hP 1 rfl rfl 1 (by decide) (hts (.fieldLink RX8 84 "UnlikeBoats$Book" "boats" "I") (List.mem_of_getElem? (i := 2) rfl)) (fun _ h9 => h9) rfl dX8_boatAt_7 ?_
  refine lv_icmp_ge (tgt := 90) hx hb dX8_boatAt_10 (by decide) (fun c1 => ?_) (fun c1 => by first | exact absurd c1 (by decide) | exact absurd (by decide) c1)
  refine lv_iconst (v := -1) hx hb dX8_boatAt_90 (by decide) ?_
  exact W.iret (v := (-1)) hx hb hr (fun t ht hW => ⟨⟨(-1), (), rfl, rfl, trivial⟩, hS.F ht⟩) hS.2.2 dX8_boatAt_91
def A_c_ranked : List Cond := [.methodLink RX12 59 yX12_within, .static yX12_within, .initialized RX12, .fieldLink RX12 10 "UnlikeBoats" "book" "LUnlikeBoats$Book;", .methodLink RX12 92 yX0_isKnown, .instanceMethod yX0_isKnown, .selects RX0 yX0_isKnown yX0_isKnown, .initialized RX0, .fieldLink RX12 37 "UnlikeBoats" "scores" "LUnlikeBoats$Scores;", .methodLink RX12 189 yX8_tally, .instanceMethod yX8_tally, .selects RX8 yX8_tally yX8_tally, .initialized RX8, .methodLink RX12 205 yX8_boatAt, .instanceMethod yX8_boatAt, .selects RX8 yX8_boatAt yX8_boatAt, .code yX12_within cX12_within 3 (some .boolean), .code yX0_isKnown cX0_isKnown 2 (some .boolean), .fieldLink RX0 59 "UnlikeBoats$Book" "now" "I", .code yX8_tally cX8_tally 6 none, .fieldLink RX8 34 "UnlikeBoats$Scores" "book" "LUnlikeBoats$Book;", .methodLink RX8 70 yX0_racesIn, .instanceMethod yX0_racesIn, .selects RX0 yX0_racesIn yX0_racesIn, .fieldLink RX8 73 "UnlikeBoats$Scores" "races" "I", .methodLink RX8 90 yX8_throwOutsIn, .instanceMethod yX8_throwOutsIn, .selects RX8 yX8_throwOutsIn yX8_throwOutsIn, .fieldLink RX8 84 "UnlikeBoats$Book" "boats" "I", .fieldLink RX8 22 "UnlikeBoats$Scores" "scored" "[Z", .code yX0_racesIn cX0_racesIn 4 (some .int), .fieldLink RX0 21 "UnlikeBoats$Book" "races" "Ljava/util/ArrayList;", .methodLink RX0 56 yJx4a65c_size_8abf5, .instanceMethod yJx4a65c_size_8abf5, .selects RJx4a65c yJx4a65c_size_8abf5 yJx4a65c_size_8abf5, .initialized RJx4a65c, .code yJx4a65c_size_8abf5 cJx4a65c_size_8abf5 1 (some .int), .fieldLink RJx4a65c 48 "java/util/ArrayList" "size" "I", .code yX8_throwOutsIn cX8_throwOutsIn 3 (some .int), .methodLink RX8 96 yX0_forgetLetters, .instanceMethod yX0_forgetLetters, .selects RX0 yX0_forgetLetters yX0_forgetLetters, .fieldLink RX8 99 "UnlikeBoats$Book" "letters" "[I", .methodLink RX8 102 yX0_rulesOn, .instanceMethod yX0_rulesOn, .selects RX0 yX0_rulesOn yX0_rulesOn, .methodLink RX8 105 yX0_worthIn, .instanceMethod yX0_worthIn, .selects RX0 yX0_worthIn yX0_worthIn, .methodLink RX8 109 Lib.Math.max.name, .static Lib.Math.max.name, .initialized "java/lang/Math", .code Lib.Math.max.name Lib.Math.max.code 2 (some .int), .static yX12_held, .code yX0_forgetLetters cX0_forgetLetters 1 none, .fieldLink RX0 41 "UnlikeBoats$Book" "letters" "[I", .methodLink RX0 134 yJ7_fill_53178, .static yJ7_fill_53178, .initialized RJ7, .code yJ7_fill_53178 cJ7_fill_53178 4 none, .code yX0_rulesOn cX0_rulesOn 7 (some .int), .fieldLink RX0 18 "UnlikeBoats$Book" "rules" "Ljava/util/ArrayList;", .code yX0_worthIn cX0_worthIn 3 (some .int), .code yX12_held cX12_held 3 (some .int), .code yX8_boatAt cX8_boatAt 5 (some .int)]
def v_c_ranked : List Cond := .code yX12_ranked cX12_ranked 3 (some .int) :: (A_c_ranked ++ wsX120 ++ wsX00 ++ wsX80 ++ wsJx4a65c0)
theorem iw_c_ranked_X12 : ∀ w ∈ wsX120, w ∈ v_c_ranked := fun _ h => List.mem_cons_of_mem _ (List.mem_append_left _ (List.mem_append_left _ (List.mem_append_left _ (List.mem_append_right _ (h)))))
theorem iw_c_ranked_X0 : ∀ w ∈ wsX00, w ∈ v_c_ranked := fun _ h => List.mem_cons_of_mem _ (List.mem_append_left _ (List.mem_append_left _ (List.mem_append_right _ (h))))
theorem iw_c_ranked_X8 : ∀ w ∈ wsX80, w ∈ v_c_ranked := fun _ h => List.mem_cons_of_mem _ (List.mem_append_left _ (List.mem_append_right _ (h)))
theorem iw_c_ranked_Jx4a65c : ∀ w ∈ wsJx4a65c0, w ∈ v_c_ranked := fun _ h => List.mem_cons_of_mem _ (List.mem_append_right _ (h))
theorem gb_c_ranked_c_within0 : GoodIn v_c_ranked (.code yX12_within cX12_within 3 (some .boolean) :: A_c_within) := (List.forall_mem_cons.mpr ⟨⟨List.mem_of_getElem? (i := 17) rfl, good_of_word rfl⟩, (fun _ h => nomatch h)⟩)
theorem gb_c_ranked_c_within : GoodIn v_c_ranked v_c_within := gb_c_ranked_c_within0
theorem g_c_ranked_c_within_59 : GoodIn v_c_ranked (va_wsS RX12 59 yX12_within v_c_within) := goodIn_app (List.forall_mem_cons.mpr ⟨⟨List.mem_of_getElem? (i := 1) rfl, good_of_word rfl⟩, (List.forall_mem_cons.mpr ⟨⟨List.mem_of_getElem? (i := 2) rfl, good_of_word rfl⟩, (List.forall_mem_cons.mpr ⟨⟨List.mem_of_getElem? (i := 3) rfl, good_of_word rfl⟩, (fun _ h => nomatch h)⟩)⟩)⟩) gb_c_ranked_c_within
theorem gb_c_ranked_c_isKnown0 : GoodIn v_c_ranked (.code yX0_isKnown cX0_isKnown 2 (some .boolean) :: A_c_isKnown) := (List.forall_mem_cons.mpr ⟨⟨List.mem_of_getElem? (i := 18) rfl, good_of_word rfl⟩, (List.forall_mem_cons.mpr ⟨⟨List.mem_of_getElem? (i := 19) rfl, good_of_word rfl⟩, (List.forall_mem_cons.mpr ⟨⟨List.mem_of_getElem? (i := 3) rfl, good_of_word rfl⟩, (List.forall_mem_cons.mpr ⟨⟨List.mem_of_getElem? (i := 2) rfl, good_of_word rfl⟩, (List.forall_mem_cons.mpr ⟨⟨List.mem_of_getElem? (i := 17) rfl, good_of_word rfl⟩, (fun _ h => nomatch h)⟩)⟩)⟩)⟩)⟩)
theorem gb_c_ranked_c_isKnown : GoodIn v_c_ranked v_c_isKnown := (goodIn_ca gb_c_ranked_c_isKnown0 (goodIn_sub iw_c_ranked_X0 gw_X0))
theorem g_c_ranked_c_isKnown_92 : GoodIn v_c_ranked (wsV RX12 92 RX0 yX0_isKnown v_c_isKnown) := goodIn_app (List.forall_mem_cons.mpr ⟨⟨List.mem_of_getElem? (i := 5) rfl, good_of_word rfl⟩, (List.forall_mem_cons.mpr ⟨⟨List.mem_of_getElem? (i := 6) rfl, good_of_word rfl⟩, (List.forall_mem_cons.mpr ⟨⟨List.mem_of_getElem? (i := 7) rfl, good_of_word rfl⟩, (List.forall_mem_cons.mpr ⟨⟨List.mem_of_getElem? (i := 8) rfl, good_of_word rfl⟩, (fun _ h => nomatch h)⟩)⟩)⟩)⟩) gb_c_ranked_c_isKnown
theorem gb_c_ranked_c_tally0 : GoodIn v_c_ranked (.code yX8_tally cX8_tally 6 none :: A_c_tally) := (List.forall_mem_cons.mpr ⟨⟨List.mem_of_getElem? (i := 20) rfl, good_of_word rfl⟩, (List.forall_mem_cons.mpr ⟨⟨List.mem_of_getElem? (i := 21) rfl, good_of_word rfl⟩, (List.forall_mem_cons.mpr ⟨⟨List.mem_of_getElem? (i := 22) rfl, good_of_word rfl⟩, (List.forall_mem_cons.mpr ⟨⟨List.mem_of_getElem? (i := 23) rfl, good_of_word rfl⟩, (List.forall_mem_cons.mpr ⟨⟨List.mem_of_getElem? (i := 24) rfl, good_of_word rfl⟩, (List.forall_mem_cons.mpr ⟨⟨List.mem_of_getElem? (i := 8) rfl, good_of_word rfl⟩, (List.forall_mem_cons.mpr ⟨⟨List.mem_of_getElem? (i := 25) rfl, good_of_word rfl⟩, (List.forall_mem_cons.mpr ⟨⟨List.mem_of_getElem? (i := 26) rfl, good_of_word rfl⟩, (List.forall_mem_cons.mpr ⟨⟨List.mem_of_getElem? (i := 27) rfl, good_of_word rfl⟩, (List.forall_mem_cons.mpr ⟨⟨List.mem_of_getElem? (i := 28) rfl, good_of_word rfl⟩, (List.forall_mem_cons.mpr ⟨⟨List.mem_of_getElem? (i := 13) rfl, good_of_word rfl⟩, (List.forall_mem_cons.mpr ⟨⟨List.mem_of_getElem? (i := 29) rfl, good_of_word rfl⟩, (List.forall_mem_cons.mpr ⟨⟨List.mem_of_getElem? (i := 30) rfl, good_of_word rfl⟩, (List.forall_mem_cons.mpr ⟨⟨List.mem_of_getElem? (i := 31) rfl, good_of_word rfl⟩, (List.forall_mem_cons.mpr ⟨⟨List.mem_of_getElem? (i := 32) rfl, good_of_word rfl⟩, (List.forall_mem_cons.mpr ⟨⟨List.mem_of_getElem? (i := 33) rfl, good_of_word rfl⟩, (List.forall_mem_cons.mpr ⟨⟨List.mem_of_getElem? (i := 34) rfl, good_of_word rfl⟩, (List.forall_mem_cons.mpr ⟨⟨List.mem_of_getElem? (i := 35) rfl, good_of_word rfl⟩, (List.forall_mem_cons.mpr ⟨⟨List.mem_of_getElem? (i := 36) rfl, good_of_word rfl⟩, (List.forall_mem_cons.mpr ⟨⟨List.mem_of_getElem? (i := 37) rfl, good_of_word rfl⟩, (List.forall_mem_cons.mpr ⟨⟨List.mem_of_getElem? (i := 38) rfl, good_of_word rfl⟩, (List.forall_mem_cons.mpr ⟨⟨List.mem_of_getElem? (i := 39) rfl, good_of_word rfl⟩, (List.forall_mem_cons.mpr ⟨⟨List.mem_of_getElem? (i := 40) rfl, good_of_word rfl⟩, (List.forall_mem_cons.mpr ⟨⟨List.mem_of_getElem? (i := 41) rfl, good_of_word rfl⟩, (List.forall_mem_cons.mpr ⟨⟨List.mem_of_getElem? (i := 42) rfl, good_of_word rfl⟩, (List.forall_mem_cons.mpr ⟨⟨List.mem_of_getElem? (i := 43) rfl, good_of_word rfl⟩, (List.forall_mem_cons.mpr ⟨⟨List.mem_of_getElem? (i := 44) rfl, good_of_word rfl⟩, (List.forall_mem_cons.mpr ⟨⟨List.mem_of_getElem? (i := 45) rfl, good_of_word rfl⟩, (List.forall_mem_cons.mpr ⟨⟨List.mem_of_getElem? (i := 46) rfl, good_of_word rfl⟩, (List.forall_mem_cons.mpr ⟨⟨List.mem_of_getElem? (i := 47) rfl, good_of_word rfl⟩, (List.forall_mem_cons.mpr ⟨⟨List.mem_of_getElem? (i := 48) rfl, good_of_word rfl⟩, (List.forall_mem_cons.mpr ⟨⟨List.mem_of_getElem? (i := 49) rfl, good_of_word rfl⟩, (List.forall_mem_cons.mpr ⟨⟨List.mem_of_getElem? (i := 50) rfl, good_of_word rfl⟩, (List.forall_mem_cons.mpr ⟨⟨List.mem_of_getElem? (i := 51) rfl, good_of_word rfl⟩, (List.forall_mem_cons.mpr ⟨⟨List.mem_of_getElem? (i := 52) rfl, good_of_word rfl⟩, (List.forall_mem_cons.mpr ⟨⟨List.mem_of_getElem? (i := 53) rfl, good_of_word rfl⟩, (List.forall_mem_cons.mpr ⟨⟨List.mem_of_getElem? (i := 3) rfl, good_of_word rfl⟩, (List.forall_mem_cons.mpr ⟨⟨List.mem_of_getElem? (i := 54) rfl, good_of_word rfl⟩, (List.forall_mem_cons.mpr ⟨⟨List.mem_of_getElem? (i := 55) rfl, good_of_word rfl⟩, (List.forall_mem_cons.mpr ⟨⟨List.mem_of_getElem? (i := 56) rfl, good_of_word rfl⟩, (List.forall_mem_cons.mpr ⟨⟨List.mem_of_getElem? (i := 57) rfl, good_of_word rfl⟩, (List.forall_mem_cons.mpr ⟨⟨List.mem_of_getElem? (i := 58) rfl, good_of_word rfl⟩, (List.forall_mem_cons.mpr ⟨⟨List.mem_of_getElem? (i := 59) rfl, good_of_word rfl⟩, (List.forall_mem_cons.mpr ⟨⟨List.mem_of_getElem? (i := 60) rfl, good_of_word rfl⟩, (List.forall_mem_cons.mpr ⟨⟨List.mem_of_getElem? (i := 61) rfl, good_of_word rfl⟩, (List.forall_mem_cons.mpr ⟨⟨List.mem_of_getElem? (i := 62) rfl, good_of_word rfl⟩, (List.forall_mem_cons.mpr ⟨⟨List.mem_of_getElem? (i := 63) rfl, good_of_word rfl⟩, (List.forall_mem_cons.mpr ⟨⟨List.mem_of_getElem? (i := 64) rfl, good_of_word rfl⟩, (fun _ h => nomatch h)⟩)⟩)⟩)⟩)⟩)⟩)⟩)⟩)⟩)⟩)⟩)⟩)⟩)⟩)⟩)⟩)⟩)⟩)⟩)⟩)⟩)⟩)⟩)⟩)⟩)⟩)⟩)⟩)⟩)⟩)⟩)⟩)⟩)⟩)⟩)⟩)⟩)⟩)⟩)⟩)⟩)⟩)⟩)⟩)⟩)⟩)⟩)⟩)
theorem gb_c_ranked_c_tally : GoodIn v_c_ranked v_c_tally := (goodIn_ca (goodIn_ca (goodIn_ca gb_c_ranked_c_tally0 (goodIn_sub iw_c_ranked_X8 gw_X8)) (goodIn_sub iw_c_ranked_X0 gw_X0)) (goodIn_sub iw_c_ranked_Jx4a65c gw_Jx4a65c))
theorem g_c_ranked_c_tally_189 : GoodIn v_c_ranked (wsV RX12 189 RX8 yX8_tally v_c_tally) := goodIn_app (List.forall_mem_cons.mpr ⟨⟨List.mem_of_getElem? (i := 10) rfl, good_of_word rfl⟩, (List.forall_mem_cons.mpr ⟨⟨List.mem_of_getElem? (i := 11) rfl, good_of_word rfl⟩, (List.forall_mem_cons.mpr ⟨⟨List.mem_of_getElem? (i := 12) rfl, good_of_word rfl⟩, (List.forall_mem_cons.mpr ⟨⟨List.mem_of_getElem? (i := 13) rfl, good_of_word rfl⟩, (fun _ h => nomatch h)⟩)⟩)⟩)⟩) gb_c_ranked_c_tally
theorem gb_c_ranked_c_boatAt00 : GoodIn v_c_ranked (.code yX8_boatAt cX8_boatAt 5 (some .int) :: A_c_boatAt0) := (List.forall_mem_cons.mpr ⟨⟨List.mem_of_getElem? (i := 65) rfl, good_of_word rfl⟩, (List.forall_mem_cons.mpr ⟨⟨List.mem_of_getElem? (i := 21) rfl, good_of_word rfl⟩, (List.forall_mem_cons.mpr ⟨⟨List.mem_of_getElem? (i := 29) rfl, good_of_word rfl⟩, (fun _ h => nomatch h)⟩)⟩)⟩)
theorem gb_c_ranked_c_boatAt0 : GoodIn v_c_ranked v_c_boatAt0 := (goodIn_ca (goodIn_ca gb_c_ranked_c_boatAt00 (goodIn_sub iw_c_ranked_X8 gw_X8)) (goodIn_sub iw_c_ranked_X0 gw_X0))
theorem g_c_ranked_c_boatAt0_205 : GoodIn v_c_ranked (wsV RX12 205 RX8 yX8_boatAt v_c_boatAt0) := goodIn_app (List.forall_mem_cons.mpr ⟨⟨List.mem_of_getElem? (i := 14) rfl, good_of_word rfl⟩, (List.forall_mem_cons.mpr ⟨⟨List.mem_of_getElem? (i := 15) rfl, good_of_word rfl⟩, (List.forall_mem_cons.mpr ⟨⟨List.mem_of_getElem? (i := 16) rfl, good_of_word rfl⟩, (List.forall_mem_cons.mpr ⟨⟨List.mem_of_getElem? (i := 13) rfl, good_of_word rfl⟩, (fun _ h => nomatch h)⟩)⟩)⟩)⟩) gb_c_ranked_c_boatAt0
set_option maxHeartbeats 4000000 in
set_option maxRecDepth 100000 in
theorem c_ranked (l : Launch) (dC : Nat → ClassId) (dI : Nat → Nat → Nat) (x : Nat) (bk : Nat) (tp : Nat) (sh : Nat) (sc : Nat) (he : Nat) (of : Nat) (spl : Nat) (spo : Nat) (sou : Nat) (ssc : Nat) (sto : Nat) (smi : Nat) (sth : Nat) (lc : Nat) (lr : Nat) (la : Nat) (le : Nat) (lw : Nat) (lp : Nat) (ltr : Nat) (stk : Nat) (ed : Nat) (cI : ClassId) (gt : Nat → Int32) (cZ : ClassId) (gz : Nat → Int32) (a0 : Int32) (q : Int32) (sz : Nat)  : Met l yX12_ranked v_c_ranked ({ frames := 4, cells := 0, slots := 0, locals := 160 }) (va_Pc [.ref x, .int a0, .int q] (fun U => U.heap.size = sz ∧ va_P (dC, dI) vwCl [(x, .inr (13, [.ref bk, .ref tp, .ref sh, .ref sc, .ref he, .ref of])), (sc, .inr (9, [.ref bk, .ref sh, .int 0, .ref spl, .ref spo, .ref sou, .ref ssc, .ref sto, .ref smi, .ref sth])), (bk, .inr (1, [.int 0, .int 0, .int 0, .ref lc, .ref lr, .ref la, .ref le, .ref lw, .ref lp, .ref ltr, .ref stk])), (la, .inr (0, [.int 0, .ref ed, .int 0])), (lr, .inr (0, [.int 0, .ref ed, .int 0])), (ltr, .inl (cI, 14, .inl gt)), (ssc, .inl (cZ, 16, .inl gz))] U.heap ∧ va_K (dC, dI) vwCl [(cI, .int), (cZ, .boolean)] U ∧ va_D (fun _ => True) [(x, .inr (13, [.ref bk, .ref tp, .ref sh, .ref sc, .ref he, .ref of])), (sc, .inr (9, [.ref bk, .ref sh, .int 0, .ref spl, .ref spo, .ref sou, .ref ssc, .ref sto, .ref smi, .ref sth])), (bk, .inr (1, [.int 0, .int 0, .int 0, .ref lc, .ref lr, .ref la, .ref le, .ref lw, .ref lp, .ref ltr, .ref stk])), (la, .inr (0, [.int 0, .ref ed, .int 0])), (lr, .inr (0, [.int 0, .ref ed, .int 0])), (ltr, .inl (cI, 14, .inl gt)), (ssc, .inl (cZ, 16, .inl gz))] ∧ ub_NX U)) (va_Qi (S := Unit) (fun r _ => r = -1) (fun _ _ => True) (va_A [(x, .inr (13, [.ref bk, .ref tp, .ref sh, .ref sc, .ref he, .ref of])), (sc, .inr (9, [.ref bk, .ref sh, .int 0, .ref spl, .ref spo, .ref sou, .ref ssc, .ref sto, .ref smi, .ref sth])), (bk, .inr (1, [.int 0, .int 0, .int 0, .ref lc, .ref lr, .ref la, .ref le, .ref lw, .ref lp, .ref ltr, .ref stk])), (la, .inr (0, [.int 0, .ref ed, .int 0])), (lr, .inr (0, [.int 0, .ref ed, .int 0])), (ltr, .inl (cI, 14, .inl gt)), (ssc, .inl (cZ, 16, .inl gz))] sz)) 0 0 (va_A [(x, .inr (13, [.ref bk, .ref tp, .ref sh, .ref sc, .ref he, .ref of])), (sc, .inr (9, [.ref bk, .ref sh, .int 0, .ref spl, .ref spo, .ref sou, .ref ssc, .ref sto, .ref smi, .ref sth])), (bk, .inr (1, [.int 0, .int 0, .int 0, .ref lc, .ref lr, .ref la, .ref le, .ref lw, .ref lp, .ref ltr, .ref stk])), (la, .inr (0, [.int 0, .ref ed, .int 0])), (lr, .inr (0, [.int 0, .ref ed, .int 0])), (ltr, .inl (cI, 14, .inl gt)), (ssc, .inl (cZ, 16, .inl gz))] sz) := by
  refine Met.ofW (cc := cX12_ranked) (maxL := 3) (ret := (some .int)) (by decide) rfl ?_
  intro p e s m args below meth c s₁ B hml hv
  obtain ⟨rfl, hsz, hP, hK, hD0, hN⟩ := hv
  have hx := B.exec
  have hb := B.bytes
  have hr := B.returns
  have hts := atoms_spec (ws := v_c_ranked) B.pre
  have hown : s.vm.findClass RX12 = some m.cls := findClass_of_methodNamed B.named
  have hlocks := B.notSynchronized
  subst hsz
  have hD := hD0.self (sz := s.heap.size)
  generalize hAe : va_A [(x, .inr (13, [.ref bk, .ref tp, .ref sh, .ref sc, .ref he, .ref of])), (sc, .inr (9, [.ref bk, .ref sh, .int 0, .ref spl, .ref spo, .ref sou, .ref ssc, .ref sto, .ref smi, .ref sth])), (bk, .inr (1, [.int 0, .int 0, .int 0, .ref lc, .ref lr, .ref la, .ref le, .ref lw, .ref lp, .ref ltr, .ref stk])), (la, .inr (0, [.int 0, .ref ed, .int 0])), (lr, .inr (0, [.int 0, .ref ed, .int 0])), (ltr, .inl (cI, 14, .inl gt)), (ssc, .inl (cZ, 16, .inl gz))] s.heap.size = A at hD ⊢
  have hA : ∀ q : Nat, s.heap.size ≤ q → A q := fun q h => by rw [← hAe]; exact Or.inr h
  have hS : va_S A s.heap s.heap [] := va_S.rf
  have hP : va_P (dC, dI) vwCl [(x, .inr (13, [.ref bk, .ref tp, .ref sh, .ref sc, .ref he, .ref of])), (sc, .inr (9, [.ref bk, .ref sh, .int 0, .ref spl, .ref spo, .ref sou, .ref ssc, .ref sto, .ref smi, .ref sth])), (bk, .inr (1, [.int 0, .int 0, .int 0, .ref lc, .ref lr, .ref la, .ref le, .ref lw, .ref lp, .ref ltr, .ref stk])), (la, .inr (0, [.int 0, .ref ed, .int 0])), (lr, .inr (0, [.int 0, .ref ed, .int 0])), (ltr, .inl (cI, 14, .inl gt)), (ssc, .inl (cZ, 16, .inl gz))] s.heap := hP
  have hl := lv_entry ([.ref x, .int a0, .int q]) (n := 3) (Nat.le_of_ble_eq_true rfl)
  rw [lg_entry_eq]
  generalize (lg_sl ([.ref x, .int a0, .int q]) ++ List.replicate (3 - (lg_sl ([.ref x, .int a0, .int q])).length) Slot.unset).toArray = ls at hl ⊢
  have hl : lv_has ls 3 [(0, .ref x), (1, .int a0), (2, .int q)] := hl
  refine lv_iload_n hx hb dX12_ranked_0 rfl (lv_at hl 1 rfl) ?_
  refine lv_iconst (v := 0) hx hb dX12_ranked_1 (by decide) ?_
  refine lv_bipush (v := 15) hx hb dX12_ranked_2 (by decide) ?_
  refine va_calli (va_runS (As := [.int a0, .int 0, .int 15]) (rest := []) ⟨hx, hb, hml, hown, hts⟩ (c_within l a0 (0) (15)) (va_cwS 3 hts g_c_ranked_c_within_59 rfl rfl rfl (by decide +kernel) ⟨Nat.le_of_ble_eq_true rfl, Nat.le_of_ble_eq_true rfl⟩) ⟨fun _ _ _ _ q => q, fun _ _ _ => ⟨rfl, trivial⟩⟩ rfl rfl hl.1 rfl (lv_room (Nat.le_of_ble_eq_true rfl)) dX12_ranked_4 ⟨Nat.le_of_ble_eq_true rfl, Nat.le_of_ble_eq_true rfl⟩) hS (fun _ _ h => h.elim) (fun _ h => h.elim) (fun r1 u2 t H1 locs ht hvm hw hB hz1 hk1 hS => ?_)
  have hP := ub_keep hP hk1
  generalize H1 = H at hP hS ⊢
  rcases hw with ⟨rfl, hw1, hw2⟩ | ⟨rfl, hw1⟩
  · --in
    have d3a := hw1
    have d3b := hw2
    refine lv_if_eq (tgt := 21) hx hb dX12_ranked_7 (by decide) (fun c4 => by first | exact absurd c4 (by decide) | exact absurd (by decide) c4) (fun c4 => ?_)
    refine lv_aload_n hx hb dX12_ranked_10 rfl (lv_at hl 0 rfl) ?_
    refine va_get (D := (dC, dI)) (ci := 13) (v := .ref bk) (C := RX12) (T := TX12) (N := 6) hx hb hts iw_c_ranked_X12 hown hK hP 0 rfl rfl 0 (by decide) (hts (.fieldLink RX12 10 "UnlikeBoats" "book" "LUnlikeBoats$Book;") (List.mem_of_getElem? (i := 4) rfl)) (fun _ h9 => h9) rfl dX12_ranked_11 ?_
    refine lv_iload_n hx hb dX12_ranked_14 rfl (lv_at hl 2 rfl) ?_
    have hPc := hP.sub (ws' := [(bk, .inr (1, [.int 0, .int 0, .int 0, .ref lc, .ref lr, .ref la, .ref le, .ref lw, .ref lp, .ref ltr, .ref stk]))]) [2] rfl
    have hKc := hK.sub (tys' := []) [] rfl
    refine va_calli (va_runV (As := [.int q]) (rest := []) ⟨hx, hb, hml, hown, hts⟩ (c_isKnown l dC dI bk lc lr la le lw lp ltr stk q) (cwV 1 hts g_c_ranked_c_isKnown_92 rfl rfl rfl (by decide +kernel) ⟨Nat.le_of_ble_eq_true rfl, Nat.le_of_ble_eq_true rfl⟩) ⟨fun a U g mk q => by obtain ⟨e0, qP, qK, qN⟩ := q; exact ⟨e0, qP, va_K.moved (u := U) (U := U.calling g mk a) (Vm.Alike.refl U.vm) qK, ub_NX_c qN⟩, va_recv hK hP (ci := 1) (q0 := 2) rfl rfl, fun U hU hW => ⟨rfl, by rw [hU]; exact hPc, va_K.moved hW.alike hKc, ub_NX_w hW hN⟩⟩ rfl rfl hl.1 rfl (lv_room (Nat.le_of_ble_eq_true rfl)) dX12_ranked_15 ⟨Nat.le_of_ble_eq_true rfl, Nat.le_of_ble_eq_true rfl⟩) hS (fun _ _ h => h.elim) (fun _ h => h.elim) (fun r5 u6 t H1 locs ht hvm hw hB hz1 hk1 hS => ?_)
    have hP := ub_keep hP hk1
    generalize H1 = H at hP hS ⊢
    rcases hw with ⟨rfl, hw1, hw2⟩ | ⟨rfl, hw1⟩
    · --in
      have d7a := hw1
      have d7b := hw2
      refine lv_if_ne (tgt := 23) hx hb dX12_ranked_18 (by decide) (fun c8 => ?_) (fun c8 => by first | exact absurd c8 (by decide) | exact absurd (by decide) c8)
      refine lv_aload_n hx hb dX12_ranked_23 rfl (lv_at hl 0 rfl) ?_
      refine va_get (D := (dC, dI)) (ci := 13) (v := .ref sc) (C := RX12) (T := TX12) (N := 6) hx hb hts iw_c_ranked_X12 hown hK hP 0 rfl rfl 3 (by decide) (hts (.fieldLink RX12 37 "UnlikeBoats" "scores" "LUnlikeBoats$Scores;") (List.mem_of_getElem? (i := 9) rfl)) (fun _ h9 => h9) rfl dX12_ranked_24 ?_
      refine lv_iload_n hx hb dX12_ranked_27 rfl (lv_at hl 2 rfl) ?_
      have hPc := hP.sub (ws' := [(sc, .inr (9, [.ref bk, .ref sh, .int 0, .ref spl, .ref spo, .ref sou, .ref ssc, .ref sto, .ref smi, .ref sth])), (bk, .inr (1, [.int 0, .int 0, .int 0, .ref lc, .ref lr, .ref la, .ref le, .ref lw, .ref lp, .ref ltr, .ref stk])), (la, .inr (0, [.int 0, .ref ed, .int 0])), (lr, .inr (0, [.int 0, .ref ed, .int 0])), (ltr, .inl (cI, 14, .inl gt)), (ssc, .inl (cZ, 16, .inl gz))]) [1, 2, 3, 4, 5, 6] rfl
      have hKc := hK.sub (tys' := [(cI, .int), (cZ, .boolean)]) [0, 1] rfl
      have hDc := hD.sub (ws' := [(sc, .inr (9, [.ref bk, .ref sh, .int 0, .ref spl, .ref spo, .ref sou, .ref ssc, .ref sto, .ref smi, .ref sth])), (bk, .inr (1, [.int 0, .int 0, .int 0, .ref lc, .ref lr, .ref la, .ref le, .ref lw, .ref lp, .ref ltr, .ref stk])), (la, .inr (0, [.int 0, .ref ed, .int 0])), (lr, .inr (0, [.int 0, .ref ed, .int 0])), (ltr, .inl (cI, 14, .inl gt)), (ssc, .inl (cZ, 16, .inl gz))]) [1, 2, 3, 4, 5, 6] (by decide) rfl
      have hFc := va_free (wc := [(sc, .inr (9, [.ref bk, .ref sh, .int 0, .ref spl, .ref spo, .ref sou, .ref ssc, .ref sto, .ref smi, .ref sth])), (bk, .inr (1, [.int 0, .int 0, .int 0, .ref lc, .ref lr, .ref la, .ref le, .ref lw, .ref lp, .ref ltr, .ref stk])), (la, .inr (0, [.int 0, .ref ed, .int 0])), (lr, .inr (0, [.int 0, .ref ed, .int 0])), (ltr, .inl (cI, 14, .inl gt)), (ssc, .inl (cZ, 16, .inl gz))]) hD hS hA [1, 2, 3, 4, 5, 6] rfl
      refine va_callv (va_runV (As := [.int q]) (rest := []) ⟨hx, hb, hml, hown, hts⟩ (c_tally l dC dI sc bk sh spl spo sou ssc sto smi sth lc lr la le lw lp ltr stk ed cI gt cZ gz q H.size) (cwV 1 hts g_c_ranked_c_tally_189 rfl rfl rfl (by decide +kernel) ⟨Nat.le_of_ble_eq_true rfl, Nat.le_of_ble_eq_true rfl⟩) ⟨fun a U g mk q => by obtain ⟨e0, e1, qP, qK, qD, qN⟩ := q; exact ⟨e0, e1, qP, va_K.moved (u := U) (U := U.calling g mk a) (Vm.Alike.refl U.vm) qK, qD, ub_NX_c qN⟩, va_recv hK hP (ci := 9) (q0 := 1) rfl rfl, fun U hU hW => ⟨rfl, by rw [hU], by rw [hU]; exact hPc, va_K.moved hW.alike hKc, hDc.weaken (fun _ _ _ _ => trivial), ub_NX_w hW hN⟩⟩ rfl rfl hl.1 rfl (lv_room (Nat.le_of_ble_eq_true rfl)) dX12_ranked_28 ⟨Nat.le_of_ble_eq_true rfl, Nat.le_of_ble_eq_true rfl⟩) hS (fun q _ h => hFc q h) hFc (fun u10 t H1 locs ht hvm hw hB hz1 hk1 hS => ?_)
      obtain ⟨hP1, hK1, hD1⟩ := hB
      rw [ht] at hP1
      obtain ⟨hP, hD⟩ := va_join (wr := [(x, .inr (13, [.ref bk, .ref tp, .ref sh, .ref sc, .ref he, .ref of]))]) (w1 := [(sc, .inr (9, [.ref bk, .ref sh, .int 0, .ref spl, .ref spo, .ref sou, .ref ssc, .ref sto, .ref smi, .ref sth])), (bk, .inr (1, [.int 0, .int 0, .int 0, .ref lc, .ref lr, .ref la, .ref le, .ref lw, .ref lp, .ref ltr, .ref stk])), (la, .inr (0, [.int 0, .ref ed, .int 0])), (lr, .inr (0, [.int 0, .ref ed, .int 0])), (ltr, .inl (cI, 14, .inl u10.1)), (ssc, .inl (cZ, 16, .inl u10.2))]) hP hD [1, 2, 3, 4, 5, 6] [0] rfl rfl (by decide) (by decide) hk1 hFc hP1 hD1
      have hK1 := va_K.moved hvm.symm hK1
      have hK := hK.app hK1
      have hK : va_K (dC, dI) vwCl [(cI, .int), (cZ, .boolean), (cI, .int), (cZ, .boolean)] s := hK
      generalize H1 = H at hP hS ⊢
      have hP : va_P (dC, dI) vwCl [(x, .inr (13, [.ref bk, .ref tp, .ref sh, .ref sc, .ref he, .ref of])), (sc, .inr (9, [.ref bk, .ref sh, .int 0, .ref spl, .ref spo, .ref sou, .ref ssc, .ref sto, .ref smi, .ref sth])), (bk, .inr (1, [.int 0, .int 0, .int 0, .ref lc, .ref lr, .ref la, .ref le, .ref lw, .ref lp, .ref ltr, .ref stk])), (la, .inr (0, [.int 0, .ref ed, .int 0])), (lr, .inr (0, [.int 0, .ref ed, .int 0])), (ltr, .inl (cI, 14, .inl u10.1)), (ssc, .inl (cZ, 16, .inl u10.2))] H := hP
      have hD : va_D A [(x, .inr (13, [.ref bk, .ref tp, .ref sh, .ref sc, .ref he, .ref of])), (sc, .inr (9, [.ref bk, .ref sh, .int 0, .ref spl, .ref spo, .ref sou, .ref ssc, .ref sto, .ref smi, .ref sth])), (bk, .inr (1, [.int 0, .int 0, .int 0, .ref lc, .ref lr, .ref la, .ref le, .ref lw, .ref lp, .ref ltr, .ref stk])), (la, .inr (0, [.int 0, .ref ed, .int 0])), (lr, .inr (0, [.int 0, .ref ed, .int 0])), (ltr, .inl (cI, 14, .inl u10.1)), (ssc, .inl (cZ, 16, .inl u10.2))] := hD
      have hK := hK.sub (tys' := [(cI, .int), (cZ, .boolean), (cZ, .boolean)]) [0, 1, 3] rfl
      have hK := hK.sub (tys' := [(cI, .int), (cZ, .boolean)]) [0, 1] rfl
      refine W.widen (k := 0) (n := 0) (by omega) (by omega) ?_
      refine lv_aload_n hx hb dX12_ranked_31 rfl (lv_at hl 0 rfl) ?_
      refine va_get (D := (dC, dI)) (ci := 13) (v := .ref sc) (C := RX12) (T := TX12) (N := 6) hx hb hts iw_c_ranked_X12 hown hK hP 0 rfl rfl 3 (by decide) (hts (.fieldLink RX12 37 "UnlikeBoats" "scores" "LUnlikeBoats$Scores;") (List.mem_of_getElem? (i := 9) rfl)) (fun _ h9 => h9) rfl dX12_ranked_32 ?_
      refine lv_iload_n hx hb dX12_ranked_35 rfl (lv_at hl 1 rfl) ?_
      have hPc := hP.sub (ws' := [(sc, .inr (9, [.ref bk, .ref sh, .int 0, .ref spl, .ref spo, .ref sou, .ref ssc, .ref sto, .ref smi, .ref sth])), (bk, .inr (1, [.int 0, .int 0, .int 0, .ref lc, .ref lr, .ref la, .ref le, .ref lw, .ref lp, .ref ltr, .ref stk]))]) [1, 2] rfl
      have hKc := hK.sub (tys' := []) [] rfl
      refine va_calli (va_runV (As := [.int a0]) (rest := []) ⟨hx, hb, hml, hown, hts⟩ (c_boatAt0 l dC dI sc bk sh spl spo sou ssc sto smi sth lc lr la le lw lp ltr stk a0) (cwV 1 hts g_c_ranked_c_boatAt0_205 rfl rfl rfl (by decide +kernel) ⟨Nat.le_of_ble_eq_true rfl, Nat.le_of_ble_eq_true rfl⟩) ⟨fun a U g mk q => by obtain ⟨e0, qP, qK⟩ := q; exact ⟨e0, qP, va_K.moved (u := U) (U := U.calling g mk a) (Vm.Alike.refl U.vm) qK⟩, va_recv hK hP (ci := 9) (q0 := 1) rfl rfl, fun U hU hW => ⟨rfl, by rw [hU]; exact hPc, va_K.moved hW.alike hKc⟩⟩ rfl rfl hl.1 rfl (lv_room (Nat.le_of_ble_eq_true rfl)) dX12_ranked_36 ⟨Nat.le_of_ble_eq_true rfl, Nat.le_of_ble_eq_true rfl⟩) hS (fun _ _ h => h.elim) (fun _ h => h.elim) (fun r11 u12 t H1 locs ht hvm hw hB hz1 hk1 hS => ?_)
      have hP := ub_keep hP hk1
      generalize H1 = H at hP hS ⊢
      obtain rfl : (-1 : Int32) = r11 := hw.symm
      exact W.iret (v := (-1)) hx hb hr (fun t ht hW => ⟨⟨(-1), (), rfl, rfl, trivial⟩, hS.F ht⟩) hS.2.2 dX12_ranked_39
    · --out
      have d13 := hw1
      refine lv_if_ne (tgt := 23) hx hb dX12_ranked_18 (by decide) (fun c14 => by first | exact absurd c14 (by decide) | exact absurd (by decide) c14) (fun c14 => ?_)
      refine lv_iconst (v := -1) hx hb dX12_ranked_21 (by decide) ?_
      exact W.iret (v := (-1)) hx hb hr (fun t ht hW => ⟨⟨(-1), (), rfl, rfl, trivial⟩, hS.F ht⟩) hS.2.2 dX12_ranked_22
  · --out
    have d15 := hw1
    refine lv_if_eq (tgt := 21) hx hb dX12_ranked_7 (by decide) (fun c16 => ?_) (fun c16 => by first | exact absurd c16 (by decide) | exact absurd (by decide) c16)
    refine lv_iconst (v := -1) hx hb dX12_ranked_21 (by decide) ?_
    exact W.iret (v := (-1)) hx hb hr (fun t ht hW => ⟨⟨(-1), (), rfl, rfl, trivial⟩, hS.F ht⟩) hS.2.2 dX12_ranked_22
def A_c_markCertified : List Cond := [.fieldLink RX3 52 "UnlikeBoats$Office" "weights" "[I", .methodLink RX3 164 yJ7_fill_53178, .static yJ7_fill_53178, .initialized RJ7, .fieldLink RX3 55 "UnlikeBoats$Office" "book" "LUnlikeBoats$Book;", .fieldLink RX3 170 "UnlikeBoats$Book" "certificates" "Ljava/util/ArrayList;", .methodLink RX3 69 yJx4a65c_size_8abf5, .instanceMethod yJx4a65c_size_8abf5, .selects RJx4a65c yJx4a65c_size_8abf5 yJx4a65c_size_8abf5, .initialized RJx4a65c, .code yJ7_fill_53178 cJ7_fill_53178 4 none, .code yJx4a65c_size_8abf5 cJx4a65c_size_8abf5 1 (some .int), .fieldLink RJx4a65c 48 "java/util/ArrayList" "size" "I"]
def v_c_markCertified : List Cond := .code yX3_markCertified cX3_markCertified 3 (some .int) :: (A_c_markCertified ++ wsX30 ++ wsX00 ++ wsJx4a65c0)
theorem iw_c_markCertified_X3 : ∀ w ∈ wsX30, w ∈ v_c_markCertified := fun _ h => List.mem_cons_of_mem _ (List.mem_append_left _ (List.mem_append_left _ (List.mem_append_right _ (h))))
theorem iw_c_markCertified_X0 : ∀ w ∈ wsX00, w ∈ v_c_markCertified := fun _ h => List.mem_cons_of_mem _ (List.mem_append_left _ (List.mem_append_right _ (h)))
theorem iw_c_markCertified_Jx4a65c : ∀ w ∈ wsJx4a65c0, w ∈ v_c_markCertified := fun _ h => List.mem_cons_of_mem _ (List.mem_append_right _ (h))
theorem gb_c_markCertified_c_fill0 : GoodIn v_c_markCertified (.code yJ7_fill_53178 cJ7_fill_53178 4 none :: A_c_fill) := (List.forall_mem_cons.mpr ⟨⟨List.mem_of_getElem? (i := 11) rfl, good_of_word rfl⟩, (fun _ h => nomatch h)⟩)
theorem gb_c_markCertified_c_fill : GoodIn v_c_markCertified v_c_fill := gb_c_markCertified_c_fill0
theorem g_c_markCertified_c_fill_164 : GoodIn v_c_markCertified (va_wsS RX3 164 yJ7_fill_53178 v_c_fill) := goodIn_app (List.forall_mem_cons.mpr ⟨⟨List.mem_of_getElem? (i := 2) rfl, good_of_word rfl⟩, (List.forall_mem_cons.mpr ⟨⟨List.mem_of_getElem? (i := 3) rfl, good_of_word rfl⟩, (List.forall_mem_cons.mpr ⟨⟨List.mem_of_getElem? (i := 4) rfl, good_of_word rfl⟩, (fun _ h => nomatch h)⟩)⟩)⟩) gb_c_markCertified_c_fill
theorem gb_c_markCertified_c_size0 : GoodIn v_c_markCertified (.code yJx4a65c_size_8abf5 cJx4a65c_size_8abf5 1 (some .int) :: A_c_size) := (List.forall_mem_cons.mpr ⟨⟨List.mem_of_getElem? (i := 12) rfl, good_of_word rfl⟩, (List.forall_mem_cons.mpr ⟨⟨List.mem_of_getElem? (i := 13) rfl, good_of_word rfl⟩, (fun _ h => nomatch h)⟩)⟩)
theorem gb_c_markCertified_c_size : GoodIn v_c_markCertified v_c_size := (goodIn_ca gb_c_markCertified_c_size0 (goodIn_sub iw_c_markCertified_Jx4a65c gw_Jx4a65c))
theorem g_c_markCertified_c_size_69 : GoodIn v_c_markCertified (wsV RX3 69 RJx4a65c yJx4a65c_size_8abf5 v_c_size) := goodIn_app (List.forall_mem_cons.mpr ⟨⟨List.mem_of_getElem? (i := 7) rfl, good_of_word rfl⟩, (List.forall_mem_cons.mpr ⟨⟨List.mem_of_getElem? (i := 8) rfl, good_of_word rfl⟩, (List.forall_mem_cons.mpr ⟨⟨List.mem_of_getElem? (i := 9) rfl, good_of_word rfl⟩, (List.forall_mem_cons.mpr ⟨⟨List.mem_of_getElem? (i := 10) rfl, good_of_word rfl⟩, (fun _ h => nomatch h)⟩)⟩)⟩)⟩) gb_c_markCertified_c_size
set_option maxHeartbeats 4000000 in
set_option maxRecDepth 100000 in
theorem c_markCertified (l : Launch) (dC : Nat → ClassId) (dI : Nat → Nat → Nat) (of : Nat) (bk : Nat) (sh : Nat) (o2 : Nat) (o3 : Nat) (o4 : Nat) (o5 : Nat) (o6 : Nat) (o7 : Nat) (o8 : Nat) (o9 : Nat) (o10 : Nat) (o11 : Nat) (o12 : Nat) (o13 : Nat) (o14 : Nat) (o17 : Nat) (lc : Nat) (lr : Nat) (la : Nat) (le : Nat) (lw : Nat) (lp : Nat) (ltr : Nat) (stk : Nat) (ed : Nat) (cI : ClassId) (gw : Nat → Int32) (sz : Nat)  : Met l yX3_markCertified v_c_markCertified ({ frames := 1, cells := 0, slots := 0, locals := 40 }) (va_Pc [.ref of] (fun U => U.heap.size = sz ∧ va_P (dC, dI) vwCl [(of, .inr (4, [.ref bk, .ref sh, .ref o2, .ref o3, .ref o4, .ref o5, .ref o6, .ref o7, .ref o8, .ref o9, .ref o10, .ref o11, .ref o12, .ref o13, .ref o14, .int 0, .int 0, .ref o17])), (bk, .inr (1, [.int 0, .int 0, .int 0, .ref lc, .ref lr, .ref la, .ref le, .ref lw, .ref lp, .ref ltr, .ref stk])), (lc, .inr (0, [.int 0, .ref ed, .int 0])), (o17, .inl (cI, 16, .inl gw))] U.heap ∧ va_K (dC, dI) vwCl [(cI, .int)] U ∧ va_D (fun _ => True) [(of, .inr (4, [.ref bk, .ref sh, .ref o2, .ref o3, .ref o4, .ref o5, .ref o6, .ref o7, .ref o8, .ref o9, .ref o10, .ref o11, .ref o12, .ref o13, .ref o14, .int 0, .int 0, .ref o17])), (bk, .inr (1, [.int 0, .int 0, .int 0, .ref lc, .ref lr, .ref la, .ref le, .ref lw, .ref lp, .ref ltr, .ref stk])), (lc, .inr (0, [.int 0, .ref ed, .int 0])), (o17, .inl (cI, 16, .inl gw))])) (va_Qi (S := Unit) (fun r _ => r = 0) (fun _ _ => True) (va_A [(of, .inr (4, [.ref bk, .ref sh, .ref o2, .ref o3, .ref o4, .ref o5, .ref o6, .ref o7, .ref o8, .ref o9, .ref o10, .ref o11, .ref o12, .ref o13, .ref o14, .int 0, .int 0, .ref o17])), (bk, .inr (1, [.int 0, .int 0, .int 0, .ref lc, .ref lr, .ref la, .ref le, .ref lw, .ref lp, .ref ltr, .ref stk])), (lc, .inr (0, [.int 0, .ref ed, .int 0])), (o17, .inl (cI, 16, .inl gw))] sz)) 0 0 (va_A [(of, .inr (4, [.ref bk, .ref sh, .ref o2, .ref o3, .ref o4, .ref o5, .ref o6, .ref o7, .ref o8, .ref o9, .ref o10, .ref o11, .ref o12, .ref o13, .ref o14, .int 0, .int 0, .ref o17])), (bk, .inr (1, [.int 0, .int 0, .int 0, .ref lc, .ref lr, .ref la, .ref le, .ref lw, .ref lp, .ref ltr, .ref stk])), (lc, .inr (0, [.int 0, .ref ed, .int 0])), (o17, .inl (cI, 16, .inl gw))] sz) := by
  refine Met.ofW (cc := cX3_markCertified) (maxL := 3) (ret := (some .int)) (by decide) rfl ?_
  intro p e s m args below meth c s₁ B hml hv
  obtain ⟨rfl, hsz, hP, hK, hD0⟩ := hv
  have hx := B.exec
  have hb := B.bytes
  have hr := B.returns
  have hts := atoms_spec (ws := v_c_markCertified) B.pre
  have hown : s.vm.findClass RX3 = some m.cls := findClass_of_methodNamed B.named
  have hlocks := B.notSynchronized
  subst hsz
  have hD := hD0.self (sz := s.heap.size)
  generalize hAe : va_A [(of, .inr (4, [.ref bk, .ref sh, .ref o2, .ref o3, .ref o4, .ref o5, .ref o6, .ref o7, .ref o8, .ref o9, .ref o10, .ref o11, .ref o12, .ref o13, .ref o14, .int 0, .int 0, .ref o17])), (bk, .inr (1, [.int 0, .int 0, .int 0, .ref lc, .ref lr, .ref la, .ref le, .ref lw, .ref lp, .ref ltr, .ref stk])), (lc, .inr (0, [.int 0, .ref ed, .int 0])), (o17, .inl (cI, 16, .inl gw))] s.heap.size = A at hD ⊢
  have hA : ∀ q : Nat, s.heap.size ≤ q → A q := fun q h => by rw [← hAe]; exact Or.inr h
  have hS : va_S A s.heap s.heap [] := va_S.rf
  have hP : va_P (dC, dI) vwCl [(of, .inr (4, [.ref bk, .ref sh, .ref o2, .ref o3, .ref o4, .ref o5, .ref o6, .ref o7, .ref o8, .ref o9, .ref o10, .ref o11, .ref o12, .ref o13, .ref o14, .int 0, .int 0, .ref o17])), (bk, .inr (1, [.int 0, .int 0, .int 0, .ref lc, .ref lr, .ref la, .ref le, .ref lw, .ref lp, .ref ltr, .ref stk])), (lc, .inr (0, [.int 0, .ref ed, .int 0])), (o17, .inl (cI, 16, .inl gw))] s.heap := hP
  have hl := lv_entry ([.ref of]) (n := 3) (Nat.le_of_ble_eq_true rfl)
  rw [lg_entry_eq]
  generalize (lg_sl ([.ref of]) ++ List.replicate (3 - (lg_sl ([.ref of])).length) Slot.unset).toArray = ls at hl ⊢
  have hl : lv_has ls 3 [(0, .ref of)] := hl
  refine lv_aload_n hx hb dX3_markCertified_0 rfl (lv_at hl 0 rfl) ?_
  refine va_get (D := (dC, dI)) (ci := 4) (v := .ref o17) (C := RX3) (T := TX3) (N := 18) hx hb hts iw_c_markCertified_X3 hown hK hP 0 rfl rfl 17 (by decide) (hts (.fieldLink RX3 52 "UnlikeBoats$Office" "weights" "[I") (List.mem_of_getElem? (i := 1) rfl)) (fun _ h9 => h9) rfl dX3_markCertified_1 ?_
  refine lv_iconst (v := 0) hx hb dX3_markCertified_4 (by decide) ?_
  have hPc := hP.sub (ws' := [(o17, .inl (cI, 16, .inl gw))]) [3] rfl
  have hKc := hK.sub (tys' := [(cI, .int)]) [0] rfl
  have hDc := hD.sub (ws' := [(o17, .inl (cI, 16, .inl gw))]) [3] (by decide) rfl
  have hFc := va_free (wc := [(o17, .inl (cI, 16, .inl gw))]) hD hS hA [3] rfl
  refine va_callv (va_runS (As := [.ref o17, .int 0]) (rest := []) ⟨hx, hb, hml, hown, hts⟩ (c_fill l dC dI o17 cI (16) gw (0) s.heap.size (by decide)) (va_cwS 2 hts g_c_markCertified_c_fill_164 rfl rfl rfl (by decide +kernel) ⟨Nat.le_of_ble_eq_true rfl, Nat.le_of_ble_eq_true rfl⟩) ⟨fun a U g mk q => by obtain ⟨e0, e1, qP, qK, qD⟩ := q; exact ⟨e0, e1, qP, va_K.moved (u := U) (U := U.calling g mk a) (Vm.Alike.refl U.vm) qK, qD⟩, fun U hU hW => ⟨rfl, by rw [hU], by rw [hU]; exact hPc, va_K.moved hW.alike hKc, hDc.weaken (fun _ _ _ _ => trivial)⟩⟩ rfl rfl hl.1 rfl (lv_room (Nat.le_of_ble_eq_true rfl)) dX3_markCertified_5 ⟨Nat.le_of_ble_eq_true rfl, Nat.le_of_ble_eq_true rfl⟩) hS (fun q _ h => hFc q h) hFc (fun u2 t H1 locs ht hvm hw hB hz1 hk1 hS => ?_)
  obtain ⟨hP1, hK1, hD1⟩ := hB
  rw [ht] at hP1
  obtain ⟨hP, hD⟩ := va_join (wr := [(of, .inr (4, [.ref bk, .ref sh, .ref o2, .ref o3, .ref o4, .ref o5, .ref o6, .ref o7, .ref o8, .ref o9, .ref o10, .ref o11, .ref o12, .ref o13, .ref o14, .int 0, .int 0, .ref o17])), (bk, .inr (1, [.int 0, .int 0, .int 0, .ref lc, .ref lr, .ref la, .ref le, .ref lw, .ref lp, .ref ltr, .ref stk])), (lc, .inr (0, [.int 0, .ref ed, .int 0]))]) (w1 := [(o17, .inl (cI, 16, .inl u2))]) hP hD [3] [0, 1, 2] rfl rfl (by decide) (by decide) hk1 hFc hP1 hD1
  have hK1 := va_K.moved hvm.symm hK1
  have hK := hK.app hK1
  have hK : va_K (dC, dI) vwCl [(cI, .int), (cI, .int)] s := hK
  generalize H1 = H at hP hS ⊢
  have hP : va_P (dC, dI) vwCl [(of, .inr (4, [.ref bk, .ref sh, .ref o2, .ref o3, .ref o4, .ref o5, .ref o6, .ref o7, .ref o8, .ref o9, .ref o10, .ref o11, .ref o12, .ref o13, .ref o14, .int 0, .int 0, .ref o17])), (bk, .inr (1, [.int 0, .int 0, .int 0, .ref lc, .ref lr, .ref la, .ref le, .ref lw, .ref lp, .ref ltr, .ref stk])), (lc, .inr (0, [.int 0, .ref ed, .int 0])), (o17, .inl (cI, 16, .inl u2))] H := hP
  have hD : va_D A [(of, .inr (4, [.ref bk, .ref sh, .ref o2, .ref o3, .ref o4, .ref o5, .ref o6, .ref o7, .ref o8, .ref o9, .ref o10, .ref o11, .ref o12, .ref o13, .ref o14, .int 0, .int 0, .ref o17])), (bk, .inr (1, [.int 0, .int 0, .int 0, .ref lc, .ref lr, .ref la, .ref le, .ref lw, .ref lp, .ref ltr, .ref stk])), (lc, .inr (0, [.int 0, .ref ed, .int 0])), (o17, .inl (cI, 16, .inl u2))] := hD
  have hK := hK.sub (tys' := [(cI, .int)]) [0] rfl
  refine W.widen (k := 0) (n := 0) (by omega) (by omega) ?_
  have hw_u2 := hw
  refine lv_iconst (v := 0) hx hb dX3_markCertified_8 (by decide) ?_
  refine lv_istore_n (lv' := [(1, .int 0), (0, .ref of)]) hx hb dX3_markCertified_9 rfl hl (by decide) rfl (fun ls hl => ?_)
  refine lv_iload_n hx hb dX3_markCertified_10 rfl (lv_at hl 0 rfl) ?_
  refine lv_aload_n hx hb dX3_markCertified_11 rfl (lv_at hl 1 rfl) ?_
  refine va_get (D := (dC, dI)) (ci := 4) (v := .ref bk) (C := RX3) (T := TX3) (N := 18) hx hb hts iw_c_markCertified_X3 hown hK hP 0 rfl rfl 0 (by decide) (hts (.fieldLink RX3 55 "UnlikeBoats$Office" "book" "LUnlikeBoats$Book;") (List.mem_of_getElem? (i := 5) rfl)) (fun _ h9 => h9) rfl dX3_markCertified_12 ?_
  refine va_get (D := (dC, dI)) (ci := 1) (v := .ref lc) (C := RX0) (T := TX0) (N := 11) hx hb hts iw_c_markCertified_X0 hown hK hP 1 rfl rfl 3 (by decide) (hts (.fieldLink RX3 170 "UnlikeBoats$Book" "certificates" "Ljava/util/ArrayList;") (List.mem_of_getElem? (i := 6) rfl)) (fun _ h9 => h9) rfl dX3_markCertified_15 ?_
  have hPc := hP.sub (ws' := [(lc, .inr (0, [.int 0, .ref ed, .int 0]))]) [2] rfl
  have hKc := hK.sub (tys' := []) [] rfl
  refine va_calli (va_runV (As := []) (rest := [.int 0]) ⟨hx, hb, hml, hown, hts⟩ (c_size l dC dI lc (0) ed (0)) (cwV 0 hts g_c_markCertified_c_size_69 rfl rfl rfl (by decide +kernel) ⟨Nat.le_of_ble_eq_true rfl, Nat.le_of_ble_eq_true rfl⟩) ⟨fun a U g mk q => by obtain ⟨e0, qP, qK⟩ := q; exact ⟨e0, qP, va_K.moved (u := U) (U := U.calling g mk a) (Vm.Alike.refl U.vm) qK⟩, va_recv hK hP (ci := 0) (q0 := 2) rfl rfl, fun U hU hW => ⟨rfl, by rw [hU]; exact hPc, va_K.moved hW.alike hKc⟩⟩ rfl rfl hl.1 rfl (lv_room (Nat.le_of_ble_eq_true rfl)) dX3_markCertified_18 ⟨Nat.le_of_ble_eq_true rfl, Nat.le_of_ble_eq_true rfl⟩) hS (fun _ _ h => h.elim) (fun _ h => h.elim) (fun r3 u4 t H1 locs ht hvm hw hB hz1 hk1 hS => ?_)
  have hP := ub_keep hP hk1
  generalize H1 = H at hP hS ⊢
  obtain rfl : (0 : Int32) = r3 := hw.symm
  refine lv_icmp_ge (tgt := 53) hx hb dX3_markCertified_21 (by decide) (fun c5 => ?_) (fun c5 => by first | exact absurd c5 (by decide) | exact absurd (by decide) c5)
  refine lv_iconst (v := 0) hx hb dX3_markCertified_53 (by decide) ?_
  refine lv_istore_n (lv' := [(1, .int 0), (0, .ref of)]) hx hb dX3_markCertified_54 rfl hl (by decide) rfl (fun ls hl => ?_)
  refine lv_iconst (v := 0) hx hb dX3_markCertified_55 (by decide) ?_
  refine lv_istore_n (lv' := [(2, .int 0), (1, .int 0), (0, .ref of)]) hx hb dX3_markCertified_56 rfl hl (by decide) rfl (fun ls hl => ?_)
  have hLp : ∀ (d i : Nat)  (H : Heap) (locs : List Loc) (ls : Array Slot), i + d = 16 → va_P (dC, dI) vwCl [(of, .inr (4, [.ref bk, .ref sh, .ref o2, .ref o3, .ref o4, .ref o5, .ref o6, .ref o7, .ref o8, .ref o9, .ref o10, .ref o11, .ref o12, .ref o13, .ref o14, .int 0, .int 0, .ref o17])), (bk, .inr (1, [.int 0, .int 0, .int 0, .ref lc, .ref lr, .ref la, .ref le, .ref lw, .ref lp, .ref ltr, .ref stk])), (lc, .inr (0, [.int 0, .ref ed, .int 0])), (o17, .inl (cI, 16, .inl u2))] H → va_D A [(of, .inr (4, [.ref bk, .ref sh, .ref o2, .ref o3, .ref o4, .ref o5, .ref o6, .ref o7, .ref o8, .ref o9, .ref o10, .ref o11, .ref o12, .ref o13, .ref o14, .int 0, .int 0, .ref o17])), (bk, .inr (1, [.int 0, .int 0, .int 0, .ref lc, .ref lr, .ref la, .ref le, .ref lw, .ref lp, .ref ltr, .ref stk])), (lc, .inr (0, [.int 0, .ref ed, .int 0])), (o17, .inl (cI, 16, .inl u2))] → va_S A s.heap H locs → lv_has ls 3 [(2, .int (nI i)), (1, .int 0), (0, .ref of)] → W p l e (headSpec v_c_markCertified ({ frames := 1, cells := 0, slots := 0, locals := 40 })).room s m ([.ref of] : List Value).toArray below meth c H locs 0 0 (MQ below (va_Qi (S := Unit) (fun r _ => r = 0) (fun _ _ => True) (A)) ([.ref of] : List Value).toArray s 0 0 (A)) (F0 m 57 ls []) := by
    intro d
    induction d with
    | zero =>
      intro i  H locs ls hi  hP hD hS hl
      refine lv_iload_n hx hb dX3_markCertified_57 rfl (lv_at hl 0 rfl) ?_
      refine lv_bipush (v := 16) hx hb dX3_markCertified_58 (by decide) ?_
      refine lv_icmp_ge (tgt := 78) hx hb dX3_markCertified_60 (by decide) (fun c6 => ?_) (fun c6 => by first | exact absurd c6 (nI_le (a := 16) (b := i) (by omega) (by omega)) | exact absurd (nI_le (a := 16) (b := i) (by omega) (by omega)) c6)
      refine lv_iload_n hx hb dX3_markCertified_78 rfl (lv_at hl 1 rfl) ?_
      exact W.iret (v := (0)) hx hb hr (fun t ht hW => ⟨⟨(0), (), rfl, rfl, trivial⟩, hS.F ht⟩) hS.2.2 dX3_markCertified_79
    | succ d ih =>
      intro i  H locs ls hi  hP hD hS hl
      refine lv_iload_n hx hb dX3_markCertified_57 rfl (lv_at hl 0 rfl) ?_
      refine lv_bipush (v := 16) hx hb dX3_markCertified_58 (by decide) ?_
      refine lv_icmp_ge (tgt := 78) hx hb dX3_markCertified_60 (by decide) (fun c7 => by first | exact absurd c7 (nI_ge (a := i) (b := 16) (by omega) (by omega)) | exact absurd (nI_ge (a := i) (b := 16) (by omega) (by omega)) c7) (fun c7 => ?_)
      refine lv_iload_n hx hb dX3_markCertified_63 rfl (lv_at hl 1 rfl) ?_
      refine lv_aload_n hx hb dX3_markCertified_64 rfl (lv_at hl 2 rfl) ?_
      refine va_get (D := (dC, dI)) (ci := 4) (v := .ref o17) (C := RX3) (T := TX3) (N := 18) hx hb hts iw_c_markCertified_X3 hown hK hP 0 rfl rfl 17 (by decide) (hts (.fieldLink RX3 52 "UnlikeBoats$Office" "weights" "[I") (List.mem_of_getElem? (i := 1) rfl)) (fun _ h9 => h9) rfl dX3_markCertified_65 ?_
      refine lv_iload_n hx hb dX3_markCertified_68 rfl (lv_at hl 0 rfl) ?_
      refine va_iald hx hb hK hP 3 0 rfl rfl (vp_in_nI (n := i) (N := 16) (by omega) (by omega)) dX3_markCertified_69 ?_
      refine lv_topi (fun y8 ey8 => ?_)
      obtain rfl : (0 : Int32) = y8 := (ey8.trans (by rw [nI_clamp (by omega)]; exact hw_u2 i (by omega))).symm
      refine lv_iadd hx hb dX3_markCertified_70 ?_
      refine lv_topi (fun y9 ey9 => ?_)
      obtain rfl : (0 : Int32) = y9 := (ey9.trans (by decide)).symm
      refine lv_istore_n (lv' := [(1, .int 0), (2, .int (nI i)), (0, .ref of)]) hx hb dX3_markCertified_71 rfl hl (by decide) rfl (fun ls hl => ?_)
      refine lv_iinc (v := nI (i + 1)) (lv' := [(2, .int (nI (i + 1))), (1, .int 0), (0, .ref of)]) hx hb dX3_markCertified_72 hl (k := 1) rfl (nI_1 _) (by decide) rfl (fun ls hl => ?_)
      refine lv_goto (tgt := 57) hx hb dX3_markCertified_75 (by decide) ?_
      exact ih (i + 1)  _ _ ls (by omega)  hP hD hS (lv_sub hl [0, 1, 2] rfl)
  exact hLp 16 0  _ _ ls (by omega)  hP hD hS (lv_sub hl [0, 1, 2] rfl)
def A_c_draw : List Cond := [.fieldLink RX12 51 "UnlikeBoats" "office" "LUnlikeBoats$Office;", .methodLink RX12 282 yX3_markCertified, .instanceMethod yX3_markCertified, .selects RX3 yX3_markCertified yX3_markCertified, .initialized RX3, .code yX3_markCertified cX3_markCertified 3 (some .int), .fieldLink RX3 52 "UnlikeBoats$Office" "weights" "[I", .methodLink RX3 164 yJ7_fill_53178, .static yJ7_fill_53178, .initialized RJ7, .fieldLink RX3 55 "UnlikeBoats$Office" "book" "LUnlikeBoats$Book;", .fieldLink RX3 170 "UnlikeBoats$Book" "certificates" "Ljava/util/ArrayList;", .methodLink RX3 69 yJx4a65c_size_8abf5, .instanceMethod yJx4a65c_size_8abf5, .selects RJx4a65c yJx4a65c_size_8abf5 yJx4a65c_size_8abf5, .initialized RJx4a65c, .code yJ7_fill_53178 cJ7_fill_53178 4 none, .code yJx4a65c_size_8abf5 cJx4a65c_size_8abf5 1 (some .int), .fieldLink RJx4a65c 48 "java/util/ArrayList" "size" "I"]
def v_c_draw : List Cond := .code yX12_draw cX12_draw 4 (some .int) :: (A_c_draw ++ wsX120 ++ wsX30 ++ wsX00 ++ wsJx4a65c0)
theorem iw_c_draw_X12 : ∀ w ∈ wsX120, w ∈ v_c_draw := fun _ h => List.mem_cons_of_mem _ (List.mem_append_left _ (List.mem_append_left _ (List.mem_append_left _ (List.mem_append_right _ (h)))))
theorem iw_c_draw_X3 : ∀ w ∈ wsX30, w ∈ v_c_draw := fun _ h => List.mem_cons_of_mem _ (List.mem_append_left _ (List.mem_append_left _ (List.mem_append_right _ (h))))
theorem iw_c_draw_X0 : ∀ w ∈ wsX00, w ∈ v_c_draw := fun _ h => List.mem_cons_of_mem _ (List.mem_append_left _ (List.mem_append_right _ (h)))
theorem iw_c_draw_Jx4a65c : ∀ w ∈ wsJx4a65c0, w ∈ v_c_draw := fun _ h => List.mem_cons_of_mem _ (List.mem_append_right _ (h))
theorem gb_c_draw_c_markCertified0 : GoodIn v_c_draw (.code yX3_markCertified cX3_markCertified 3 (some .int) :: A_c_markCertified) := (List.forall_mem_cons.mpr ⟨⟨List.mem_of_getElem? (i := 6) rfl, good_of_word rfl⟩, (List.forall_mem_cons.mpr ⟨⟨List.mem_of_getElem? (i := 7) rfl, good_of_word rfl⟩, (List.forall_mem_cons.mpr ⟨⟨List.mem_of_getElem? (i := 8) rfl, good_of_word rfl⟩, (List.forall_mem_cons.mpr ⟨⟨List.mem_of_getElem? (i := 9) rfl, good_of_word rfl⟩, (List.forall_mem_cons.mpr ⟨⟨List.mem_of_getElem? (i := 10) rfl, good_of_word rfl⟩, (List.forall_mem_cons.mpr ⟨⟨List.mem_of_getElem? (i := 11) rfl, good_of_word rfl⟩, (List.forall_mem_cons.mpr ⟨⟨List.mem_of_getElem? (i := 12) rfl, good_of_word rfl⟩, (List.forall_mem_cons.mpr ⟨⟨List.mem_of_getElem? (i := 13) rfl, good_of_word rfl⟩, (List.forall_mem_cons.mpr ⟨⟨List.mem_of_getElem? (i := 14) rfl, good_of_word rfl⟩, (List.forall_mem_cons.mpr ⟨⟨List.mem_of_getElem? (i := 15) rfl, good_of_word rfl⟩, (List.forall_mem_cons.mpr ⟨⟨List.mem_of_getElem? (i := 16) rfl, good_of_word rfl⟩, (List.forall_mem_cons.mpr ⟨⟨List.mem_of_getElem? (i := 17) rfl, good_of_word rfl⟩, (List.forall_mem_cons.mpr ⟨⟨List.mem_of_getElem? (i := 18) rfl, good_of_word rfl⟩, (List.forall_mem_cons.mpr ⟨⟨List.mem_of_getElem? (i := 19) rfl, good_of_word rfl⟩, (fun _ h => nomatch h)⟩)⟩)⟩)⟩)⟩)⟩)⟩)⟩)⟩)⟩)⟩)⟩)⟩)⟩)
theorem gb_c_draw_c_markCertified : GoodIn v_c_draw v_c_markCertified := (goodIn_ca (goodIn_ca (goodIn_ca gb_c_draw_c_markCertified0 (goodIn_sub iw_c_draw_X3 gw_X3)) (goodIn_sub iw_c_draw_X0 gw_X0)) (goodIn_sub iw_c_draw_Jx4a65c gw_Jx4a65c))
theorem g_c_draw_c_markCertified_282 : GoodIn v_c_draw (wsV RX12 282 RX3 yX3_markCertified v_c_markCertified) := goodIn_app (List.forall_mem_cons.mpr ⟨⟨List.mem_of_getElem? (i := 2) rfl, good_of_word rfl⟩, (List.forall_mem_cons.mpr ⟨⟨List.mem_of_getElem? (i := 3) rfl, good_of_word rfl⟩, (List.forall_mem_cons.mpr ⟨⟨List.mem_of_getElem? (i := 4) rfl, good_of_word rfl⟩, (List.forall_mem_cons.mpr ⟨⟨List.mem_of_getElem? (i := 5) rfl, good_of_word rfl⟩, (fun _ h => nomatch h)⟩)⟩)⟩)⟩) gb_c_draw_c_markCertified
set_option maxHeartbeats 4000000 in
set_option maxRecDepth 100000 in
theorem c_draw (l : Launch) (dC : Nat → ClassId) (dI : Nat → Nat → Nat) (x : Nat) (bk : Nat) (tp : Nat) (sh : Nat) (sc : Nat) (he : Nat) (of : Nat) (o2 : Nat) (o3 : Nat) (o4 : Nat) (o5 : Nat) (o6 : Nat) (o7 : Nat) (o8 : Nat) (o9 : Nat) (o10 : Nat) (o11 : Nat) (o12 : Nat) (o13 : Nat) (o14 : Nat) (o17 : Nat) (lc : Nat) (lr : Nat) (la : Nat) (le : Nat) (lw : Nat) (lp : Nat) (ltr : Nat) (stk : Nat) (ed : Nat) (cI : ClassId) (gw : Nat → Int32) (n : Int32) (sd : Int64) (sz : Nat)  : Met l yX12_draw v_c_draw ({ frames := 2, cells := 0, slots := 0, locals := 80 }) (va_Pc [.ref x, .int n, .long sd] (fun U => U.heap.size = sz ∧ va_P (dC, dI) vwCl [(x, .inr (13, [.ref bk, .ref tp, .ref sh, .ref sc, .ref he, .ref of])), (of, .inr (4, [.ref bk, .ref sh, .ref o2, .ref o3, .ref o4, .ref o5, .ref o6, .ref o7, .ref o8, .ref o9, .ref o10, .ref o11, .ref o12, .ref o13, .ref o14, .int 0, .int 0, .ref o17])), (bk, .inr (1, [.int 0, .int 0, .int 0, .ref lc, .ref lr, .ref la, .ref le, .ref lw, .ref lp, .ref ltr, .ref stk])), (lc, .inr (0, [.int 0, .ref ed, .int 0])), (o17, .inl (cI, 16, .inl gw))] U.heap ∧ va_K (dC, dI) vwCl [(cI, .int)] U ∧ va_D (fun _ => True) [(x, .inr (13, [.ref bk, .ref tp, .ref sh, .ref sc, .ref he, .ref of])), (of, .inr (4, [.ref bk, .ref sh, .ref o2, .ref o3, .ref o4, .ref o5, .ref o6, .ref o7, .ref o8, .ref o9, .ref o10, .ref o11, .ref o12, .ref o13, .ref o14, .int 0, .int 0, .ref o17])), (bk, .inr (1, [.int 0, .int 0, .int 0, .ref lc, .ref lr, .ref la, .ref le, .ref lw, .ref lp, .ref ltr, .ref stk])), (lc, .inr (0, [.int 0, .ref ed, .int 0])), (o17, .inl (cI, 16, .inl gw))])) (va_Qi (S := Unit) (fun r _ => r = -1) (fun _ _ => True) (va_A [(x, .inr (13, [.ref bk, .ref tp, .ref sh, .ref sc, .ref he, .ref of])), (of, .inr (4, [.ref bk, .ref sh, .ref o2, .ref o3, .ref o4, .ref o5, .ref o6, .ref o7, .ref o8, .ref o9, .ref o10, .ref o11, .ref o12, .ref o13, .ref o14, .int 0, .int 0, .ref o17])), (bk, .inr (1, [.int 0, .int 0, .int 0, .ref lc, .ref lr, .ref la, .ref le, .ref lw, .ref lp, .ref ltr, .ref stk])), (lc, .inr (0, [.int 0, .ref ed, .int 0])), (o17, .inl (cI, 16, .inl gw))] sz)) 0 0 (va_A [(x, .inr (13, [.ref bk, .ref tp, .ref sh, .ref sc, .ref he, .ref of])), (of, .inr (4, [.ref bk, .ref sh, .ref o2, .ref o3, .ref o4, .ref o5, .ref o6, .ref o7, .ref o8, .ref o9, .ref o10, .ref o11, .ref o12, .ref o13, .ref o14, .int 0, .int 0, .ref o17])), (bk, .inr (1, [.int 0, .int 0, .int 0, .ref lc, .ref lr, .ref la, .ref le, .ref lw, .ref lp, .ref ltr, .ref stk])), (lc, .inr (0, [.int 0, .ref ed, .int 0])), (o17, .inl (cI, 16, .inl gw))] sz) := by
  refine Met.ofW (cc := cX12_draw) (maxL := 4) (ret := (some .int)) (by decide) rfl ?_
  intro p e s m args below meth c s₁ B hml hv
  obtain ⟨rfl, hsz, hP, hK, hD0⟩ := hv
  have hx := B.exec
  have hb := B.bytes
  have hr := B.returns
  have hts := atoms_spec (ws := v_c_draw) B.pre
  have hown : s.vm.findClass RX12 = some m.cls := findClass_of_methodNamed B.named
  have hlocks := B.notSynchronized
  subst hsz
  have hD := hD0.self (sz := s.heap.size)
  generalize hAe : va_A [(x, .inr (13, [.ref bk, .ref tp, .ref sh, .ref sc, .ref he, .ref of])), (of, .inr (4, [.ref bk, .ref sh, .ref o2, .ref o3, .ref o4, .ref o5, .ref o6, .ref o7, .ref o8, .ref o9, .ref o10, .ref o11, .ref o12, .ref o13, .ref o14, .int 0, .int 0, .ref o17])), (bk, .inr (1, [.int 0, .int 0, .int 0, .ref lc, .ref lr, .ref la, .ref le, .ref lw, .ref lp, .ref ltr, .ref stk])), (lc, .inr (0, [.int 0, .ref ed, .int 0])), (o17, .inl (cI, 16, .inl gw))] s.heap.size = A at hD ⊢
  have hA : ∀ q : Nat, s.heap.size ≤ q → A q := fun q h => by rw [← hAe]; exact Or.inr h
  have hS : va_S A s.heap s.heap [] := va_S.rf
  have hP : va_P (dC, dI) vwCl [(x, .inr (13, [.ref bk, .ref tp, .ref sh, .ref sc, .ref he, .ref of])), (of, .inr (4, [.ref bk, .ref sh, .ref o2, .ref o3, .ref o4, .ref o5, .ref o6, .ref o7, .ref o8, .ref o9, .ref o10, .ref o11, .ref o12, .ref o13, .ref o14, .int 0, .int 0, .ref o17])), (bk, .inr (1, [.int 0, .int 0, .int 0, .ref lc, .ref lr, .ref la, .ref le, .ref lw, .ref lp, .ref ltr, .ref stk])), (lc, .inr (0, [.int 0, .ref ed, .int 0])), (o17, .inl (cI, 16, .inl gw))] s.heap := hP
  have hl := lv_entry ([.ref x, .int n, .long sd]) (n := 4) (Nat.le_of_ble_eq_true rfl)
  rw [lg_entry_eq]
  generalize (lg_sl ([.ref x, .int n, .long sd]) ++ List.replicate (4 - (lg_sl ([.ref x, .int n, .long sd])).length) Slot.unset).toArray = ls at hl ⊢
  have hl : lv_has ls 4 [(0, .ref x), (1, .int n), (2, .long sd)] := hl
  refine lv_iload_n hx hb dX12_draw_0 rfl (lv_at hl 1 rfl) ?_
  refine lv_iconst (v := 1) hx hb dX12_draw_1 (by decide) ?_
  refine lv_icmp_lt (tgt := 16) hx hb dX12_draw_2 (by decide) (fun c1 => ?_) (fun c1 => ?_)
  · --n < 1
    refine lv_iconst (v := -1) hx hb dX12_draw_16 (by decide) ?_
    exact W.iret (v := (-1)) hx hb hr (fun t ht hW => ⟨⟨(-1), (), rfl, rfl, trivial⟩, hS.F ht⟩) hS.2.2 dX12_draw_17
  · --¬ n < 1
    refine lv_iload_n hx hb dX12_draw_5 rfl (lv_at hl 1 rfl) ?_
    refine lv_aload_n hx hb dX12_draw_6 rfl (lv_at hl 0 rfl) ?_
    refine va_get (D := (dC, dI)) (ci := 13) (v := .ref of) (C := RX12) (T := TX12) (N := 6) hx hb hts iw_c_draw_X12 hown hK hP 0 rfl rfl 5 (by decide) (hts (.fieldLink RX12 51 "UnlikeBoats" "office" "LUnlikeBoats$Office;") (List.mem_of_getElem? (i := 1) rfl)) (fun _ h9 => h9) rfl dX12_draw_7 ?_
    have hPc := hP.sub (ws' := [(of, .inr (4, [.ref bk, .ref sh, .ref o2, .ref o3, .ref o4, .ref o5, .ref o6, .ref o7, .ref o8, .ref o9, .ref o10, .ref o11, .ref o12, .ref o13, .ref o14, .int 0, .int 0, .ref o17])), (bk, .inr (1, [.int 0, .int 0, .int 0, .ref lc, .ref lr, .ref la, .ref le, .ref lw, .ref lp, .ref ltr, .ref stk])), (lc, .inr (0, [.int 0, .ref ed, .int 0])), (o17, .inl (cI, 16, .inl gw))]) [1, 2, 3, 4] rfl
    have hKc := hK.sub (tys' := [(cI, .int)]) [0] rfl
    have hDc := hD.sub (ws' := [(of, .inr (4, [.ref bk, .ref sh, .ref o2, .ref o3, .ref o4, .ref o5, .ref o6, .ref o7, .ref o8, .ref o9, .ref o10, .ref o11, .ref o12, .ref o13, .ref o14, .int 0, .int 0, .ref o17])), (bk, .inr (1, [.int 0, .int 0, .int 0, .ref lc, .ref lr, .ref la, .ref le, .ref lw, .ref lp, .ref ltr, .ref stk])), (lc, .inr (0, [.int 0, .ref ed, .int 0])), (o17, .inl (cI, 16, .inl gw))]) [1, 2, 3, 4] (by decide) rfl
    have hFc := va_free (wc := [(of, .inr (4, [.ref bk, .ref sh, .ref o2, .ref o3, .ref o4, .ref o5, .ref o6, .ref o7, .ref o8, .ref o9, .ref o10, .ref o11, .ref o12, .ref o13, .ref o14, .int 0, .int 0, .ref o17])), (bk, .inr (1, [.int 0, .int 0, .int 0, .ref lc, .ref lr, .ref la, .ref le, .ref lw, .ref lp, .ref ltr, .ref stk])), (lc, .inr (0, [.int 0, .ref ed, .int 0])), (o17, .inl (cI, 16, .inl gw))]) hD hS hA [1, 2, 3, 4] rfl
    refine va_calli (va_runV (As := []) (rest := [.int n]) ⟨hx, hb, hml, hown, hts⟩ (c_markCertified l dC dI of bk sh o2 o3 o4 o5 o6 o7 o8 o9 o10 o11 o12 o13 o14 o17 lc lr la le lw lp ltr stk ed cI gw s.heap.size) (cwV 0 hts g_c_draw_c_markCertified_282 rfl rfl rfl (by decide +kernel) ⟨Nat.le_of_ble_eq_true rfl, Nat.le_of_ble_eq_true rfl⟩) ⟨fun a U g mk q => by obtain ⟨e0, e1, qP, qK, qD⟩ := q; exact ⟨e0, e1, qP, va_K.moved (u := U) (U := U.calling g mk a) (Vm.Alike.refl U.vm) qK, qD⟩, va_recv hK hP (ci := 4) (q0 := 1) rfl rfl, fun U hU hW => ⟨rfl, by rw [hU], by rw [hU]; exact hPc, va_K.moved hW.alike hKc, hDc.weaken (fun _ _ _ _ => trivial)⟩⟩ rfl rfl hl.1 rfl (lv_room (Nat.le_of_ble_eq_true rfl)) dX12_draw_10 ⟨Nat.le_of_ble_eq_true rfl, Nat.le_of_ble_eq_true rfl⟩) hS (fun q _ h => hFc q h) hFc (fun r2 u3 t H1 locs ht hvm hw hB hz1 hk1 hS => ?_)
    have hP1 : va_P (dC, dI) vwCl [] H1 := ub_P0
    have hD1 : va_D (va_A [(of, .inr (4, [.ref bk, .ref sh, .ref o2, .ref o3, .ref o4, .ref o5, .ref o6, .ref o7, .ref o8, .ref o9, .ref o10, .ref o11, .ref o12, .ref o13, .ref o14, .int 0, .int 0, .ref o17])), (bk, .inr (1, [.int 0, .int 0, .int 0, .ref lc, .ref lr, .ref la, .ref le, .ref lw, .ref lp, .ref ltr, .ref stk])), (lc, .inr (0, [.int 0, .ref ed, .int 0])), (o17, .inl (cI, 16, .inl gw))] s.heap.size) [] := ub_D0
    obtain ⟨hP, hD⟩ := va_join (wr := [(x, .inr (13, [.ref bk, .ref tp, .ref sh, .ref sc, .ref he, .ref of]))]) (w1 := []) hP hD [1, 2, 3, 4] [0] rfl rfl (by decide) (by decide) hk1 hFc hP1 hD1
    generalize H1 = H at hP hS ⊢
    have hP : va_P (dC, dI) vwCl [(x, .inr (13, [.ref bk, .ref tp, .ref sh, .ref sc, .ref he, .ref of]))] H := hP
    have hD : va_D A [(x, .inr (13, [.ref bk, .ref tp, .ref sh, .ref sc, .ref he, .ref of]))] := hD
    refine W.widen (k := 0) (n := 0) (by omega) (by omega) ?_
    obtain rfl : (0 : Int32) = r2 := hw.symm
    refine lv_icmp_le (tgt := 18) hx hb dX12_draw_13 (by decide) (fun c4 => by first | exact absurd c4 (ub_lt1 c1) | exact absurd (ub_lt1 c1) c4) (fun c4 => ?_)
    refine lv_iconst (v := -1) hx hb dX12_draw_16 (by decide) ?_
    exact W.iret (v := (-1)) hx hb hr (fun t ht hW => ⟨⟨(-1), (), rfl, rfl, trivial⟩, hS.F ht⟩) hS.2.2 dX12_draw_17
