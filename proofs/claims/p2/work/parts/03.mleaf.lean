def tyX0 : Nat → FieldType := fun k => match k with
  | 0 => .int
  | 1 => .int
  | 2 => .int
  | 3 => .object "java/util/ArrayList"
  | 4 => .object "java/util/ArrayList"
  | 5 => .object "java/util/ArrayList"
  | 6 => .object "java/util/ArrayList"
  | 7 => .object "java/util/ArrayList"
  | 8 => .object "java/util/ArrayList"
  | 9 => .array .int
  | _ => .array .int
theorem nmX0 : ∀ a, a < 11 → ∀ b, b < 11 → a ≠ b → (TX0 a).2.1 ≠ (TX0 b).2.1 := by decide +kernel
theorem tyX0_ok : ∀ k, k < 11 → parseFieldDescriptor (TX0 k).2.2.1 = some (tyX0 k) := by decide +kernel
abbrev cX0_isBoat : ByteArray := prog_2_method_2_code
def yX0_isBoat : MethodName := ⟨RX0, "isBoat", "(I)Z"⟩
abbrev cX0_isRace : ByteArray := prog_2_method_3_code
def yX0_isRace : MethodName := ⟨RX0, "isRace", "(I)Z"⟩
abbrev cX0_isKnown : ByteArray := prog_2_method_4_code
def yX0_isKnown : MethodName := ⟨RX0, "isKnown", "(I)Z"⟩
abbrev cX0_isCounted : ByteArray := prog_2_method_5_code
def yX0_isCounted : MethodName := ⟨RX0, "isCounted", "(II)Z"⟩
abbrev cX0_isEntered : ByteArray := prog_2_method_6_code
def yX0_isEntered : MethodName := ⟨RX0, "isEntered", "(II)Z"⟩
abbrev cX0_isProtested : ByteArray := prog_2_method_7_code
def yX0_isProtested : MethodName := ⟨RX0, "isProtested", "(II)Z"⟩
abbrev cX0_areSome : ByteArray := prog_2_method_8_code
def yX0_areSome : MethodName := ⟨RX0, "areSome", "(I)Z"⟩
abbrev cX0_rulesOn : ByteArray := prog_2_method_10_code
def yX0_rulesOn : MethodName := ⟨RX0, "rulesOn", "(II)I"⟩
abbrev cX0_worthIn : ByteArray := prog_2_method_13_code
def yX0_worthIn : MethodName := ⟨RX0, "worthIn", "(IC)I"⟩
abbrev cX0_racesIn : ByteArray := prog_2_method_14_code
def yX0_racesIn : MethodName := ⟨RX0, "racesIn", "(I)I"⟩
abbrev cX0_disqualified : ByteArray := prog_2_method_16_code
def yX0_disqualified : MethodName := ⟨RX0, "disqualified", "()I"⟩
def tyX10 : Nat → FieldType := fun k => match k with
  | 0 => .array .int
  | 1 => .int
  | 2 => .int
  | 3 => .int
  | 4 => .array .int
  | 5 => .int
  | 6 => .array .int
  | 7 => .array .int
  | 8 => .array .int
  | _ => .int
theorem nmX10 : ∀ a, a < 10 → ∀ b, b < 10 → a ≠ b → (TX10 a).2.1 ≠ (TX10 b).2.1 := by decide +kernel
theorem tyX10_ok : ∀ k, k < 10 → parseFieldDescriptor (TX10 k).2.2.1 = some (tyX10 k) := by decide +kernel
abbrev cX10_read : ByteArray := prog_12_method_3_code
def yX10_read : MethodName := ⟨RX10, "read", "()I"⟩
abbrev cX10_next : ByteArray := prog_12_method_5_code
def yX10_next : MethodName := ⟨RX10, "next", "()I"⟩
abbrev cX10_fail : ByteArray := prog_12_method_6_code
def yX10_fail : MethodName := ⟨RX10, "fail", "()V"⟩
abbrev cX10_readClause : ByteArray := prog_12_method_9_code
def yX10_readClause : MethodName := ⟨RX10, "readClause", "()V"⟩
abbrev cX12_days : ByteArray := prog_1_method_2_code
def yX12_days : MethodName := ⟨RX12, "days", "(I)I"⟩
abbrev cX12_boat : ByteArray := prog_1_method_3_code
def yX12_boat : MethodName := ⟨RX12, "boat", "()I"⟩
abbrev cX12_certificate : ByteArray := prog_1_method_4_code
def yX12_certificate : MethodName := ⟨RX12, "certificate", "(IIIII)I"⟩
abbrev cX12_measured : ByteArray := prog_1_method_5_code
def yX12_measured : MethodName := ⟨RX12, "measured", "(III)I"⟩
abbrev cX12_end : ByteArray := prog_1_method_7_code
def yX12_end : MethodName := ⟨RX12, "end", "(I)Z"⟩
abbrev cX12_fault : ByteArray := prog_1_method_8_code
def yX12_fault : MethodName := ⟨RX12, "fault", "()I"⟩
abbrev cX12_rules : ByteArray := prog_1_method_9_code
def yX12_rules : MethodName := ⟨RX12, "rules", "(I)I"⟩
abbrev cX12_force : ByteArray := prog_1_method_10_code
def yX12_force : MethodName := ⟨RX12, "force", "(II)I"⟩
abbrev cX12_number : ByteArray := prog_1_method_11_code
def yX12_number : MethodName := ⟨RX12, "number", "(III)I"⟩
abbrev cX12_swift : ByteArray := prog_1_method_13_code
def yX12_swift : MethodName := ⟨RX12, "swift", "(II)Z"⟩
abbrev cX12_enter : ByteArray := prog_1_method_14_code
def yX12_enter : MethodName := ⟨RX12, "enter", "(II)Z"⟩
abbrev cX12_result : ByteArray := prog_1_method_15_code
def yX12_result : MethodName := ⟨RX12, "result", "(IIII)Z"⟩
abbrev cX12_coded : ByteArray := prog_1_method_16_code
def yX12_coded : MethodName := ⟨RX12, "coded", "(III)I"⟩
abbrev cX12_corrected : ByteArray := prog_1_method_17_code
def yX12_corrected : MethodName := ⟨RX12, "corrected", "(III)I"⟩
abbrev cX12_placed : ByteArray := prog_1_method_18_code
def yX12_placed : MethodName := ⟨RX12, "placed", "(III)I"⟩
abbrev cX12_redress : ByteArray := prog_1_method_19_code
def yX12_redress : MethodName := ⟨RX12, "redress", "(II)Z"⟩
abbrev cX12_points : ByteArray := prog_1_method_20_code
def yX12_points : MethodName := ⟨RX12, "points", "(III)I"⟩
abbrev cX12_thrown : ByteArray := prog_1_method_21_code
def yX12_thrown : MethodName := ⟨RX12, "thrown", "(III)I"⟩
abbrev cX12_total : ByteArray := prog_1_method_22_code
def yX12_total : MethodName := ⟨RX12, "total", "(II)I"⟩
abbrev cX12_word : ByteArray := prog_1_method_24_code
def yX12_word : MethodName := ⟨RX12, "word", "(IIIIIII)I"⟩
abbrev cX12_protest : ByteArray := prog_1_method_25_code
def yX12_protest : MethodName := ⟨RX12, "protest", "(IIII)I"⟩
abbrev cX12_states : ByteArray := prog_1_method_26_code
def yX12_states : MethodName := ⟨RX12, "states", "(III)I"⟩
abbrev cX12_finding : ByteArray := prog_1_method_27_code
def yX12_finding : MethodName := ⟨RX12, "finding", "(III)I"⟩
abbrev cX12_decide : ByteArray := prog_1_method_28_code
def yX12_decide : MethodName := ⟨RX12, "decide", "(I)I"⟩
abbrev cX12_reopen : ByteArray := prog_1_method_29_code
def yX12_reopen : MethodName := ⟨RX12, "reopen", "(I)Z"⟩
abbrev cX12_even : ByteArray := prog_1_method_30_code
def yX12_even : MethodName := ⟨RX12, "even", "(I)I"⟩
abbrev cX12_change : ByteArray := prog_1_method_31_code
def yX12_change : MethodName := ⟨RX12, "change", "(II)I"⟩
abbrev cX12_middle : ByteArray := prog_1_method_32_code
def yX12_middle : MethodName := ⟨RX12, "middle", "(II)I"⟩
abbrev cX12_fit : ByteArray := prog_1_method_33_code
def yX12_fit : MethodName := ⟨RX12, "fit", "(I)I"⟩
abbrev cX12_suspect : ByteArray := prog_1_method_34_code
def yX12_suspect : MethodName := ⟨RX12, "suspect", "(II)I"⟩
abbrev cX12_start : ByteArray := prog_1_method_35_code
def yX12_start : MethodName := ⟨RX12, "start", "(IIII)Z"⟩
abbrev cX12_lean : ByteArray := prog_1_method_36_code
def yX12_lean : MethodName := ⟨RX12, "lean", "(I)I"⟩
abbrev cX12_count : ByteArray := prog_1_method_39_code
def yX12_count : MethodName := ⟨RX12, "count", "(I)I"⟩
abbrev cX12_within : ByteArray := prog_1_method_40_code
abbrev cX12_held : ByteArray := prog_1_method_41_code
abbrev cX12_isDay : ByteArray := prog_1_method_43_code
def yX12_isDay : MethodName := ⟨RX12, "isDay", "(I)Z"⟩
abbrev cX12_isOneOf : ByteArray := prog_1_method_46_code
abbrev cX13_certOn : ByteArray := prog_15_method_10_code
def yX13_certOn : MethodName := ⟨RX13, "certOn", "(III)I"⟩
def RJ6 : String := "java/lang/Integer"
abbrev cJ6_bitCount_0f7a4 : ByteArray := prog_22_method_49_code
def yJ6_bitCount_0f7a4 : MethodName := ⟨RJ6, "bitCount", "(I)I"⟩
abbrev cJx4a65c_size_8abf5 : ByteArray := prog_35_method_8_code
def yJx4a65c_size_8abf5 : MethodName := ⟨RJx4a65c, "size", "()I"⟩
theorem dX0_isBoat_0 : decode cX0_isBoat 0 = .ok (.iload_n 1, 1) := by decide +kernel
theorem dX0_isBoat_1 : decode cX0_isBoat 1 = .ok (.iconst 0, 1) := by decide +kernel
theorem dX0_isBoat_2 : decode cX0_isBoat 2 = .ok (.aload_n 0, 1) := by decide +kernel
theorem dX0_isBoat_3 : decode cX0_isBoat 3 = .ok (.getfield 48, 3) := by decide +kernel
theorem dX0_isBoat_6 : decode cX0_isBoat 6 = .ok (.iconst 1, 1) := by decide +kernel
theorem dX0_isBoat_7 : decode cX0_isBoat 7 = .ok (.isub, 1) := by decide +kernel
theorem dX0_isBoat_8 : decode cX0_isBoat 8 = .ok (.invokestatic 52, 3) := by decide +kernel
theorem dX0_isBoat_11 : decode cX0_isBoat 11 = .ok (.ireturn, 1) := by decide +kernel
theorem dX0_isRace_0 : decode cX0_isRace 0 = .ok (.iload_n 1, 1) := by decide +kernel
theorem dX0_isRace_1 : decode cX0_isRace 1 = .ok (.iconst 0, 1) := by decide +kernel
theorem dX0_isRace_2 : decode cX0_isRace 2 = .ok (.aload_n 0, 1) := by decide +kernel
theorem dX0_isRace_3 : decode cX0_isRace 3 = .ok (.getfield 21, 3) := by decide +kernel
theorem dX0_isRace_6 : decode cX0_isRace 6 = .ok (.invokevirtual 56, 3) := by decide +kernel
theorem dX0_isRace_9 : decode cX0_isRace 9 = .ok (.iconst 1, 1) := by decide +kernel
theorem dX0_isRace_10 : decode cX0_isRace 10 = .ok (.isub, 1) := by decide +kernel
theorem dX0_isRace_11 : decode cX0_isRace 11 = .ok (.invokestatic 52, 3) := by decide +kernel
theorem dX0_isRace_14 : decode cX0_isRace 14 = .ok (.ireturn, 1) := by decide +kernel
theorem dX0_isKnown_0 : decode cX0_isKnown 0 = .ok (.iload_n 1, 1) := by decide +kernel
theorem dX0_isKnown_1 : decode cX0_isKnown 1 = .ok (.iconst 0, 1) := by decide +kernel
theorem dX0_isKnown_2 : decode cX0_isKnown 2 = .ok (.aload_n 0, 1) := by decide +kernel
theorem dX0_isKnown_3 : decode cX0_isKnown 3 = .ok (.getfield 59, 3) := by decide +kernel
theorem dX0_isKnown_6 : decode cX0_isKnown 6 = .ok (.invokestatic 52, 3) := by decide +kernel
theorem dX0_isKnown_9 : decode cX0_isKnown 9 = .ok (.ireturn, 1) := by decide +kernel
theorem dX0_isCounted_0 : decode cX0_isCounted 0 = .ok (.aload_n 0, 1) := by decide +kernel
theorem dX0_isCounted_1 : decode cX0_isCounted 1 = .ok (.iload_n 2, 1) := by decide +kernel
theorem dX0_isCounted_2 : decode cX0_isCounted 2 = .ok (.invokevirtual 62, 3) := by decide +kernel
theorem dX0_isCounted_5 : decode cX0_isCounted 5 = .ok (.ifCond .eq 33, 3) := by decide +kernel
theorem dX0_isCounted_8 : decode cX0_isCounted 8 = .ok (.aload_n 0, 1) := by decide +kernel
theorem dX0_isCounted_9 : decode cX0_isCounted 9 = .ok (.iload_n 1, 1) := by decide +kernel
theorem dX0_isCounted_10 : decode cX0_isCounted 10 = .ok (.invokevirtual 66, 3) := by decide +kernel
theorem dX0_isCounted_13 : decode cX0_isCounted 13 = .ok (.ifCond .eq 25, 3) := by decide +kernel
theorem dX0_isCounted_38 : decode cX0_isCounted 38 = .ok (.iconst 0, 1) := by decide +kernel
theorem dX0_isCounted_39 : decode cX0_isCounted 39 = .ok (.ireturn, 1) := by decide +kernel
theorem dX0_isEntered_0 : decode cX0_isEntered 0 = .ok (.aload_n 0, 1) := by decide +kernel
theorem dX0_isEntered_1 : decode cX0_isEntered 1 = .ok (.iload_n 1, 1) := by decide +kernel
theorem dX0_isEntered_2 : decode cX0_isEntered 2 = .ok (.invokevirtual 66, 3) := by decide +kernel
theorem dX0_isEntered_5 : decode cX0_isEntered 5 = .ok (.ifCond .eq 37, 3) := by decide +kernel
theorem dX0_isEntered_42 : decode cX0_isEntered 42 = .ok (.iconst 0, 1) := by decide +kernel
theorem dX0_isEntered_43 : decode cX0_isEntered 43 = .ok (.ireturn, 1) := by decide +kernel
theorem dX0_isProtested_0 : decode cX0_isProtested 0 = .ok (.aload_n 0, 1) := by decide +kernel
theorem dX0_isProtested_1 : decode cX0_isProtested 1 = .ok (.iload_n 2, 1) := by decide +kernel
theorem dX0_isProtested_2 : decode cX0_isProtested 2 = .ok (.invokevirtual 62, 3) := by decide +kernel
theorem dX0_isProtested_5 : decode cX0_isProtested 5 = .ok (.ifCond .eq 42, 3) := by decide +kernel
theorem dX0_isProtested_8 : decode cX0_isProtested 8 = .ok (.iload_n 1, 1) := by decide +kernel
theorem dX0_isProtested_9 : decode cX0_isProtested 9 = .ok (.iconst 0, 1) := by decide +kernel
theorem dX0_isProtested_10 : decode cX0_isProtested 10 = .ok (.aload_n 0, 1) := by decide +kernel
theorem dX0_isProtested_11 : decode cX0_isProtested 11 = .ok (.getfield 30, 3) := by decide +kernel
theorem dX0_isProtested_14 : decode cX0_isProtested 14 = .ok (.invokevirtual 56, 3) := by decide +kernel
theorem dX0_isProtested_17 : decode cX0_isProtested 17 = .ok (.iconst 1, 1) := by decide +kernel
theorem dX0_isProtested_18 : decode cX0_isProtested 18 = .ok (.isub, 1) := by decide +kernel
theorem dX0_isProtested_19 : decode cX0_isProtested 19 = .ok (.invokestatic 52, 3) := by decide +kernel
theorem dX0_isProtested_22 : decode cX0_isProtested 22 = .ok (.ifCond .eq 25, 3) := by decide +kernel
theorem dX0_isProtested_47 : decode cX0_isProtested 47 = .ok (.iconst 0, 1) := by decide +kernel
theorem dX0_isProtested_48 : decode cX0_isProtested 48 = .ok (.ireturn, 1) := by decide +kernel
theorem dX0_areSome_0 : decode cX0_areSome 0 = .ok (.iload_n 1, 1) := by decide +kernel
theorem dX0_areSome_1 : decode cX0_areSome 1 = .ok (.iconst 0, 1) := by decide +kernel
theorem dX0_areSome_2 : decode cX0_areSome 2 = .ok (.iconst 1, 1) := by decide +kernel
theorem dX0_areSome_3 : decode cX0_areSome 3 = .ok (.aload_n 0, 1) := by decide +kernel
theorem dX0_areSome_4 : decode cX0_areSome 4 = .ok (.getfield 48, 3) := by decide +kernel
theorem dX0_areSome_7 : decode cX0_areSome 7 = .ok (.ishl, 1) := by decide +kernel
theorem dX0_areSome_8 : decode cX0_areSome 8 = .ok (.iconst 1, 1) := by decide +kernel
theorem dX0_areSome_9 : decode cX0_areSome 9 = .ok (.isub, 1) := by decide +kernel
theorem dX0_areSome_10 : decode cX0_areSome 10 = .ok (.invokestatic 52, 3) := by decide +kernel
theorem dX0_areSome_13 : decode cX0_areSome 13 = .ok (.ifCond .eq 19, 3) := by decide +kernel
theorem dX0_areSome_16 : decode cX0_areSome 16 = .ok (.iload_n 1, 1) := by decide +kernel
theorem dX0_areSome_17 : decode cX0_areSome 17 = .ok (.invokestatic 88, 3) := by decide +kernel
theorem dX0_areSome_20 : decode cX0_areSome 20 = .ok (.iconst 2, 1) := by decide +kernel
theorem dX0_areSome_21 : decode cX0_areSome 21 = .ok (.iconst 4, 1) := by decide +kernel
theorem dX0_areSome_22 : decode cX0_areSome 22 = .ok (.invokestatic 52, 3) := by decide +kernel
theorem dX0_areSome_25 : decode cX0_areSome 25 = .ok (.ifCond .eq 7, 3) := by decide +kernel
theorem dX0_areSome_32 : decode cX0_areSome 32 = .ok (.iconst 0, 1) := by decide +kernel
theorem dX0_areSome_33 : decode cX0_areSome 33 = .ok (.ireturn, 1) := by decide +kernel
theorem dX0_rulesOn_0 : decode cX0_rulesOn 0 = .ok (.iconst (-1), 1) := by decide +kernel
theorem dX0_rulesOn_1 : decode cX0_rulesOn 1 = .ok (.istore_n 3, 1) := by decide +kernel
theorem dX0_rulesOn_2 : decode cX0_rulesOn 2 = .ok (.iconst 0, 1) := by decide +kernel
theorem dX0_rulesOn_3 : decode cX0_rulesOn 3 = .ok (.istore 4, 2) := by decide +kernel
theorem dX0_rulesOn_5 : decode cX0_rulesOn 5 = .ok (.iconst 0, 1) := by decide +kernel
theorem dX0_rulesOn_6 : decode cX0_rulesOn 6 = .ok (.istore 5, 2) := by decide +kernel
theorem dX0_rulesOn_8 : decode cX0_rulesOn 8 = .ok (.iload 5, 2) := by decide +kernel
theorem dX0_rulesOn_10 : decode cX0_rulesOn 10 = .ok (.aload_n 0, 1) := by decide +kernel
theorem dX0_rulesOn_11 : decode cX0_rulesOn 11 = .ok (.getfield 18, 3) := by decide +kernel
theorem dX0_rulesOn_14 : decode cX0_rulesOn 14 = .ok (.invokevirtual 56, 3) := by decide +kernel
theorem dX0_rulesOn_17 : decode cX0_rulesOn 17 = .ok (.if_icmp .ge 61, 3) := by decide +kernel
theorem dX0_rulesOn_78 : decode cX0_rulesOn 78 = .ok (.iload_n 3, 1) := by decide +kernel
theorem dX0_rulesOn_79 : decode cX0_rulesOn 79 = .ok (.ireturn, 1) := by decide +kernel
theorem dX0_worthIn_0 : decode cX0_worthIn 0 = .ok (.iload_n 1, 1) := by decide +kernel
theorem dX0_worthIn_1 : decode cX0_worthIn 1 = .ok (.iconst (-1), 1) := by decide +kernel
theorem dX0_worthIn_2 : decode cX0_worthIn 2 = .ok (.if_icmp .ne 7, 3) := by decide +kernel
theorem dX0_worthIn_5 : decode cX0_worthIn 5 = .ok (.iconst 0, 1) := by decide +kernel
theorem dX0_worthIn_6 : decode cX0_worthIn 6 = .ok (.goto 26, 3) := by decide +kernel
theorem dX0_worthIn_32 : decode cX0_worthIn 32 = .ok (.ireturn, 1) := by decide +kernel
theorem dX0_racesIn_0 : decode cX0_racesIn 0 = .ok (.iconst 0, 1) := by decide +kernel
theorem dX0_racesIn_1 : decode cX0_racesIn 1 = .ok (.istore_n 2, 1) := by decide +kernel
theorem dX0_racesIn_2 : decode cX0_racesIn 2 = .ok (.iconst 0, 1) := by decide +kernel
theorem dX0_racesIn_3 : decode cX0_racesIn 3 = .ok (.istore_n 3, 1) := by decide +kernel
theorem dX0_racesIn_4 : decode cX0_racesIn 4 = .ok (.iload_n 3, 1) := by decide +kernel
theorem dX0_racesIn_5 : decode cX0_racesIn 5 = .ok (.aload_n 0, 1) := by decide +kernel
theorem dX0_racesIn_6 : decode cX0_racesIn 6 = .ok (.getfield 21, 3) := by decide +kernel
theorem dX0_racesIn_9 : decode cX0_racesIn 9 = .ok (.invokevirtual 56, 3) := by decide +kernel
theorem dX0_racesIn_12 : decode cX0_racesIn 12 = .ok (.if_icmp .ge 30, 3) := by decide +kernel
theorem dX0_racesIn_42 : decode cX0_racesIn 42 = .ok (.iload_n 2, 1) := by decide +kernel
theorem dX0_racesIn_43 : decode cX0_racesIn 43 = .ok (.ireturn, 1) := by decide +kernel
theorem dX0_disqualified_0 : decode cX0_disqualified 0 = .ok (.iconst 0, 1) := by decide +kernel
theorem dX0_disqualified_1 : decode cX0_disqualified 1 = .ok (.istore_n 1, 1) := by decide +kernel
theorem dX0_disqualified_2 : decode cX0_disqualified 2 = .ok (.iconst 0, 1) := by decide +kernel
theorem dX0_disqualified_3 : decode cX0_disqualified 3 = .ok (.istore_n 2, 1) := by decide +kernel
theorem dX0_disqualified_4 : decode cX0_disqualified 4 = .ok (.iload_n 2, 1) := by decide +kernel
theorem dX0_disqualified_5 : decode cX0_disqualified 5 = .ok (.aload_n 0, 1) := by decide +kernel
theorem dX0_disqualified_6 : decode cX0_disqualified 6 = .ok (.getfield 21, 3) := by decide +kernel
theorem dX0_disqualified_9 : decode cX0_disqualified 9 = .ok (.invokevirtual 56, 3) := by decide +kernel
theorem dX0_disqualified_12 : decode cX0_disqualified 12 = .ok (.if_icmp .ge 24, 3) := by decide +kernel
theorem dX0_disqualified_36 : decode cX0_disqualified 36 = .ok (.iload_n 1, 1) := by decide +kernel
theorem dX0_disqualified_37 : decode cX0_disqualified 37 = .ok (.ireturn, 1) := by decide +kernel
theorem dX10_read_0 : decode cX10_read 0 = .ok (.aload_n 0, 1) := by decide +kernel
theorem dX10_read_1 : decode cX10_read 1 = .ok (.iconst 0, 1) := by decide +kernel
theorem dX10_read_2 : decode cX10_read 2 = .ok (.putfield 31, 3) := by decide +kernel
theorem dX10_read_5 : decode cX10_read 5 = .ok (.aload_n 0, 1) := by decide +kernel
theorem dX10_read_6 : decode cX10_read 6 = .ok (.iconst (-1), 1) := by decide +kernel
theorem dX10_read_7 : decode cX10_read 7 = .ok (.putfield 34, 3) := by decide +kernel
theorem dX10_read_10 : decode cX10_read 10 = .ok (.aload_n 0, 1) := by decide +kernel
theorem dX10_read_11 : decode cX10_read 11 = .ok (.iconst 0, 1) := by decide +kernel
theorem dX10_read_12 : decode cX10_read 12 = .ok (.putfield 37, 3) := by decide +kernel
theorem dX10_read_15 : decode cX10_read 15 = .ok (.aload_n 0, 1) := by decide +kernel
theorem dX10_read_16 : decode cX10_read 16 = .ok (.iconst 0, 1) := by decide +kernel
theorem dX10_read_17 : decode cX10_read 17 = .ok (.putfield 40, 3) := by decide +kernel
theorem dX10_read_20 : decode cX10_read 20 = .ok (.aload_n 0, 1) := by decide +kernel
theorem dX10_read_21 : decode cX10_read 21 = .ok (.invokevirtual 43, 3) := by decide +kernel
theorem dX10_read_24 : decode cX10_read 24 = .ok (.iconst 0, 1) := by decide +kernel
theorem dX10_read_25 : decode cX10_read 25 = .ok (.istore_n 1, 1) := by decide +kernel
theorem dX10_read_26 : decode cX10_read 26 = .ok (.iload_n 1, 1) := by decide +kernel
theorem dX10_read_27 : decode cX10_read 27 = .ok (.sipush 200, 3) := by decide +kernel
theorem dX10_read_30 : decode cX10_read 30 = .ok (.if_icmp .ge 32, 3) := by decide +kernel
theorem dX10_read_33 : decode cX10_read 33 = .ok (.aload_n 0, 1) := by decide +kernel
theorem dX10_read_34 : decode cX10_read 34 = .ok (.invokevirtual 46, 3) := by decide +kernel
theorem dX10_read_37 : decode cX10_read 37 = .ok (.bipush 59, 2) := by decide +kernel
theorem dX10_read_39 : decode cX10_read 39 = .ok (.if_icmp .ne 23, 3) := by decide +kernel
theorem dX10_read_62 : decode cX10_read 62 = .ok (.aload_n 0, 1) := by decide +kernel
theorem dX10_read_63 : decode cX10_read 63 = .ok (.invokevirtual 46, 3) := by decide +kernel
theorem dX10_read_66 : decode cX10_read 66 = .ok (.iconst (-1), 1) := by decide +kernel
theorem dX10_read_67 : decode cX10_read 67 = .ok (.if_icmp .eq 7, 3) := by decide +kernel
theorem dX10_read_70 : decode cX10_read 70 = .ok (.aload_n 0, 1) := by decide +kernel
theorem dX10_read_71 : decode cX10_read 71 = .ok (.invokevirtual 50, 3) := by decide +kernel
theorem dX10_read_74 : decode cX10_read 74 = .ok (.aload_n 0, 1) := by decide +kernel
theorem dX10_read_75 : decode cX10_read 75 = .ok (.getfield 21, 3) := by decide +kernel
theorem dX10_read_78 : decode cX10_read 78 = .ok (.aload_n 0, 1) := by decide +kernel
theorem dX10_read_79 : decode cX10_read 79 = .ok (.getfield 40, 3) := by decide +kernel
theorem dX10_read_82 : decode cX10_read 82 = .ok (.aload_n 0, 1) := by decide +kernel
theorem dX10_read_83 : decode cX10_read 83 = .ok (.getfield 37, 3) := by decide +kernel
theorem dX10_read_86 : decode cX10_read 86 = .ok (.iastore, 1) := by decide +kernel
theorem dX10_read_87 : decode cX10_read 87 = .ok (.aload_n 0, 1) := by decide +kernel
theorem dX10_read_88 : decode cX10_read 88 = .ok (.getfield 34, 3) := by decide +kernel
theorem dX10_read_91 : decode cX10_read 91 = .ok (.ireturn, 1) := by decide +kernel
theorem dX10_next_0 : decode cX10_next 0 = .ok (.aload_n 0, 1) := by decide +kernel
theorem dX10_next_1 : decode cX10_next 1 = .ok (.getfield 34, 3) := by decide +kernel
theorem dX10_next_4 : decode cX10_next 4 = .ok (.iconst (-1), 1) := by decide +kernel
theorem dX10_next_5 : decode cX10_next 5 = .ok (.if_icmp .eq 6, 3) := by decide +kernel
theorem dX10_next_8 : decode cX10_next 8 = .ok (.bipush (-2), 2) := by decide +kernel
theorem dX10_next_10 : decode cX10_next 10 = .ok (.ireturn, 1) := by decide +kernel
theorem dX10_next_11 : decode cX10_next 11 = .ok (.aload_n 0, 1) := by decide +kernel
theorem dX10_next_12 : decode cX10_next 12 = .ok (.getfield 31, 3) := by decide +kernel
theorem dX10_next_15 : decode cX10_next 15 = .ok (.aload_n 0, 1) := by decide +kernel
theorem dX10_next_16 : decode cX10_next 16 = .ok (.getfield 27, 3) := by decide +kernel
theorem dX10_next_19 : decode cX10_next 19 = .ok (.if_icmp .ge 30, 3) := by decide +kernel
theorem dX10_next_49 : decode cX10_next 49 = .ok (.aload_n 0, 1) := by decide +kernel
theorem dX10_next_50 : decode cX10_next 50 = .ok (.getfield 31, 3) := by decide +kernel
theorem dX10_next_53 : decode cX10_next 53 = .ok (.aload_n 0, 1) := by decide +kernel
theorem dX10_next_54 : decode cX10_next 54 = .ok (.getfield 27, 3) := by decide +kernel
theorem dX10_next_57 : decode cX10_next 57 = .ok (.if_icmp .ge 15, 3) := by decide +kernel
theorem dX10_next_72 : decode cX10_next 72 = .ok (.iconst (-1), 1) := by decide +kernel
theorem dX10_next_73 : decode cX10_next 73 = .ok (.ireturn, 1) := by decide +kernel
theorem dX10_fail_0 : decode cX10_fail 0 = .ok (.aload_n 0, 1) := by decide +kernel
theorem dX10_fail_1 : decode cX10_fail 1 = .ok (.getfield 34, 3) := by decide +kernel
theorem dX10_fail_4 : decode cX10_fail 4 = .ok (.iconst (-1), 1) := by decide +kernel
theorem dX10_fail_5 : decode cX10_fail 5 = .ok (.if_icmp .ne 11, 3) := by decide +kernel
theorem dX10_fail_8 : decode cX10_fail 8 = .ok (.aload_n 0, 1) := by decide +kernel
theorem dX10_fail_9 : decode cX10_fail 9 = .ok (.aload_n 0, 1) := by decide +kernel
theorem dX10_fail_10 : decode cX10_fail 10 = .ok (.getfield 31, 3) := by decide +kernel
theorem dX10_fail_13 : decode cX10_fail 13 = .ok (.putfield 34, 3) := by decide +kernel
theorem dX10_fail_16 : decode cX10_fail 16 = .ok (.return_, 1) := by decide +kernel
theorem dX10_readClause_0 : decode cX10_readClause 0 = .ok (.aload_n 0, 1) := by decide +kernel
theorem dX10_readClause_1 : decode cX10_readClause 1 = .ok (.invokevirtual 46, 3) := by decide +kernel
theorem dX10_readClause_4 : decode cX10_readClause 4 = .ok (.istore_n 1, 1) := by decide +kernel
theorem dX10_readClause_5 : decode cX10_readClause 5 = .ok (.ldc 64, 2) := by decide +kernel
theorem dX10_readClause_7 : decode cX10_readClause 7 = .ok (.iload_n 1, 1) := by decide +kernel
theorem dX10_readClause_8 : decode cX10_readClause 8 = .ok (.invokestatic 66, 3) := by decide +kernel
theorem dX10_readClause_11 : decode cX10_readClause 11 = .ok (.ifCond .eq 12, 3) := by decide +kernel
theorem dX10_readClause_23 : decode cX10_readClause 23 = .ok (.aload_n 0, 1) := by decide +kernel
theorem dX10_readClause_24 : decode cX10_readClause 24 = .ok (.invokevirtual 50, 3) := by decide +kernel
theorem dX10_readClause_27 : decode cX10_readClause 27 = .ok (.return_, 1) := by decide +kernel
theorem dX12_days_0 : decode cX12_days 0 = .ok (.iload_n 1, 1) := by decide +kernel
theorem dX12_days_1 : decode cX12_days 1 = .ok (.iconst 0, 1) := by decide +kernel
theorem dX12_days_2 : decode cX12_days 2 = .ok (.sipush 400, 3) := by decide +kernel
theorem dX12_days_5 : decode cX12_days 5 = .ok (.aload_n 0, 1) := by decide +kernel
theorem dX12_days_6 : decode cX12_days 6 = .ok (.getfield 10, 3) := by decide +kernel
theorem dX12_days_9 : decode cX12_days 9 = .ok (.getfield 55, 3) := by decide +kernel
theorem dX12_days_12 : decode cX12_days 12 = .ok (.isub, 1) := by decide +kernel
theorem dX12_days_13 : decode cX12_days 13 = .ok (.invokestatic 59, 3) := by decide +kernel
theorem dX12_days_16 : decode cX12_days 16 = .ok (.ifCond .ne 5, 3) := by decide +kernel
theorem dX12_days_19 : decode cX12_days 19 = .ok (.iconst (-1), 1) := by decide +kernel
theorem dX12_days_20 : decode cX12_days 20 = .ok (.ireturn, 1) := by decide +kernel
theorem dX12_days_21 : decode cX12_days 21 = .ok (.aload_n 0, 1) := by decide +kernel
theorem dX12_days_22 : decode cX12_days 22 = .ok (.getfield 10, 3) := by decide +kernel
theorem dX12_days_25 : decode cX12_days 25 = .ok (.dup, 1) := by decide +kernel
theorem dX12_days_26 : decode cX12_days 26 = .ok (.getfield 55, 3) := by decide +kernel
theorem dX12_days_29 : decode cX12_days 29 = .ok (.iload_n 1, 1) := by decide +kernel
theorem dX12_days_30 : decode cX12_days 30 = .ok (.iadd, 1) := by decide +kernel
theorem dX12_days_31 : decode cX12_days 31 = .ok (.putfield 55, 3) := by decide +kernel
theorem dX12_days_34 : decode cX12_days 34 = .ok (.aload_n 0, 1) := by decide +kernel
theorem dX12_days_35 : decode cX12_days 35 = .ok (.getfield 10, 3) := by decide +kernel
theorem dX12_days_38 : decode cX12_days 38 = .ok (.getfield 55, 3) := by decide +kernel
theorem dX12_days_41 : decode cX12_days 41 = .ok (.ireturn, 1) := by decide +kernel
theorem dX12_boat_0 : decode cX12_boat 0 = .ok (.aload_n 0, 1) := by decide +kernel
theorem dX12_boat_1 : decode cX12_boat 1 = .ok (.getfield 10, 3) := by decide +kernel
theorem dX12_boat_4 : decode cX12_boat 4 = .ok (.getfield 63, 3) := by decide +kernel
theorem dX12_boat_7 : decode cX12_boat 7 = .ok (.bipush 16, 2) := by decide +kernel
theorem dX12_boat_9 : decode cX12_boat 9 = .ok (.if_icmp .lt 5, 3) := by decide +kernel
theorem dX12_boat_14 : decode cX12_boat 14 = .ok (.aload_n 0, 1) := by decide +kernel
theorem dX12_boat_15 : decode cX12_boat 15 = .ok (.getfield 10, 3) := by decide +kernel
theorem dX12_boat_18 : decode cX12_boat 18 = .ok (.dup, 1) := by decide +kernel
theorem dX12_boat_19 : decode cX12_boat 19 = .ok (.getfield 63, 3) := by decide +kernel
theorem dX12_boat_22 : decode cX12_boat 22 = .ok (.iconst 1, 1) := by decide +kernel
theorem dX12_boat_23 : decode cX12_boat 23 = .ok (.iadd, 1) := by decide +kernel
theorem dX12_boat_24 : decode cX12_boat 24 = .ok (.putfield 63, 3) := by decide +kernel
theorem dX12_boat_27 : decode cX12_boat 27 = .ok (.aload_n 0, 1) := by decide +kernel
theorem dX12_boat_28 : decode cX12_boat 28 = .ok (.getfield 10, 3) := by decide +kernel
theorem dX12_boat_31 : decode cX12_boat 31 = .ok (.getfield 63, 3) := by decide +kernel
theorem dX12_boat_34 : decode cX12_boat 34 = .ok (.iconst 1, 1) := by decide +kernel
theorem dX12_boat_35 : decode cX12_boat 35 = .ok (.isub, 1) := by decide +kernel
theorem dX12_boat_36 : decode cX12_boat 36 = .ok (.ireturn, 1) := by decide +kernel
theorem dX12_certificate_0 : decode cX12_certificate 0 = .ok (.aload_n 0, 1) := by decide +kernel
theorem dX12_certificate_1 : decode cX12_certificate 1 = .ok (.getfield 10, 3) := by decide +kernel
theorem dX12_certificate_4 : decode cX12_certificate 4 = .ok (.iload_n 1, 1) := by decide +kernel
theorem dX12_certificate_5 : decode cX12_certificate 5 = .ok (.invokevirtual 66, 3) := by decide +kernel
theorem dX12_certificate_8 : decode cX12_certificate 8 = .ok (.ifCond .eq 10, 3) := by decide +kernel
theorem dX12_certificate_18 : decode cX12_certificate 18 = .ok (.iconst (-1), 1) := by decide +kernel
theorem dX12_certificate_19 : decode cX12_certificate 19 = .ok (.ireturn, 1) := by decide +kernel
theorem dX12_measured_0 : decode cX12_measured 0 = .ok (.aload_n 0, 1) := by decide +kernel
theorem dX12_measured_1 : decode cX12_measured 1 = .ok (.getfield 10, 3) := by decide +kernel
theorem dX12_measured_4 : decode cX12_measured 4 = .ok (.iload_n 1, 1) := by decide +kernel
theorem dX12_measured_5 : decode cX12_measured 5 = .ok (.invokevirtual 66, 3) := by decide +kernel
theorem dX12_measured_8 : decode cX12_measured 8 = .ok (.ifCond .eq 21, 3) := by decide +kernel
theorem dX12_measured_29 : decode cX12_measured 29 = .ok (.iconst (-1), 1) := by decide +kernel
theorem dX12_measured_30 : decode cX12_measured 30 = .ok (.ireturn, 1) := by decide +kernel
theorem dX12_end_0 : decode cX12_end 0 = .ok (.iload_n 1, 1) := by decide +kernel
theorem dX12_end_1 : decode cX12_end 1 = .ok (.iconst 0, 1) := by decide +kernel
theorem dX12_end_2 : decode cX12_end 2 = .ok (.aload_n 0, 1) := by decide +kernel
theorem dX12_end_3 : decode cX12_end 3 = .ok (.getfield 19, 3) := by decide +kernel
theorem dX12_end_6 : decode cX12_end 6 = .ok (.getfield 103, 3) := by decide +kernel
theorem dX12_end_9 : decode cX12_end 9 = .ok (.invokestatic 59, 3) := by decide +kernel
theorem dX12_end_12 : decode cX12_end 12 = .ok (.ifCond .ne 5, 3) := by decide +kernel
theorem dX12_end_15 : decode cX12_end 15 = .ok (.iconst 0, 1) := by decide +kernel
theorem dX12_end_16 : decode cX12_end 16 = .ok (.ireturn, 1) := by decide +kernel
theorem dX12_end_17 : decode cX12_end 17 = .ok (.aload_n 0, 1) := by decide +kernel
theorem dX12_end_18 : decode cX12_end 18 = .ok (.getfield 19, 3) := by decide +kernel
theorem dX12_end_21 : decode cX12_end 21 = .ok (.iload_n 1, 1) := by decide +kernel
theorem dX12_end_22 : decode cX12_end 22 = .ok (.putfield 103, 3) := by decide +kernel
theorem dX12_end_25 : decode cX12_end 25 = .ok (.iconst 1, 1) := by decide +kernel
theorem dX12_end_26 : decode cX12_end 26 = .ok (.ireturn, 1) := by decide +kernel
theorem dX12_fault_0 : decode cX12_fault 0 = .ok (.aload_n 0, 1) := by decide +kernel
theorem dX12_fault_1 : decode cX12_fault 1 = .ok (.getfield 19, 3) := by decide +kernel
theorem dX12_fault_4 : decode cX12_fault 4 = .ok (.invokevirtual 110, 3) := by decide +kernel
theorem dX12_fault_7 : decode cX12_fault 7 = .ok (.ireturn, 1) := by decide +kernel
theorem dX12_rules_0 : decode cX12_rules 0 = .ok (.iload_n 1, 1) := by decide +kernel
theorem dX12_rules_1 : decode cX12_rules 1 = .ok (.invokestatic 70, 3) := by decide +kernel
theorem dX12_rules_4 : decode cX12_rules 4 = .ok (.ifCond .eq 18, 3) := by decide +kernel
theorem dX12_rules_7 : decode cX12_rules 7 = .ok (.aload_n 0, 1) := by decide +kernel
theorem dX12_rules_8 : decode cX12_rules 8 = .ok (.getfield 10, 3) := by decide +kernel
theorem dX12_rules_11 : decode cX12_rules 11 = .ok (.getfield 113, 3) := by decide +kernel
theorem dX12_rules_14 : decode cX12_rules 14 = .ok (.invokevirtual 77, 3) := by decide +kernel
theorem dX12_rules_17 : decode cX12_rules 17 = .ok (.bipush 16, 2) := by decide +kernel
theorem dX12_rules_19 : decode cX12_rules 19 = .ok (.if_icmp .lt 5, 3) := by decide +kernel
theorem dX12_rules_22 : decode cX12_rules 22 = .ok (.iconst (-1), 1) := by decide +kernel
theorem dX12_rules_23 : decode cX12_rules 23 = .ok (.ireturn, 1) := by decide +kernel
theorem dX12_rules_24 : decode cX12_rules 24 = .ok (.aload_n 0, 1) := by decide +kernel
theorem dX12_rules_25 : decode cX12_rules 25 = .ok (.getfield 19, 3) := by decide +kernel
theorem dX12_rules_28 : decode cX12_rules 28 = .ok (.invokevirtual 110, 3) := by decide +kernel
theorem dX12_rules_31 : decode cX12_rules 31 = .ok (.iconst (-1), 1) := by decide +kernel
theorem dX12_rules_32 : decode cX12_rules 32 = .ok (.if_icmp .eq 5, 3) := by decide +kernel
theorem dX12_rules_35 : decode cX12_rules 35 = .ok (.iconst (-1), 1) := by decide +kernel
theorem dX12_rules_36 : decode cX12_rules 36 = .ok (.ireturn, 1) := by decide +kernel
theorem dX12_force_0 : decode cX12_force 0 = .ok (.iload_n 1, 1) := by decide +kernel
theorem dX12_force_1 : decode cX12_force 1 = .ok (.invokestatic 70, 3) := by decide +kernel
theorem dX12_force_4 : decode cX12_force 4 = .ok (.ifCond .eq 14, 3) := by decide +kernel
theorem dX12_force_7 : decode cX12_force 7 = .ok (.aload_n 0, 1) := by decide +kernel
theorem dX12_force_8 : decode cX12_force 8 = .ok (.getfield 10, 3) := by decide +kernel
theorem dX12_force_11 : decode cX12_force 11 = .ok (.iload_n 2, 1) := by decide +kernel
theorem dX12_force_12 : decode cX12_force 12 = .ok (.invokevirtual 92, 3) := by decide +kernel
theorem dX12_force_15 : decode cX12_force 15 = .ok (.ifCond .ne 5, 3) := by decide +kernel
theorem dX12_force_18 : decode cX12_force 18 = .ok (.iconst (-1), 1) := by decide +kernel
theorem dX12_force_19 : decode cX12_force 19 = .ok (.ireturn, 1) := by decide +kernel
theorem dX12_force_20 : decode cX12_force 20 = .ok (.aload_n 0, 1) := by decide +kernel
theorem dX12_force_21 : decode cX12_force 21 = .ok (.getfield 10, 3) := by decide +kernel
theorem dX12_force_24 : decode cX12_force 24 = .ok (.iload_n 1, 1) := by decide +kernel
theorem dX12_force_25 : decode cX12_force 25 = .ok (.iload_n 2, 1) := by decide +kernel
theorem dX12_force_26 : decode cX12_force 26 = .ok (.invokevirtual 120, 3) := by decide +kernel
theorem dX12_force_29 : decode cX12_force 29 = .ok (.ireturn, 1) := by decide +kernel
theorem dX12_number_0 : decode cX12_number 0 = .ok (.aload_n 0, 1) := by decide +kernel
theorem dX12_number_1 : decode cX12_number 1 = .ok (.getfield 10, 3) := by decide +kernel
theorem dX12_number_4 : decode cX12_number 4 = .ok (.iload_n 1, 1) := by decide +kernel
theorem dX12_number_5 : decode cX12_number 5 = .ok (.invokevirtual 66, 3) := by decide +kernel
theorem dX12_number_8 : decode cX12_number 8 = .ok (.ifCond .eq 21, 3) := by decide +kernel
theorem dX12_number_29 : decode cX12_number 29 = .ok (.iconst (-1), 1) := by decide +kernel
theorem dX12_number_30 : decode cX12_number 30 = .ok (.ireturn, 1) := by decide +kernel
theorem dX12_swift_0 : decode cX12_swift 0 = .ok (.aload_n 0, 1) := by decide +kernel
theorem dX12_swift_1 : decode cX12_swift 1 = .ok (.getfield 10, 3) := by decide +kernel
theorem dX12_swift_4 : decode cX12_swift 4 = .ok (.iload_n 1, 1) := by decide +kernel
theorem dX12_swift_5 : decode cX12_swift 5 = .ok (.invokevirtual 135, 3) := by decide +kernel
theorem dX12_swift_8 : decode cX12_swift 8 = .ok (.ifCond .eq 13, 3) := by decide +kernel
theorem dX12_swift_21 : decode cX12_swift 21 = .ok (.iconst 0, 1) := by decide +kernel
theorem dX12_swift_22 : decode cX12_swift 22 = .ok (.ireturn, 1) := by decide +kernel
theorem dX12_enter_0 : decode cX12_enter 0 = .ok (.aload_n 0, 1) := by decide +kernel
theorem dX12_enter_1 : decode cX12_enter 1 = .ok (.getfield 10, 3) := by decide +kernel
theorem dX12_enter_4 : decode cX12_enter 4 = .ok (.iload_n 1, 1) := by decide +kernel
theorem dX12_enter_5 : decode cX12_enter 5 = .ok (.invokevirtual 135, 3) := by decide +kernel
theorem dX12_enter_8 : decode cX12_enter 8 = .ok (.ifCond .eq 26, 3) := by decide +kernel
theorem dX12_enter_34 : decode cX12_enter 34 = .ok (.iconst 0, 1) := by decide +kernel
theorem dX12_enter_35 : decode cX12_enter 35 = .ok (.ireturn, 1) := by decide +kernel
theorem dX12_result_0 : decode cX12_result 0 = .ok (.aload_n 0, 1) := by decide +kernel
theorem dX12_result_1 : decode cX12_result 1 = .ok (.getfield 10, 3) := by decide +kernel
theorem dX12_result_4 : decode cX12_result 4 = .ok (.iload_n 1, 1) := by decide +kernel
theorem dX12_result_5 : decode cX12_result 5 = .ok (.iload_n 2, 1) := by decide +kernel
theorem dX12_result_6 : decode cX12_result 6 = .ok (.invokevirtual 146, 3) := by decide +kernel
theorem dX12_result_9 : decode cX12_result 9 = .ok (.ifCond .eq 12, 3) := by decide +kernel
theorem dX12_result_21 : decode cX12_result 21 = .ok (.iconst 0, 1) := by decide +kernel
theorem dX12_result_22 : decode cX12_result 22 = .ok (.ireturn, 1) := by decide +kernel
theorem dX12_coded_0 : decode cX12_coded 0 = .ok (.aload_n 0, 1) := by decide +kernel
theorem dX12_coded_1 : decode cX12_coded 1 = .ok (.getfield 10, 3) := by decide +kernel
theorem dX12_coded_4 : decode cX12_coded 4 = .ok (.iload_n 1, 1) := by decide +kernel
theorem dX12_coded_5 : decode cX12_coded 5 = .ok (.iload_n 3, 1) := by decide +kernel
theorem dX12_coded_6 : decode cX12_coded 6 = .ok (.invokevirtual 162, 3) := by decide +kernel
theorem dX12_coded_9 : decode cX12_coded 9 = .ok (.ifCond .eq 14, 3) := by decide +kernel
theorem dX12_coded_23 : decode cX12_coded 23 = .ok (.iconst (-1), 1) := by decide +kernel
theorem dX12_coded_24 : decode cX12_coded 24 = .ok (.ireturn, 1) := by decide +kernel
theorem dX12_corrected_0 : decode cX12_corrected 0 = .ok (.aload_n 0, 1) := by decide +kernel
theorem dX12_corrected_1 : decode cX12_corrected 1 = .ok (.getfield 10, 3) := by decide +kernel
theorem dX12_corrected_4 : decode cX12_corrected 4 = .ok (.iload_n 1, 1) := by decide +kernel
theorem dX12_corrected_5 : decode cX12_corrected 5 = .ok (.iload_n 3, 1) := by decide +kernel
theorem dX12_corrected_6 : decode cX12_corrected 6 = .ok (.invokevirtual 162, 3) := by decide +kernel
theorem dX12_corrected_9 : decode cX12_corrected 9 = .ok (.ifCond .eq 14, 3) := by decide +kernel
theorem dX12_corrected_23 : decode cX12_corrected 23 = .ok (.ldc 172, 2) := by decide +kernel
theorem dX12_corrected_25 : decode cX12_corrected 25 = .ok (.ireturn, 1) := by decide +kernel
theorem dX12_placed_0 : decode cX12_placed 0 = .ok (.aload_n 0, 1) := by decide +kernel
theorem dX12_placed_1 : decode cX12_placed 1 = .ok (.getfield 10, 3) := by decide +kernel
theorem dX12_placed_4 : decode cX12_placed 4 = .ok (.iload_n 1, 1) := by decide +kernel
theorem dX12_placed_5 : decode cX12_placed 5 = .ok (.iload_n 3, 1) := by decide +kernel
theorem dX12_placed_6 : decode cX12_placed 6 = .ok (.invokevirtual 162, 3) := by decide +kernel
theorem dX12_placed_9 : decode cX12_placed 9 = .ok (.ifCond .eq 14, 3) := by decide +kernel
theorem dX12_placed_23 : decode cX12_placed 23 = .ok (.iconst (-1), 1) := by decide +kernel
theorem dX12_placed_24 : decode cX12_placed 24 = .ok (.ireturn, 1) := by decide +kernel
theorem dX12_redress_0 : decode cX12_redress 0 = .ok (.aload_n 0, 1) := by decide +kernel
theorem dX12_redress_1 : decode cX12_redress 1 = .ok (.getfield 10, 3) := by decide +kernel
theorem dX12_redress_4 : decode cX12_redress 4 = .ok (.iload_n 1, 1) := by decide +kernel
theorem dX12_redress_5 : decode cX12_redress 5 = .ok (.iload_n 2, 1) := by decide +kernel
theorem dX12_redress_6 : decode cX12_redress 6 = .ok (.invokevirtual 146, 3) := by decide +kernel
theorem dX12_redress_9 : decode cX12_redress 9 = .ok (.ifCond .eq 15, 3) := by decide +kernel
theorem dX12_redress_24 : decode cX12_redress 24 = .ok (.iconst 0, 1) := by decide +kernel
theorem dX12_redress_25 : decode cX12_redress 25 = .ok (.ireturn, 1) := by decide +kernel
theorem dX12_points_0 : decode cX12_points 0 = .ok (.aload_n 0, 1) := by decide +kernel
theorem dX12_points_1 : decode cX12_points 1 = .ok (.getfield 10, 3) := by decide +kernel
theorem dX12_points_4 : decode cX12_points 4 = .ok (.iload_n 1, 1) := by decide +kernel
theorem dX12_points_5 : decode cX12_points 5 = .ok (.iload_n 3, 1) := by decide +kernel
theorem dX12_points_6 : decode cX12_points 6 = .ok (.invokevirtual 162, 3) := by decide +kernel
theorem dX12_points_9 : decode cX12_points 9 = .ok (.ifCond .eq 14, 3) := by decide +kernel
theorem dX12_points_23 : decode cX12_points 23 = .ok (.iconst (-1), 1) := by decide +kernel
theorem dX12_points_24 : decode cX12_points 24 = .ok (.ireturn, 1) := by decide +kernel
theorem dX12_thrown_0 : decode cX12_thrown 0 = .ok (.aload_n 0, 1) := by decide +kernel
theorem dX12_thrown_1 : decode cX12_thrown 1 = .ok (.getfield 10, 3) := by decide +kernel
theorem dX12_thrown_4 : decode cX12_thrown 4 = .ok (.iload_n 1, 1) := by decide +kernel
theorem dX12_thrown_5 : decode cX12_thrown 5 = .ok (.iload_n 3, 1) := by decide +kernel
theorem dX12_thrown_6 : decode cX12_thrown 6 = .ok (.invokevirtual 162, 3) := by decide +kernel
theorem dX12_thrown_9 : decode cX12_thrown 9 = .ok (.ifCond .eq 14, 3) := by decide +kernel
theorem dX12_thrown_23 : decode cX12_thrown 23 = .ok (.iconst (-1), 1) := by decide +kernel
theorem dX12_thrown_24 : decode cX12_thrown 24 = .ok (.ireturn, 1) := by decide +kernel
theorem dX12_total_0 : decode cX12_total 0 = .ok (.aload_n 0, 1) := by decide +kernel
theorem dX12_total_1 : decode cX12_total 1 = .ok (.getfield 10, 3) := by decide +kernel
theorem dX12_total_4 : decode cX12_total 4 = .ok (.iload_n 1, 1) := by decide +kernel
theorem dX12_total_5 : decode cX12_total 5 = .ok (.invokevirtual 66, 3) := by decide +kernel
theorem dX12_total_8 : decode cX12_total 8 = .ok (.ifCond .eq 14, 3) := by decide +kernel
theorem dX12_total_22 : decode cX12_total 22 = .ok (.iconst (-1), 1) := by decide +kernel
theorem dX12_total_23 : decode cX12_total 23 = .ok (.ireturn, 1) := by decide +kernel
theorem dX12_word_0 : decode cX12_word 0 = .ok (.aload_n 0, 1) := by decide +kernel
theorem dX12_word_1 : decode cX12_word 1 = .ok (.getfield 10, 3) := by decide +kernel
theorem dX12_word_4 : decode cX12_word 4 = .ok (.iload_n 1, 1) := by decide +kernel
theorem dX12_word_5 : decode cX12_word 5 = .ok (.iload_n 2, 1) := by decide +kernel
theorem dX12_word_6 : decode cX12_word 6 = .ok (.invokevirtual 146, 3) := by decide +kernel
theorem dX12_word_9 : decode cX12_word 9 = .ok (.ifCond .eq 13, 3) := by decide +kernel
theorem dX12_word_22 : decode cX12_word 22 = .ok (.iconst (-1), 1) := by decide +kernel
theorem dX12_word_23 : decode cX12_word 23 = .ok (.ireturn, 1) := by decide +kernel
theorem dX12_protest_0 : decode cX12_protest 0 = .ok (.aload_n 0, 1) := by decide +kernel
theorem dX12_protest_1 : decode cX12_protest 1 = .ok (.getfield 10, 3) := by decide +kernel
theorem dX12_protest_4 : decode cX12_protest 4 = .ok (.iload_n 1, 1) := by decide +kernel
theorem dX12_protest_5 : decode cX12_protest 5 = .ok (.iload_n 2, 1) := by decide +kernel
theorem dX12_protest_6 : decode cX12_protest 6 = .ok (.invokevirtual 146, 3) := by decide +kernel
theorem dX12_protest_9 : decode cX12_protest 9 = .ok (.ifCond .eq 20, 3) := by decide +kernel
theorem dX12_protest_29 : decode cX12_protest 29 = .ok (.iconst (-1), 1) := by decide +kernel
theorem dX12_protest_30 : decode cX12_protest 30 = .ok (.ireturn, 1) := by decide +kernel
theorem dX12_states_0 : decode cX12_states 0 = .ok (.aload_n 0, 1) := by decide +kernel
theorem dX12_states_1 : decode cX12_states 1 = .ok (.getfield 10, 3) := by decide +kernel
theorem dX12_states_4 : decode cX12_states 4 = .ok (.iload_n 1, 1) := by decide +kernel
theorem dX12_states_5 : decode cX12_states 5 = .ok (.iload_n 3, 1) := by decide +kernel
theorem dX12_states_6 : decode cX12_states 6 = .ok (.invokevirtual 226, 3) := by decide +kernel
theorem dX12_states_9 : decode cX12_states 9 = .ok (.ifCond .eq 12, 3) := by decide +kernel
theorem dX12_states_21 : decode cX12_states 21 = .ok (.iconst (-1), 1) := by decide +kernel
theorem dX12_states_22 : decode cX12_states 22 = .ok (.ireturn, 1) := by decide +kernel
theorem dX12_finding_0 : decode cX12_finding 0 = .ok (.aload_n 0, 1) := by decide +kernel
theorem dX12_finding_1 : decode cX12_finding 1 = .ok (.getfield 10, 3) := by decide +kernel
theorem dX12_finding_4 : decode cX12_finding 4 = .ok (.iload_n 1, 1) := by decide +kernel
theorem dX12_finding_5 : decode cX12_finding 5 = .ok (.iload_n 3, 1) := by decide +kernel
theorem dX12_finding_6 : decode cX12_finding 6 = .ok (.invokevirtual 226, 3) := by decide +kernel
theorem dX12_finding_9 : decode cX12_finding 9 = .ok (.ifCond .eq 12, 3) := by decide +kernel
theorem dX12_finding_21 : decode cX12_finding 21 = .ok (.iconst (-1), 1) := by decide +kernel
theorem dX12_finding_22 : decode cX12_finding 22 = .ok (.ireturn, 1) := by decide +kernel
theorem dX12_decide_0 : decode cX12_decide 0 = .ok (.aload_n 0, 1) := by decide +kernel
theorem dX12_decide_1 : decode cX12_decide 1 = .ok (.getfield 10, 3) := by decide +kernel
theorem dX12_decide_4 : decode cX12_decide 4 = .ok (.iload_n 1, 1) := by decide +kernel
theorem dX12_decide_5 : decode cX12_decide 5 = .ok (.aload_n 0, 1) := by decide +kernel
theorem dX12_decide_6 : decode cX12_decide 6 = .ok (.getfield 10, 3) := by decide +kernel
theorem dX12_decide_9 : decode cX12_decide 9 = .ok (.getfield 55, 3) := by decide +kernel
theorem dX12_decide_12 : decode cX12_decide 12 = .ok (.invokevirtual 226, 3) := by decide +kernel
theorem dX12_decide_15 : decode cX12_decide 15 = .ok (.ifCond .ne 5, 3) := by decide +kernel
theorem dX12_decide_18 : decode cX12_decide 18 = .ok (.iconst (-1), 1) := by decide +kernel
theorem dX12_decide_19 : decode cX12_decide 19 = .ok (.ireturn, 1) := by decide +kernel
theorem dX12_reopen_0 : decode cX12_reopen 0 = .ok (.aload_n 0, 1) := by decide +kernel
theorem dX12_reopen_1 : decode cX12_reopen 1 = .ok (.getfield 10, 3) := by decide +kernel
theorem dX12_reopen_4 : decode cX12_reopen 4 = .ok (.iload_n 1, 1) := by decide +kernel
theorem dX12_reopen_5 : decode cX12_reopen 5 = .ok (.aload_n 0, 1) := by decide +kernel
theorem dX12_reopen_6 : decode cX12_reopen 6 = .ok (.getfield 10, 3) := by decide +kernel
theorem dX12_reopen_9 : decode cX12_reopen 9 = .ok (.getfield 55, 3) := by decide +kernel
theorem dX12_reopen_12 : decode cX12_reopen 12 = .ok (.invokevirtual 226, 3) := by decide +kernel
theorem dX12_reopen_15 : decode cX12_reopen 15 = .ok (.ifCond .ne 5, 3) := by decide +kernel
theorem dX12_reopen_18 : decode cX12_reopen 18 = .ok (.iconst 0, 1) := by decide +kernel
theorem dX12_reopen_19 : decode cX12_reopen 19 = .ok (.ireturn, 1) := by decide +kernel
theorem dX12_even_0 : decode cX12_even 0 = .ok (.aload_n 0, 1) := by decide +kernel
theorem dX12_even_1 : decode cX12_even 1 = .ok (.getfield 10, 3) := by decide +kernel
theorem dX12_even_4 : decode cX12_even 4 = .ok (.iload_n 1, 1) := by decide +kernel
theorem dX12_even_5 : decode cX12_even 5 = .ok (.invokevirtual 246, 3) := by decide +kernel
theorem dX12_even_8 : decode cX12_even 8 = .ok (.ifCond .ne 5, 3) := by decide +kernel
theorem dX12_even_11 : decode cX12_even 11 = .ok (.iconst (-1), 1) := by decide +kernel
theorem dX12_even_12 : decode cX12_even 12 = .ok (.ireturn, 1) := by decide +kernel
theorem dX12_change_0 : decode cX12_change 0 = .ok (.aload_n 0, 1) := by decide +kernel
theorem dX12_change_1 : decode cX12_change 1 = .ok (.getfield 10, 3) := by decide +kernel
theorem dX12_change_4 : decode cX12_change 4 = .ok (.iload_n 1, 1) := by decide +kernel
theorem dX12_change_5 : decode cX12_change 5 = .ok (.invokevirtual 246, 3) := by decide +kernel
theorem dX12_change_8 : decode cX12_change 8 = .ok (.ifCond .eq 22, 3) := by decide +kernel
theorem dX12_change_30 : decode cX12_change 30 = .ok (.ldc 172, 2) := by decide +kernel
theorem dX12_change_32 : decode cX12_change 32 = .ok (.ireturn, 1) := by decide +kernel
theorem dX12_middle_0 : decode cX12_middle 0 = .ok (.aload_n 0, 1) := by decide +kernel
theorem dX12_middle_1 : decode cX12_middle 1 = .ok (.getfield 10, 3) := by decide +kernel
theorem dX12_middle_4 : decode cX12_middle 4 = .ok (.iload_n 1, 1) := by decide +kernel
theorem dX12_middle_5 : decode cX12_middle 5 = .ok (.invokevirtual 135, 3) := by decide +kernel
theorem dX12_middle_8 : decode cX12_middle 8 = .ok (.ifCond .eq 14, 3) := by decide +kernel
theorem dX12_middle_22 : decode cX12_middle 22 = .ok (.ldc 172, 2) := by decide +kernel
theorem dX12_middle_24 : decode cX12_middle 24 = .ok (.ireturn, 1) := by decide +kernel
theorem dX12_fit_0 : decode cX12_fit 0 = .ok (.aload_n 0, 1) := by decide +kernel
theorem dX12_fit_1 : decode cX12_fit 1 = .ok (.getfield 10, 3) := by decide +kernel
theorem dX12_fit_4 : decode cX12_fit 4 = .ok (.iload_n 1, 1) := by decide +kernel
theorem dX12_fit_5 : decode cX12_fit 5 = .ok (.invokevirtual 66, 3) := by decide +kernel
theorem dX12_fit_8 : decode cX12_fit 8 = .ok (.ifCond .ne 5, 3) := by decide +kernel
theorem dX12_fit_11 : decode cX12_fit 11 = .ok (.iconst (-1), 1) := by decide +kernel
theorem dX12_fit_12 : decode cX12_fit 12 = .ok (.ireturn, 1) := by decide +kernel
theorem dX12_suspect_0 : decode cX12_suspect 0 = .ok (.aload_n 0, 1) := by decide +kernel
theorem dX12_suspect_1 : decode cX12_suspect 1 = .ok (.getfield 10, 3) := by decide +kernel
theorem dX12_suspect_4 : decode cX12_suspect 4 = .ok (.iload_n 1, 1) := by decide +kernel
theorem dX12_suspect_5 : decode cX12_suspect 5 = .ok (.invokevirtual 66, 3) := by decide +kernel
theorem dX12_suspect_8 : decode cX12_suspect 8 = .ok (.ifCond .eq 12, 3) := by decide +kernel
theorem dX12_suspect_20 : decode cX12_suspect 20 = .ok (.ldc 172, 2) := by decide +kernel
theorem dX12_suspect_22 : decode cX12_suspect 22 = .ok (.ireturn, 1) := by decide +kernel
theorem dX12_start_0 : decode cX12_start 0 = .ok (.aload_n 0, 1) := by decide +kernel
theorem dX12_start_1 : decode cX12_start 1 = .ok (.getfield 10, 3) := by decide +kernel
theorem dX12_start_4 : decode cX12_start 4 = .ok (.iload_n 1, 1) := by decide +kernel
theorem dX12_start_5 : decode cX12_start 5 = .ok (.iload_n 2, 1) := by decide +kernel
theorem dX12_start_6 : decode cX12_start 6 = .ok (.invokevirtual 146, 3) := by decide +kernel
theorem dX12_start_9 : decode cX12_start 9 = .ok (.ifCond .eq 25, 3) := by decide +kernel
theorem dX12_start_34 : decode cX12_start 34 = .ok (.iconst 0, 1) := by decide +kernel
theorem dX12_start_35 : decode cX12_start 35 = .ok (.ireturn, 1) := by decide +kernel
theorem dX12_lean_0 : decode cX12_lean 0 = .ok (.aload_n 0, 1) := by decide +kernel
theorem dX12_lean_1 : decode cX12_lean 1 = .ok (.getfield 10, 3) := by decide +kernel
theorem dX12_lean_4 : decode cX12_lean 4 = .ok (.iload_n 1, 1) := by decide +kernel
theorem dX12_lean_5 : decode cX12_lean 5 = .ok (.invokevirtual 135, 3) := by decide +kernel
theorem dX12_lean_8 : decode cX12_lean 8 = .ok (.ifCond .ne 6, 3) := by decide +kernel
theorem dX12_lean_11 : decode cX12_lean 11 = .ok (.ldc 172, 2) := by decide +kernel
theorem dX12_lean_13 : decode cX12_lean 13 = .ok (.ireturn, 1) := by decide +kernel
theorem dX12_count_0 : decode cX12_count 0 = .ok (.iload_n 1, 1) := by decide +kernel
theorem dX12_count_1 : decode cX12_count 1 = .ok (.tableswitch 165 0 10 #[59, 67, 75, 86, 97, 108, 119, 130, 141, 149, 157], 59) := by decide +kernel
theorem dX12_count_60 : decode cX12_count 60 = .ok (.aload_n 0, 1) := by decide +kernel
theorem dX12_count_61 : decode cX12_count 61 = .ok (.getfield 10, 3) := by decide +kernel
theorem dX12_count_64 : decode cX12_count 64 = .ok (.getfield 55, 3) := by decide +kernel
theorem dX12_count_67 : decode cX12_count 67 = .ok (.ireturn, 1) := by decide +kernel
theorem dX12_count_68 : decode cX12_count 68 = .ok (.aload_n 0, 1) := by decide +kernel
theorem dX12_count_69 : decode cX12_count 69 = .ok (.getfield 10, 3) := by decide +kernel
theorem dX12_count_72 : decode cX12_count 72 = .ok (.getfield 63, 3) := by decide +kernel
theorem dX12_count_75 : decode cX12_count 75 = .ok (.ireturn, 1) := by decide +kernel
theorem dX12_count_76 : decode cX12_count 76 = .ok (.aload_n 0, 1) := by decide +kernel
theorem dX12_count_77 : decode cX12_count 77 = .ok (.getfield 10, 3) := by decide +kernel
theorem dX12_count_80 : decode cX12_count 80 = .ok (.getfield 73, 3) := by decide +kernel
theorem dX12_count_83 : decode cX12_count 83 = .ok (.invokevirtual 77, 3) := by decide +kernel
theorem dX12_count_86 : decode cX12_count 86 = .ok (.ireturn, 1) := by decide +kernel
theorem dX12_count_87 : decode cX12_count 87 = .ok (.aload_n 0, 1) := by decide +kernel
theorem dX12_count_88 : decode cX12_count 88 = .ok (.getfield 10, 3) := by decide +kernel
theorem dX12_count_91 : decode cX12_count 91 = .ok (.getfield 113, 3) := by decide +kernel
theorem dX12_count_94 : decode cX12_count 94 = .ok (.invokevirtual 77, 3) := by decide +kernel
theorem dX12_count_97 : decode cX12_count 97 = .ok (.ireturn, 1) := by decide +kernel
theorem dX12_count_98 : decode cX12_count 98 = .ok (.aload_n 0, 1) := by decide +kernel
theorem dX12_count_99 : decode cX12_count 99 = .ok (.getfield 10, 3) := by decide +kernel
theorem dX12_count_102 : decode cX12_count 102 = .ok (.getfield 127, 3) := by decide +kernel
theorem dX12_count_105 : decode cX12_count 105 = .ok (.invokevirtual 77, 3) := by decide +kernel
theorem dX12_count_108 : decode cX12_count 108 = .ok (.ireturn, 1) := by decide +kernel
theorem dX12_count_109 : decode cX12_count 109 = .ok (.aload_n 0, 1) := by decide +kernel
theorem dX12_count_110 : decode cX12_count 110 = .ok (.getfield 10, 3) := by decide +kernel
theorem dX12_count_113 : decode cX12_count 113 = .ok (.getfield 154, 3) := by decide +kernel
theorem dX12_count_116 : decode cX12_count 116 = .ok (.invokevirtual 77, 3) := by decide +kernel
theorem dX12_count_119 : decode cX12_count 119 = .ok (.ireturn, 1) := by decide +kernel
theorem dX12_count_120 : decode cX12_count 120 = .ok (.aload_n 0, 1) := by decide +kernel
theorem dX12_count_121 : decode cX12_count 121 = .ok (.getfield 10, 3) := by decide +kernel
theorem dX12_count_124 : decode cX12_count 124 = .ok (.getfield 209, 3) := by decide +kernel
theorem dX12_count_127 : decode cX12_count 127 = .ok (.invokevirtual 77, 3) := by decide +kernel
theorem dX12_count_130 : decode cX12_count 130 = .ok (.ireturn, 1) := by decide +kernel
theorem dX12_count_131 : decode cX12_count 131 = .ok (.aload_n 0, 1) := by decide +kernel
theorem dX12_count_132 : decode cX12_count 132 = .ok (.getfield 10, 3) := by decide +kernel
theorem dX12_count_135 : decode cX12_count 135 = .ok (.getfield 220, 3) := by decide +kernel
theorem dX12_count_138 : decode cX12_count 138 = .ok (.invokevirtual 77, 3) := by decide +kernel
theorem dX12_count_141 : decode cX12_count 141 = .ok (.ireturn, 1) := by decide +kernel
theorem dX12_count_142 : decode cX12_count 142 = .ok (.aload_n 0, 1) := by decide +kernel
theorem dX12_count_143 : decode cX12_count 143 = .ok (.getfield 19, 3) := by decide +kernel
theorem dX12_count_146 : decode cX12_count 146 = .ok (.getfield 103, 3) := by decide +kernel
theorem dX12_count_149 : decode cX12_count 149 = .ok (.ireturn, 1) := by decide +kernel
theorem dX12_count_150 : decode cX12_count 150 = .ok (.aload_n 0, 1) := by decide +kernel
theorem dX12_count_151 : decode cX12_count 151 = .ok (.getfield 10, 3) := by decide +kernel
theorem dX12_count_154 : decode cX12_count 154 = .ok (.getfield 181, 3) := by decide +kernel
theorem dX12_count_157 : decode cX12_count 157 = .ok (.ireturn, 1) := by decide +kernel
theorem dX12_count_158 : decode cX12_count 158 = .ok (.aload_n 0, 1) := by decide +kernel
theorem dX12_count_159 : decode cX12_count 159 = .ok (.getfield 10, 3) := by decide +kernel
theorem dX12_count_162 : decode cX12_count 162 = .ok (.invokevirtual 328, 3) := by decide +kernel
theorem dX12_count_165 : decode cX12_count 165 = .ok (.ireturn, 1) := by decide +kernel
theorem dX12_count_166 : decode cX12_count 166 = .ok (.iconst (-1), 1) := by decide +kernel
theorem dX12_count_167 : decode cX12_count 167 = .ok (.ireturn, 1) := by decide +kernel
theorem dX12_within_0 : decode cX12_within 0 = .ok (.iload_n 0, 1) := by decide +kernel
theorem dX12_within_1 : decode cX12_within 1 = .ok (.iload_n 1, 1) := by decide +kernel
theorem dX12_within_2 : decode cX12_within 2 = .ok (.if_icmp .lt 12, 3) := by decide +kernel
theorem dX12_within_5 : decode cX12_within 5 = .ok (.iload_n 0, 1) := by decide +kernel
theorem dX12_within_6 : decode cX12_within 6 = .ok (.iload_n 2, 1) := by decide +kernel
theorem dX12_within_7 : decode cX12_within 7 = .ok (.if_icmp .gt 7, 3) := by decide +kernel
theorem dX12_within_10 : decode cX12_within 10 = .ok (.iconst 1, 1) := by decide +kernel
theorem dX12_within_11 : decode cX12_within 11 = .ok (.goto 4, 3) := by decide +kernel
theorem dX12_within_14 : decode cX12_within 14 = .ok (.iconst 0, 1) := by decide +kernel
theorem dX12_within_15 : decode cX12_within 15 = .ok (.ireturn, 1) := by decide +kernel
theorem dX12_held_0 : decode cX12_held 0 = .ok (.iload_n 0, 1) := by decide +kernel
theorem dX12_held_1 : decode cX12_held 1 = .ok (.iload_n 1, 1) := by decide +kernel
theorem dX12_held_2 : decode cX12_held 2 = .ok (.if_icmp .ge 7, 3) := by decide +kernel
theorem dX12_held_9 : decode cX12_held 9 = .ok (.iload_n 0, 1) := by decide +kernel
theorem dX12_held_10 : decode cX12_held 10 = .ok (.iload_n 2, 1) := by decide +kernel
theorem dX12_held_11 : decode cX12_held 11 = .ok (.if_icmp .le 7, 3) := by decide +kernel
theorem dX12_held_18 : decode cX12_held 18 = .ok (.iload_n 0, 1) := by decide +kernel
theorem dX12_held_19 : decode cX12_held 19 = .ok (.ireturn, 1) := by decide +kernel
theorem dX12_isDay_0 : decode cX12_isDay 0 = .ok (.iload_n 0, 1) := by decide +kernel
theorem dX12_isDay_1 : decode cX12_isDay 1 = .ok (.iconst 0, 1) := by decide +kernel
theorem dX12_isDay_2 : decode cX12_isDay 2 = .ok (.sipush 400, 3) := by decide +kernel
theorem dX12_isDay_5 : decode cX12_isDay 5 = .ok (.invokestatic 59, 3) := by decide +kernel
theorem dX12_isDay_8 : decode cX12_isDay 8 = .ok (.ireturn, 1) := by decide +kernel
theorem dX12_isOneOf_0 : decode cX12_isOneOf 0 = .ok (.iload_n 1, 1) := by decide +kernel
theorem dX12_isOneOf_1 : decode cX12_isOneOf 1 = .ok (.ifCond .le 16, 3) := by decide +kernel
theorem dX12_isOneOf_17 : decode cX12_isOneOf 17 = .ok (.iconst 0, 1) := by decide +kernel
theorem dX12_isOneOf_18 : decode cX12_isOneOf 18 = .ok (.ireturn, 1) := by decide +kernel
theorem dX13_certOn_0 : decode cX13_certOn 0 = .ok (.iconst (-1), 1) := by decide +kernel
theorem dX13_certOn_1 : decode cX13_certOn 1 = .ok (.istore 4, 2) := by decide +kernel
theorem dX13_certOn_3 : decode cX13_certOn 3 = .ok (.iconst 0, 1) := by decide +kernel
theorem dX13_certOn_4 : decode cX13_certOn 4 = .ok (.istore 5, 2) := by decide +kernel
theorem dX13_certOn_6 : decode cX13_certOn 6 = .ok (.iload 5, 2) := by decide +kernel
theorem dX13_certOn_8 : decode cX13_certOn 8 = .ok (.aload_n 0, 1) := by decide +kernel
theorem dX13_certOn_9 : decode cX13_certOn 9 = .ok (.getfield 242, 3) := by decide +kernel
theorem dX13_certOn_12 : decode cX13_certOn 12 = .ok (.if_icmp .ge 69, 3) := by decide +kernel
theorem dX13_certOn_15 : decode cX13_certOn 15 = .ok (.aload_n 0, 1) := by decide +kernel
theorem dX13_certOn_16 : decode cX13_certOn 16 = .ok (.getfield 9, 3) := by decide +kernel
theorem dX13_certOn_19 : decode cX13_certOn 19 = .ok (.iload 5, 2) := by decide +kernel
theorem dX13_certOn_21 : decode cX13_certOn 21 = .ok (.iaload, 1) := by decide +kernel
theorem dX13_certOn_22 : decode cX13_certOn 22 = .ok (.iload_n 1, 1) := by decide +kernel
theorem dX13_certOn_23 : decode cX13_certOn 23 = .ok (.if_icmp .ne 52, 3) := by decide +kernel
theorem dX13_certOn_26 : decode cX13_certOn 26 = .ok (.aload_n 0, 1) := by decide +kernel
theorem dX13_certOn_27 : decode cX13_certOn 27 = .ok (.getfield 25, 3) := by decide +kernel
theorem dX13_certOn_30 : decode cX13_certOn 30 = .ok (.iload 5, 2) := by decide +kernel
theorem dX13_certOn_32 : decode cX13_certOn 32 = .ok (.iaload, 1) := by decide +kernel
theorem dX13_certOn_33 : decode cX13_certOn 33 = .ok (.iload_n 3, 1) := by decide +kernel
theorem dX13_certOn_34 : decode cX13_certOn 34 = .ok (.if_icmp .gt 41, 3) := by decide +kernel
theorem dX13_certOn_37 : decode cX13_certOn 37 = .ok (.aload_n 0, 1) := by decide +kernel
theorem dX13_certOn_38 : decode cX13_certOn 38 = .ok (.getfield 13, 3) := by decide +kernel
theorem dX13_certOn_41 : decode cX13_certOn 41 = .ok (.iload 5, 2) := by decide +kernel
theorem dX13_certOn_43 : decode cX13_certOn 43 = .ok (.iaload, 1) := by decide +kernel
theorem dX13_certOn_44 : decode cX13_certOn 44 = .ok (.iload_n 2, 1) := by decide +kernel
theorem dX13_certOn_45 : decode cX13_certOn 45 = .ok (.if_icmp .gt 30, 3) := by decide +kernel
theorem dX13_certOn_48 : decode cX13_certOn 48 = .ok (.iload 4, 2) := by decide +kernel
theorem dX13_certOn_50 : decode cX13_certOn 50 = .ok (.iconst (-1), 1) := by decide +kernel
theorem dX13_certOn_51 : decode cX13_certOn 51 = .ok (.if_icmp .eq 20, 3) := by decide +kernel
theorem dX13_certOn_54 : decode cX13_certOn 54 = .ok (.aload_n 0, 1) := by decide +kernel
theorem dX13_certOn_55 : decode cX13_certOn 55 = .ok (.getfield 13, 3) := by decide +kernel
theorem dX13_certOn_58 : decode cX13_certOn 58 = .ok (.iload 5, 2) := by decide +kernel
theorem dX13_certOn_60 : decode cX13_certOn 60 = .ok (.iaload, 1) := by decide +kernel
theorem dX13_certOn_61 : decode cX13_certOn 61 = .ok (.aload_n 0, 1) := by decide +kernel
theorem dX13_certOn_62 : decode cX13_certOn 62 = .ok (.getfield 13, 3) := by decide +kernel
theorem dX13_certOn_65 : decode cX13_certOn 65 = .ok (.iload 4, 2) := by decide +kernel
theorem dX13_certOn_67 : decode cX13_certOn 67 = .ok (.iaload, 1) := by decide +kernel
theorem dX13_certOn_68 : decode cX13_certOn 68 = .ok (.if_icmp .lt 7, 3) := by decide +kernel
theorem dX13_certOn_71 : decode cX13_certOn 71 = .ok (.iload 5, 2) := by decide +kernel
theorem dX13_certOn_73 : decode cX13_certOn 73 = .ok (.istore 4, 2) := by decide +kernel
theorem dX13_certOn_75 : decode cX13_certOn 75 = .ok (.iinc 5 1, 3) := by decide +kernel
theorem dX13_certOn_78 : decode cX13_certOn 78 = .ok (.goto (-72), 3) := by decide +kernel
theorem dX13_certOn_81 : decode cX13_certOn 81 = .ok (.iload 4, 2) := by decide +kernel
theorem dX13_certOn_83 : decode cX13_certOn 83 = .ok (.ireturn, 1) := by decide +kernel
theorem dJ6_bitCount_0f7a4_0 : decode cJ6_bitCount_0f7a4 0 = .ok (.iload_n 0, 1) := by decide +kernel
theorem dJ6_bitCount_0f7a4_1 : decode cJ6_bitCount_0f7a4 1 = .ok (.iload_n 0, 1) := by decide +kernel
theorem dJ6_bitCount_0f7a4_2 : decode cJ6_bitCount_0f7a4 2 = .ok (.iconst 1, 1) := by decide +kernel
theorem dJ6_bitCount_0f7a4_3 : decode cJ6_bitCount_0f7a4 3 = .ok (.iushr, 1) := by decide +kernel
theorem dJ6_bitCount_0f7a4_4 : decode cJ6_bitCount_0f7a4 4 = .ok (.ldc_w 265, 3) := by decide +kernel
theorem dJ6_bitCount_0f7a4_7 : decode cJ6_bitCount_0f7a4 7 = .ok (.iand, 1) := by decide +kernel
theorem dJ6_bitCount_0f7a4_8 : decode cJ6_bitCount_0f7a4 8 = .ok (.isub, 1) := by decide +kernel
theorem dJ6_bitCount_0f7a4_9 : decode cJ6_bitCount_0f7a4 9 = .ok (.istore_n 0, 1) := by decide +kernel
theorem dJ6_bitCount_0f7a4_10 : decode cJ6_bitCount_0f7a4 10 = .ok (.iload_n 0, 1) := by decide +kernel
theorem dJ6_bitCount_0f7a4_11 : decode cJ6_bitCount_0f7a4 11 = .ok (.ldc_w 266, 3) := by decide +kernel
theorem dJ6_bitCount_0f7a4_14 : decode cJ6_bitCount_0f7a4 14 = .ok (.iand, 1) := by decide +kernel
theorem dJ6_bitCount_0f7a4_15 : decode cJ6_bitCount_0f7a4 15 = .ok (.iload_n 0, 1) := by decide +kernel
theorem dJ6_bitCount_0f7a4_16 : decode cJ6_bitCount_0f7a4 16 = .ok (.iconst 2, 1) := by decide +kernel
theorem dJ6_bitCount_0f7a4_17 : decode cJ6_bitCount_0f7a4 17 = .ok (.iushr, 1) := by decide +kernel
theorem dJ6_bitCount_0f7a4_18 : decode cJ6_bitCount_0f7a4 18 = .ok (.ldc_w 266, 3) := by decide +kernel
theorem dJ6_bitCount_0f7a4_21 : decode cJ6_bitCount_0f7a4 21 = .ok (.iand, 1) := by decide +kernel
theorem dJ6_bitCount_0f7a4_22 : decode cJ6_bitCount_0f7a4 22 = .ok (.iadd, 1) := by decide +kernel
theorem dJ6_bitCount_0f7a4_23 : decode cJ6_bitCount_0f7a4 23 = .ok (.istore_n 0, 1) := by decide +kernel
theorem dJ6_bitCount_0f7a4_24 : decode cJ6_bitCount_0f7a4 24 = .ok (.iload_n 0, 1) := by decide +kernel
theorem dJ6_bitCount_0f7a4_25 : decode cJ6_bitCount_0f7a4 25 = .ok (.iload_n 0, 1) := by decide +kernel
theorem dJ6_bitCount_0f7a4_26 : decode cJ6_bitCount_0f7a4 26 = .ok (.iconst 4, 1) := by decide +kernel
theorem dJ6_bitCount_0f7a4_27 : decode cJ6_bitCount_0f7a4 27 = .ok (.iushr, 1) := by decide +kernel
theorem dJ6_bitCount_0f7a4_28 : decode cJ6_bitCount_0f7a4 28 = .ok (.iadd, 1) := by decide +kernel
theorem dJ6_bitCount_0f7a4_29 : decode cJ6_bitCount_0f7a4 29 = .ok (.ldc_w 267, 3) := by decide +kernel
theorem dJ6_bitCount_0f7a4_32 : decode cJ6_bitCount_0f7a4 32 = .ok (.iand, 1) := by decide +kernel
theorem dJ6_bitCount_0f7a4_33 : decode cJ6_bitCount_0f7a4 33 = .ok (.istore_n 0, 1) := by decide +kernel
theorem dJ6_bitCount_0f7a4_34 : decode cJ6_bitCount_0f7a4 34 = .ok (.iload_n 0, 1) := by decide +kernel
theorem dJ6_bitCount_0f7a4_35 : decode cJ6_bitCount_0f7a4 35 = .ok (.iload_n 0, 1) := by decide +kernel
theorem dJ6_bitCount_0f7a4_36 : decode cJ6_bitCount_0f7a4 36 = .ok (.bipush 8, 2) := by decide +kernel
theorem dJ6_bitCount_0f7a4_38 : decode cJ6_bitCount_0f7a4 38 = .ok (.iushr, 1) := by decide +kernel
theorem dJ6_bitCount_0f7a4_39 : decode cJ6_bitCount_0f7a4 39 = .ok (.iadd, 1) := by decide +kernel
theorem dJ6_bitCount_0f7a4_40 : decode cJ6_bitCount_0f7a4 40 = .ok (.istore_n 0, 1) := by decide +kernel
theorem dJ6_bitCount_0f7a4_41 : decode cJ6_bitCount_0f7a4 41 = .ok (.iload_n 0, 1) := by decide +kernel
theorem dJ6_bitCount_0f7a4_42 : decode cJ6_bitCount_0f7a4 42 = .ok (.iload_n 0, 1) := by decide +kernel
theorem dJ6_bitCount_0f7a4_43 : decode cJ6_bitCount_0f7a4 43 = .ok (.bipush 16, 2) := by decide +kernel
theorem dJ6_bitCount_0f7a4_45 : decode cJ6_bitCount_0f7a4 45 = .ok (.iushr, 1) := by decide +kernel
theorem dJ6_bitCount_0f7a4_46 : decode cJ6_bitCount_0f7a4 46 = .ok (.iadd, 1) := by decide +kernel
theorem dJ6_bitCount_0f7a4_47 : decode cJ6_bitCount_0f7a4 47 = .ok (.istore_n 0, 1) := by decide +kernel
theorem dJ6_bitCount_0f7a4_48 : decode cJ6_bitCount_0f7a4 48 = .ok (.iload_n 0, 1) := by decide +kernel
theorem dJ6_bitCount_0f7a4_49 : decode cJ6_bitCount_0f7a4 49 = .ok (.bipush 63, 2) := by decide +kernel
theorem dJ6_bitCount_0f7a4_51 : decode cJ6_bitCount_0f7a4 51 = .ok (.iand, 1) := by decide +kernel
theorem dJ6_bitCount_0f7a4_52 : decode cJ6_bitCount_0f7a4 52 = .ok (.ireturn, 1) := by decide +kernel
theorem dJx4a65c_size_8abf5_0 : decode cJx4a65c_size_8abf5 0 = .ok (.aload_n 0, 1) := by decide +kernel
theorem dJx4a65c_size_8abf5_1 : decode cJx4a65c_size_8abf5 1 = .ok (.getfield 48, 3) := by decide +kernel
theorem dJx4a65c_size_8abf5_4 : decode cJx4a65c_size_8abf5 4 = .ok (.ireturn, 1) := by decide +kernel
def A_c_within : List Cond := []
def v_c_within : List Cond := .code yX12_within cX12_within 3 (some .boolean) :: (A_c_within)
set_option maxHeartbeats 4000000 in
set_option maxRecDepth 100000 in
theorem c_within (l : Launch) (n : Int32) (lo : Int32) (hi : Int32)  : Met l yX12_within v_c_within ({ frames := 0, cells := 0, slots := 0, locals := 0 }) (va_Pc [.int n, .int lo, .int hi] (fun _ => True)) (va_Qi (S := Unit) (fun r _ => (r = 1 ∧ ¬ n < lo ∧ ¬ hi < n) ∨ (r = 0 ∧ (n < lo ∨ hi < n))) (fun _ _ => True) (fun _ => False)) 0 0 (fun _ => False) := by
  refine Met.ofW (cc := cX12_within) (maxL := 3) (ret := (some .boolean)) (by decide) rfl ?_
  intro p e s m args below meth c s₁ B hml hv
  obtain ⟨rfl, -⟩ := hv
  have hx := B.exec
  have hb := B.bytes
  have hr := B.returns
  have hts := atoms_spec (ws := v_c_within) B.pre
  have hown : s.vm.findClass RX12 = some m.cls := findClass_of_methodNamed B.named
  have hlocks := B.notSynchronized
  have hS : va_S (fun _ : Nat => False) s.heap s.heap [] := va_S.rf
  have hl := lv_entry ([.int n, .int lo, .int hi]) (n := 3) (Nat.le_of_ble_eq_true rfl)
  rw [lg_entry_eq]
  generalize (lg_sl ([.int n, .int lo, .int hi]) ++ List.replicate (3 - (lg_sl ([.int n, .int lo, .int hi])).length) Slot.unset).toArray = ls at hl ⊢
  have hl : lv_has ls 3 [(0, .int n), (1, .int lo), (2, .int hi)] := hl
  refine lv_iload_n hx hb dX12_within_0 rfl (lv_at hl 0 rfl) ?_
  refine lv_iload_n hx hb dX12_within_1 rfl (lv_at hl 1 rfl) ?_
  refine lv_icmp_lt (tgt := 14) hx hb dX12_within_2 (by decide) (fun c1 => ?_) (fun c1 => ?_)
  · --n < lo
    refine lv_iconst (v := 0) hx hb dX12_within_14 (by decide) ?_
    exact W.zret (v := (0)) hx hb hr rfl (fun t ht hW => ⟨⟨(0), (), rfl, Or.inr ⟨rfl, Or.inl c1⟩, trivial⟩, hS.F ht⟩) hS.2.2 dX12_within_15
  · --¬ n < lo
    refine lv_iload_n hx hb dX12_within_5 rfl (lv_at hl 0 rfl) ?_
    refine lv_iload_n hx hb dX12_within_6 rfl (lv_at hl 2 rfl) ?_
    refine lv_icmp_gt (tgt := 14) hx hb dX12_within_7 (by decide) (fun c2 => ?_) (fun c2 => ?_)
    · --hi < n
      refine lv_iconst (v := 0) hx hb dX12_within_14 (by decide) ?_
      exact W.zret (v := (0)) hx hb hr rfl (fun t ht hW => ⟨⟨(0), (), rfl, Or.inr ⟨rfl, Or.inr c2⟩, trivial⟩, hS.F ht⟩) hS.2.2 dX12_within_15
    · --¬ hi < n
      refine lv_iconst (v := 1) hx hb dX12_within_10 (by decide) ?_
      refine lv_goto (tgt := 15) hx hb dX12_within_11 (by decide) ?_
      exact W.zret (v := (1)) hx hb hr rfl (fun t ht hW => ⟨⟨(1), (), rfl, Or.inl ⟨rfl, c1, c2⟩, trivial⟩, hS.F ht⟩) hS.2.2 dX12_within_15
def A_c_isDay : List Cond := [.methodLink RX12 59 yX12_within, .static yX12_within, .initialized RX12, .code yX12_within cX12_within 3 (some .boolean)]
def v_c_isDay : List Cond := .code yX12_isDay cX12_isDay 1 (some .boolean) :: (A_c_isDay)
theorem gb_c_isDay_c_within0 : GoodIn v_c_isDay (.code yX12_within cX12_within 3 (some .boolean) :: A_c_within) := (List.forall_mem_cons.mpr ⟨⟨List.mem_of_getElem? (i := 4) rfl, good_of_word rfl⟩, (fun _ h => nomatch h)⟩)
theorem gb_c_isDay_c_within : GoodIn v_c_isDay v_c_within := gb_c_isDay_c_within0
theorem g_c_isDay_c_within_59 : GoodIn v_c_isDay (va_wsS RX12 59 yX12_within v_c_within) := goodIn_app (List.forall_mem_cons.mpr ⟨⟨List.mem_of_getElem? (i := 1) rfl, good_of_word rfl⟩, (List.forall_mem_cons.mpr ⟨⟨List.mem_of_getElem? (i := 2) rfl, good_of_word rfl⟩, (List.forall_mem_cons.mpr ⟨⟨List.mem_of_getElem? (i := 3) rfl, good_of_word rfl⟩, (fun _ h => nomatch h)⟩)⟩)⟩) gb_c_isDay_c_within
set_option maxHeartbeats 4000000 in
set_option maxRecDepth 100000 in
theorem c_isDay (l : Launch) (n : Int32)  : Met l yX12_isDay v_c_isDay ({ frames := 1, cells := 0, slots := 0, locals := 40 }) (va_Pc [.int n] (fun _ => True)) (va_Qi (S := Unit) (fun r _ => (r = 1 ∧ ¬ n < 0 ∧ ¬ 400 < n) ∨ (r = 0 ∧ (n < 0 ∨ 400 < n))) (fun _ _ => True) (fun _ => False)) 0 0 (fun _ => False) := by
  refine Met.ofW (cc := cX12_isDay) (maxL := 1) (ret := (some .boolean)) (by decide) rfl ?_
  intro p e s m args below meth c s₁ B hml hv
  obtain ⟨rfl, -⟩ := hv
  have hx := B.exec
  have hb := B.bytes
  have hr := B.returns
  have hts := atoms_spec (ws := v_c_isDay) B.pre
  have hown : s.vm.findClass RX12 = some m.cls := findClass_of_methodNamed B.named
  have hlocks := B.notSynchronized
  have hS : va_S (fun _ : Nat => False) s.heap s.heap [] := va_S.rf
  have hl := lv_entry ([.int n]) (n := 1) (Nat.le_of_ble_eq_true rfl)
  rw [lg_entry_eq]
  generalize (lg_sl ([.int n]) ++ List.replicate (1 - (lg_sl ([.int n])).length) Slot.unset).toArray = ls at hl ⊢
  have hl : lv_has ls 1 [(0, .int n)] := hl
  refine lv_iload_n hx hb dX12_isDay_0 rfl (lv_at hl 0 rfl) ?_
  refine lv_iconst (v := 0) hx hb dX12_isDay_1 (by decide) ?_
  refine lv_sipush (v := 400) hx hb dX12_isDay_2 (by decide) ?_
  refine va_calli (va_runS (As := [.int n, .int 0, .int 400]) (rest := []) ⟨hx, hb, hml, hown, hts⟩ (c_within l n (0) (400)) (va_cwS 3 hts g_c_isDay_c_within_59 rfl rfl rfl (by decide +kernel) ⟨Nat.le_of_ble_eq_true rfl, Nat.le_of_ble_eq_true rfl⟩) ⟨fun _ _ _ _ q => q, fun _ _ _ => ⟨rfl, trivial⟩⟩ rfl rfl hl.1 rfl (lv_room (Nat.le_of_ble_eq_true rfl)) dX12_isDay_5 ⟨Nat.le_of_ble_eq_true rfl, Nat.le_of_ble_eq_true rfl⟩) hS (fun _ _ h => h.elim) (fun _ h => h.elim) (fun r1 u2 t H1 locs ht hvm hw hB hz1 hk1 hS => ?_)
  generalize H1 = H at hS ⊢
  rcases hw with ⟨rfl, hw1, hw2⟩ | ⟨rfl, hw1⟩
  · --in
    have d3a := hw1
    have d3b := hw2
    exact W.zret (v := (1)) hx hb hr rfl (fun t ht hW => ⟨⟨(1), (), rfl, Or.inl ⟨rfl, d3a, d3b⟩, trivial⟩, hS.F ht⟩) hS.2.2 dX12_isDay_8
  · --out
    have d4 := hw1
    exact W.zret (v := (0)) hx hb hr rfl (fun t ht hW => ⟨⟨(0), (), rfl, Or.inr ⟨rfl, d4⟩, trivial⟩, hS.F ht⟩) hS.2.2 dX12_isDay_8
def A_c_size : List Cond := [.fieldLink RJx4a65c 48 "java/util/ArrayList" "size" "I"]
def v_c_size : List Cond := .code yJx4a65c_size_8abf5 cJx4a65c_size_8abf5 1 (some .int) :: (A_c_size ++ wsJx4a65c0)
theorem iw_c_size_Jx4a65c : ∀ w ∈ wsJx4a65c0, w ∈ v_c_size := fun _ h => List.mem_cons_of_mem _ (List.mem_append_right _ (h))
set_option maxHeartbeats 4000000 in
set_option maxRecDepth 100000 in
theorem c_size (l : Launch) (dC : Nat → ClassId) (dI : Nat → Nat → Nat) (a : Nat) (mo : Int32) (ed : Nat) (n : Int32)  : Met l yJx4a65c_size_8abf5 v_c_size ({ frames := 0, cells := 0, slots := 0, locals := 0 }) (va_Pc [.ref a] (fun U => va_P (dC, dI) vwCl [(a, .inr (0, [.int mo, .ref ed, .int n]))] U.heap ∧ va_K (dC, dI) vwCl [] U)) (va_Qi (S := Unit) (fun r _ => r = n) (fun _ _ => True) (fun _ => False)) 0 0 (fun _ => False) := by
  refine Met.ofW (cc := cJx4a65c_size_8abf5) (maxL := 1) (ret := (some .int)) (by decide) rfl ?_
  intro p e s m args below meth c s₁ B hml hv
  obtain ⟨rfl, hP, hK⟩ := hv
  have hx := B.exec
  have hb := B.bytes
  have hr := B.returns
  have hts := atoms_spec (ws := v_c_size) B.pre
  have hown : s.vm.findClass RJx4a65c = some m.cls := findClass_of_methodNamed B.named
  have hlocks := B.notSynchronized
  have hS : va_S (fun _ : Nat => False) s.heap s.heap [] := va_S.rf
  have hl := lv_entry ([.ref a]) (n := 1) (Nat.le_of_ble_eq_true rfl)
  rw [lg_entry_eq]
  generalize (lg_sl ([.ref a]) ++ List.replicate (1 - (lg_sl ([.ref a])).length) Slot.unset).toArray = ls at hl ⊢
  have hl : lv_has ls 1 [(0, .ref a)] := hl
  refine lv_aload_n hx hb dJx4a65c_size_8abf5_0 rfl (lv_at hl 0 rfl) ?_
  refine va_get (D := (dC, dI)) (ci := 0) (v := .int n) (C := RJx4a65c) (T := TJx4a65c) (N := 3) hx hb hts iw_c_size_Jx4a65c hown hK hP 0 rfl rfl 2 (by decide) (hts (.fieldLink RJx4a65c 48 "java/util/ArrayList" "size" "I") (List.mem_of_getElem? (i := 1) rfl)) (fun _ h9 => h9) rfl dJx4a65c_size_8abf5_1 ?_
  exact W.iret (v := n) hx hb hr (fun t ht hW => ⟨⟨n, (), rfl, rfl, trivial⟩, hS.F ht⟩) hS.2.2 dJx4a65c_size_8abf5_4
def A_c_isKnown : List Cond := [.fieldLink RX0 59 "UnlikeBoats$Book" "now" "I", .initialized RX12, .static yX12_within, .code yX12_within cX12_within 3 (some .boolean)]
def v_c_isKnown : List Cond := .code yX0_isKnown cX0_isKnown 2 (some .boolean) :: (A_c_isKnown ++ wsX00)
theorem iw_c_isKnown_X0 : ∀ w ∈ wsX00, w ∈ v_c_isKnown := fun _ h => List.mem_cons_of_mem _ (List.mem_append_right _ (h))
theorem gb_c_isKnown_c_within0 : GoodIn v_c_isKnown (.code yX12_within cX12_within 3 (some .boolean) :: A_c_within) := (List.forall_mem_cons.mpr ⟨⟨List.mem_of_getElem? (i := 4) rfl, good_of_word rfl⟩, (fun _ h => nomatch h)⟩)
theorem gb_c_isKnown_c_within : GoodIn v_c_isKnown v_c_within := gb_c_isKnown_c_within0
theorem g_c_isKnown_c_within : GoodIn v_c_isKnown (v_c_within) := gb_c_isKnown_c_within
set_option maxHeartbeats 4000000 in
set_option maxRecDepth 100000 in
theorem c_isKnown (l : Launch) (dC : Nat → ClassId) (dI : Nat → Nat → Nat) (bk : Nat) (lc : Nat) (lr : Nat) (la : Nat) (le : Nat) (lw : Nat) (lp : Nat) (ltr : Nat) (stk : Nat) (q : Int32)  : Met l yX0_isKnown v_c_isKnown ({ frames := 1, cells := 0, slots := 0, locals := 40 }) (va_Pc [.ref bk, .int q] (fun U => va_P (dC, dI) vwCl [(bk, .inr (1, [.int 0, .int 0, .int 0, .ref lc, .ref lr, .ref la, .ref le, .ref lw, .ref lp, .ref ltr, .ref stk]))] U.heap ∧ va_K (dC, dI) vwCl [] U ∧ ub_NX U)) (va_Qi (S := Unit) (fun r _ => (r = 1 ∧ ¬ q < 0 ∧ ¬ 0 < q) ∨ (r = 0 ∧ (q < 0 ∨ 0 < q))) (fun _ _ => True) (fun _ => False)) 0 0 (fun _ => False) := by
  refine Met.ofW (cc := cX0_isKnown) (maxL := 2) (ret := (some .boolean)) (by decide) rfl ?_
  intro p e s m args below meth c s₁ B hml hv
  obtain ⟨rfl, hP, hK, hN⟩ := hv
  have hx := B.exec
  have hb := B.bytes
  have hr := B.returns
  have hts := atoms_spec (ws := v_c_isKnown) B.pre
  have hown : s.vm.findClass RX0 = some m.cls := findClass_of_methodNamed B.named
  have hlocks := B.notSynchronized
  have hS : va_S (fun _ : Nat => False) s.heap s.heap [] := va_S.rf
  have hl := lv_entry ([.ref bk, .int q]) (n := 2) (Nat.le_of_ble_eq_true rfl)
  rw [lg_entry_eq]
  generalize (lg_sl ([.ref bk, .int q]) ++ List.replicate (2 - (lg_sl ([.ref bk, .int q])).length) Slot.unset).toArray = ls at hl ⊢
  have hl : lv_has ls 2 [(0, .ref bk), (1, .int q)] := hl
  refine lv_iload_n hx hb dX0_isKnown_0 rfl (lv_at hl 1 rfl) ?_
  refine lv_iconst (v := 0) hx hb dX0_isKnown_1 (by decide) ?_
  refine lv_aload_n hx hb dX0_isKnown_2 rfl (lv_at hl 0 rfl) ?_
  refine va_get (D := (dC, dI)) (ci := 1) (v := .int 0) (C := RX0) (T := TX0) (N := 11) hx hb hts iw_c_isKnown_X0 hown hK hP 0 rfl rfl 0 (by decide) (hts (.fieldLink RX0 59 "UnlikeBoats$Book" "now" "I") (List.mem_of_getElem? (i := 1) rfl)) (fun _ h9 => h9) rfl dX0_isKnown_3 ?_
  refine va_calli (va_runSN (As := [.int q, .int 0, .int 0]) (rest := []) ⟨hx, hb, hml, hown, hts⟩ (c_within l q (0) (0)) ⟨va_cnB 3 hts g_c_isKnown_c_within rfl rfl rfl (ub_nx2 hN) (hts (.initialized RX12) (List.mem_of_getElem? (i := 2) rfl)) (by decide +kernel) ⟨Nat.le_of_ble_eq_true rfl, Nat.le_of_ble_eq_true rfl⟩, (hts (.static yX12_within) (List.mem_of_getElem? (i := 3) rfl)), trivial⟩ ⟨fun _ _ _ _ q => q, fun _ _ _ => ⟨rfl, trivial⟩⟩ rfl rfl hl.1 rfl (lv_room (Nat.le_of_ble_eq_true rfl)) dX0_isKnown_6 ⟨Nat.le_of_ble_eq_true rfl, Nat.le_of_ble_eq_true rfl⟩) hS (fun _ _ h => h.elim) (fun _ h => h.elim) (fun r1 u2 t H1 locs ht hvm hw hB hz1 hk1 hS => ?_)
  have hP := ub_keep hP hk1
  generalize H1 = H at hP hS ⊢
  rcases hw with ⟨rfl, hw1, hw2⟩ | ⟨rfl, hw1⟩
  · --in
    have d3a := hw1
    have d3b := hw2
    exact W.zret (v := (1)) hx hb hr rfl (fun t ht hW => ⟨⟨(1), (), rfl, Or.inl ⟨rfl, d3a, d3b⟩, trivial⟩, hS.F ht⟩) hS.2.2 dX0_isKnown_9
  · --out
    have d4 := hw1
    exact W.zret (v := (0)) hx hb hr rfl (fun t ht hW => ⟨⟨(0), (), rfl, Or.inr ⟨rfl, d4⟩, trivial⟩, hS.F ht⟩) hS.2.2 dX0_isKnown_9
def A_c_isBoat0 : List Cond := [.fieldLink RX0 48 "UnlikeBoats$Book" "boats" "I", .initialized RX12, .static yX12_within, .code yX12_within cX12_within 3 (some .boolean)]
def v_c_isBoat0 : List Cond := .code yX0_isBoat cX0_isBoat 2 (some .boolean) :: (A_c_isBoat0 ++ wsX00)
theorem iw_c_isBoat0_X0 : ∀ w ∈ wsX00, w ∈ v_c_isBoat0 := fun _ h => List.mem_cons_of_mem _ (List.mem_append_right _ (h))
theorem gb_c_isBoat0_c_within0 : GoodIn v_c_isBoat0 (.code yX12_within cX12_within 3 (some .boolean) :: A_c_within) := (List.forall_mem_cons.mpr ⟨⟨List.mem_of_getElem? (i := 4) rfl, good_of_word rfl⟩, (fun _ h => nomatch h)⟩)
theorem gb_c_isBoat0_c_within : GoodIn v_c_isBoat0 v_c_within := gb_c_isBoat0_c_within0
theorem g_c_isBoat0_c_within : GoodIn v_c_isBoat0 (v_c_within) := gb_c_isBoat0_c_within
set_option maxHeartbeats 4000000 in
set_option maxRecDepth 100000 in
theorem c_isBoat0 (l : Launch) (dC : Nat → ClassId) (dI : Nat → Nat → Nat) (bk : Nat) (lc : Nat) (lr : Nat) (la : Nat) (le : Nat) (lw : Nat) (lp : Nat) (ltr : Nat) (stk : Nat) (q : Int32)  : Met l yX0_isBoat v_c_isBoat0 ({ frames := 1, cells := 0, slots := 0, locals := 40 }) (va_Pc [.ref bk, .int q] (fun U => va_P (dC, dI) vwCl [(bk, .inr (1, [.int 0, .int 0, .int 0, .ref lc, .ref lr, .ref la, .ref le, .ref lw, .ref lp, .ref ltr, .ref stk]))] U.heap ∧ va_K (dC, dI) vwCl [] U ∧ ub_NX U)) (va_Qi (S := Unit) (fun r _ => r = 0) (fun _ _ => True) (fun _ => False)) 0 0 (fun _ => False) := by
  refine Met.ofW (cc := cX0_isBoat) (maxL := 2) (ret := (some .boolean)) (by decide) rfl ?_
  intro p e s m args below meth c s₁ B hml hv
  obtain ⟨rfl, hP, hK, hN⟩ := hv
  have hx := B.exec
  have hb := B.bytes
  have hr := B.returns
  have hts := atoms_spec (ws := v_c_isBoat0) B.pre
  have hown : s.vm.findClass RX0 = some m.cls := findClass_of_methodNamed B.named
  have hlocks := B.notSynchronized
  have hS : va_S (fun _ : Nat => False) s.heap s.heap [] := va_S.rf
  have hl := lv_entry ([.ref bk, .int q]) (n := 2) (Nat.le_of_ble_eq_true rfl)
  rw [lg_entry_eq]
  generalize (lg_sl ([.ref bk, .int q]) ++ List.replicate (2 - (lg_sl ([.ref bk, .int q])).length) Slot.unset).toArray = ls at hl ⊢
  have hl : lv_has ls 2 [(0, .ref bk), (1, .int q)] := hl
  refine lv_iload_n hx hb dX0_isBoat_0 rfl (lv_at hl 1 rfl) ?_
  refine lv_iconst (v := 0) hx hb dX0_isBoat_1 (by decide) ?_
  refine lv_aload_n hx hb dX0_isBoat_2 rfl (lv_at hl 0 rfl) ?_
  refine va_get (D := (dC, dI)) (ci := 1) (v := .int 0) (C := RX0) (T := TX0) (N := 11) hx hb hts iw_c_isBoat0_X0 hown hK hP 0 rfl rfl 1 (by decide) (hts (.fieldLink RX0 48 "UnlikeBoats$Book" "boats" "I") (List.mem_of_getElem? (i := 1) rfl)) (fun _ h9 => h9) rfl dX0_isBoat_3 ?_
  refine lv_iconst (v := 1) hx hb dX0_isBoat_6 (by decide) ?_
  refine lv_isub hx hb dX0_isBoat_7 ?_
  refine lv_topi (fun y1 ey1 => ?_)
  obtain rfl : (-1 : Int32) = y1 := (ey1.trans (by decide)).symm
  refine va_calli (va_runSN (As := [.int q, .int 0, .int (-1)]) (rest := []) ⟨hx, hb, hml, hown, hts⟩ (c_within l q (0) (-1)) ⟨va_cnB 3 hts g_c_isBoat0_c_within rfl rfl rfl (ub_nx2 hN) (hts (.initialized RX12) (List.mem_of_getElem? (i := 2) rfl)) (by decide +kernel) ⟨Nat.le_of_ble_eq_true rfl, Nat.le_of_ble_eq_true rfl⟩, (hts (.static yX12_within) (List.mem_of_getElem? (i := 3) rfl)), trivial⟩ ⟨fun _ _ _ _ q => q, fun _ _ _ => ⟨rfl, trivial⟩⟩ rfl rfl hl.1 rfl (lv_room (Nat.le_of_ble_eq_true rfl)) dX0_isBoat_8 ⟨Nat.le_of_ble_eq_true rfl, Nat.le_of_ble_eq_true rfl⟩) hS (fun _ _ h => h.elim) (fun _ h => h.elim) (fun r2 u3 t H1 locs ht hvm hw hB hz1 hk1 hS => ?_)
  have hP := ub_keep hP hk1
  generalize H1 = H at hP hS ⊢
  rcases hw with ⟨-, hw1, hw2⟩ | ⟨rfl, -⟩
  · exact (ub_rng (lo := 0) (hi := -1) (by decide) hw1 hw2).elim
  exact W.zret (v := (0)) hx hb hr rfl (fun t ht hW => ⟨⟨(0), (), rfl, rfl, trivial⟩, hS.F ht⟩) hS.2.2 dX0_isBoat_11
def A_c_isRace0 : List Cond := [.fieldLink RX0 21 "UnlikeBoats$Book" "races" "Ljava/util/ArrayList;", .methodLink RX0 56 yJx4a65c_size_8abf5, .instanceMethod yJx4a65c_size_8abf5, .selects RJx4a65c yJx4a65c_size_8abf5 yJx4a65c_size_8abf5, .initialized RJx4a65c, .initialized RX12, .static yX12_within, .code yJx4a65c_size_8abf5 cJx4a65c_size_8abf5 1 (some .int), .fieldLink RJx4a65c 48 "java/util/ArrayList" "size" "I", .code yX12_within cX12_within 3 (some .boolean)]
def v_c_isRace0 : List Cond := .code yX0_isRace cX0_isRace 2 (some .boolean) :: (A_c_isRace0 ++ wsX00 ++ wsJx4a65c0)
theorem iw_c_isRace0_X0 : ∀ w ∈ wsX00, w ∈ v_c_isRace0 := fun _ h => List.mem_cons_of_mem _ (List.mem_append_left _ (List.mem_append_right _ (h)))
theorem iw_c_isRace0_Jx4a65c : ∀ w ∈ wsJx4a65c0, w ∈ v_c_isRace0 := fun _ h => List.mem_cons_of_mem _ (List.mem_append_right _ (h))
theorem gb_c_isRace0_c_size0 : GoodIn v_c_isRace0 (.code yJx4a65c_size_8abf5 cJx4a65c_size_8abf5 1 (some .int) :: A_c_size) := (List.forall_mem_cons.mpr ⟨⟨List.mem_of_getElem? (i := 8) rfl, good_of_word rfl⟩, (List.forall_mem_cons.mpr ⟨⟨List.mem_of_getElem? (i := 9) rfl, good_of_word rfl⟩, (fun _ h => nomatch h)⟩)⟩)
theorem gb_c_isRace0_c_size : GoodIn v_c_isRace0 v_c_size := (goodIn_ca gb_c_isRace0_c_size0 (goodIn_sub iw_c_isRace0_Jx4a65c gw_Jx4a65c))
theorem g_c_isRace0_c_size_56 : GoodIn v_c_isRace0 (wsV RX0 56 RJx4a65c yJx4a65c_size_8abf5 v_c_size) := goodIn_app (List.forall_mem_cons.mpr ⟨⟨List.mem_of_getElem? (i := 2) rfl, good_of_word rfl⟩, (List.forall_mem_cons.mpr ⟨⟨List.mem_of_getElem? (i := 3) rfl, good_of_word rfl⟩, (List.forall_mem_cons.mpr ⟨⟨List.mem_of_getElem? (i := 4) rfl, good_of_word rfl⟩, (List.forall_mem_cons.mpr ⟨⟨List.mem_of_getElem? (i := 5) rfl, good_of_word rfl⟩, (fun _ h => nomatch h)⟩)⟩)⟩)⟩) gb_c_isRace0_c_size
theorem gb_c_isRace0_c_within0 : GoodIn v_c_isRace0 (.code yX12_within cX12_within 3 (some .boolean) :: A_c_within) := (List.forall_mem_cons.mpr ⟨⟨List.mem_of_getElem? (i := 10) rfl, good_of_word rfl⟩, (fun _ h => nomatch h)⟩)
theorem gb_c_isRace0_c_within : GoodIn v_c_isRace0 v_c_within := gb_c_isRace0_c_within0
theorem g_c_isRace0_c_within : GoodIn v_c_isRace0 (v_c_within) := gb_c_isRace0_c_within
set_option maxHeartbeats 4000000 in
set_option maxRecDepth 100000 in
theorem c_isRace0 (l : Launch) (dC : Nat → ClassId) (dI : Nat → Nat → Nat) (bk : Nat) (lc : Nat) (lr : Nat) (la : Nat) (le : Nat) (lw : Nat) (lp : Nat) (ltr : Nat) (stk : Nat) (ed : Nat) (q : Int32)  : Met l yX0_isRace v_c_isRace0 ({ frames := 1, cells := 0, slots := 0, locals := 40 }) (va_Pc [.ref bk, .int q] (fun U => va_P (dC, dI) vwCl [(bk, .inr (1, [.int 0, .int 0, .int 0, .ref lc, .ref lr, .ref la, .ref le, .ref lw, .ref lp, .ref ltr, .ref stk])), (la, .inr (0, [.int 0, .ref ed, .int 0]))] U.heap ∧ va_K (dC, dI) vwCl [] U ∧ ub_NX U)) (va_Qi (S := Unit) (fun r _ => r = 0) (fun _ _ => True) (fun _ => False)) 0 0 (fun _ => False) := by
  refine Met.ofW (cc := cX0_isRace) (maxL := 2) (ret := (some .boolean)) (by decide) rfl ?_
  intro p e s m args below meth c s₁ B hml hv
  obtain ⟨rfl, hP, hK, hN⟩ := hv
  have hx := B.exec
  have hb := B.bytes
  have hr := B.returns
  have hts := atoms_spec (ws := v_c_isRace0) B.pre
  have hown : s.vm.findClass RX0 = some m.cls := findClass_of_methodNamed B.named
  have hlocks := B.notSynchronized
  have hS : va_S (fun _ : Nat => False) s.heap s.heap [] := va_S.rf
  have hl := lv_entry ([.ref bk, .int q]) (n := 2) (Nat.le_of_ble_eq_true rfl)
  rw [lg_entry_eq]
  generalize (lg_sl ([.ref bk, .int q]) ++ List.replicate (2 - (lg_sl ([.ref bk, .int q])).length) Slot.unset).toArray = ls at hl ⊢
  have hl : lv_has ls 2 [(0, .ref bk), (1, .int q)] := hl
  refine lv_iload_n hx hb dX0_isRace_0 rfl (lv_at hl 1 rfl) ?_
  refine lv_iconst (v := 0) hx hb dX0_isRace_1 (by decide) ?_
  refine lv_aload_n hx hb dX0_isRace_2 rfl (lv_at hl 0 rfl) ?_
  refine va_get (D := (dC, dI)) (ci := 1) (v := .ref la) (C := RX0) (T := TX0) (N := 11) hx hb hts iw_c_isRace0_X0 hown hK hP 0 rfl rfl 5 (by decide) (hts (.fieldLink RX0 21 "UnlikeBoats$Book" "races" "Ljava/util/ArrayList;") (List.mem_of_getElem? (i := 1) rfl)) (fun _ h9 => h9) rfl dX0_isRace_3 ?_
  have hPc := hP.sub (ws' := [(la, .inr (0, [.int 0, .ref ed, .int 0]))]) [1] rfl
  have hKc := hK.sub (tys' := []) [] rfl
  refine va_calli (va_runV (As := []) (rest := [.int 0, .int q]) ⟨hx, hb, hml, hown, hts⟩ (c_size l dC dI la (0) ed (0)) (cwV 0 hts g_c_isRace0_c_size_56 rfl rfl rfl (by decide +kernel) ⟨Nat.le_of_ble_eq_true rfl, Nat.le_of_ble_eq_true rfl⟩) ⟨fun a U g mk q => by obtain ⟨e0, qP, qK⟩ := q; exact ⟨e0, qP, va_K.moved (u := U) (U := U.calling g mk a) (Vm.Alike.refl U.vm) qK⟩, va_recv hK hP (ci := 0) (q0 := 1) rfl rfl, fun U hU hW => ⟨rfl, by rw [hU]; exact hPc, va_K.moved hW.alike hKc⟩⟩ rfl rfl hl.1 rfl (lv_room (Nat.le_of_ble_eq_true rfl)) dX0_isRace_6 ⟨Nat.le_of_ble_eq_true rfl, Nat.le_of_ble_eq_true rfl⟩) hS (fun _ _ h => h.elim) (fun _ h => h.elim) (fun r1 u2 t H1 locs ht hvm hw hB hz1 hk1 hS => ?_)
  have hP := ub_keep hP hk1
  generalize H1 = H at hP hS ⊢
  obtain rfl : (0 : Int32) = r1 := hw.symm
  refine lv_iconst (v := 1) hx hb dX0_isRace_9 (by decide) ?_
  refine lv_isub hx hb dX0_isRace_10 ?_
  refine lv_topi (fun y3 ey3 => ?_)
  obtain rfl : (-1 : Int32) = y3 := (ey3.trans (by decide)).symm
  refine va_calli (va_runSN (As := [.int q, .int 0, .int (-1)]) (rest := []) ⟨hx, hb, hml, hown, hts⟩ (c_within l q (0) (-1)) ⟨va_cnB 3 hts g_c_isRace0_c_within rfl rfl rfl (ub_nx2 hN) (hts (.initialized RX12) (List.mem_of_getElem? (i := 6) rfl)) (by decide +kernel) ⟨Nat.le_of_ble_eq_true rfl, Nat.le_of_ble_eq_true rfl⟩, (hts (.static yX12_within) (List.mem_of_getElem? (i := 7) rfl)), trivial⟩ ⟨fun _ _ _ _ q => q, fun _ _ _ => ⟨rfl, trivial⟩⟩ rfl rfl hl.1 rfl (lv_room (Nat.le_of_ble_eq_true rfl)) dX0_isRace_11 ⟨Nat.le_of_ble_eq_true rfl, Nat.le_of_ble_eq_true rfl⟩) hS (fun _ _ h => h.elim) (fun _ h => h.elim) (fun r4 u5 t H1 locs ht hvm hw hB hz1 hk1 hS => ?_)
  have hP := ub_keep hP hk1
  generalize H1 = H at hP hS ⊢
  rcases hw with ⟨-, hw1, hw2⟩ | ⟨rfl, -⟩
  · exact (ub_rng (lo := 0) (hi := -1) (by decide) hw1 hw2).elim
  exact W.zret (v := (0)) hx hb hr rfl (fun t ht hW => ⟨⟨(0), (), rfl, rfl, trivial⟩, hS.F ht⟩) hS.2.2 dX0_isRace_14
def A_c_isCounted0 : List Cond := [.methodLink RX0 62 yX0_isKnown, .instanceMethod yX0_isKnown, .selects RX0 yX0_isKnown yX0_isKnown, .initialized RX0, .methodLink RX0 66 yX0_isRace, .instanceMethod yX0_isRace, .selects RX0 yX0_isRace yX0_isRace, .code yX0_isKnown cX0_isKnown 2 (some .boolean), .fieldLink RX0 59 "UnlikeBoats$Book" "now" "I", .initialized RX12, .static yX12_within, .code yX12_within cX12_within 3 (some .boolean), .code yX0_isRace cX0_isRace 2 (some .boolean), .fieldLink RX0 21 "UnlikeBoats$Book" "races" "Ljava/util/ArrayList;", .methodLink RX0 56 yJx4a65c_size_8abf5, .instanceMethod yJx4a65c_size_8abf5, .selects RJx4a65c yJx4a65c_size_8abf5 yJx4a65c_size_8abf5, .initialized RJx4a65c, .code yJx4a65c_size_8abf5 cJx4a65c_size_8abf5 1 (some .int), .fieldLink RJx4a65c 48 "java/util/ArrayList" "size" "I"]
def v_c_isCounted0 : List Cond := .code yX0_isCounted cX0_isCounted 3 (some .boolean) :: (A_c_isCounted0 ++ wsX00 ++ wsJx4a65c0)
theorem iw_c_isCounted0_X0 : ∀ w ∈ wsX00, w ∈ v_c_isCounted0 := fun _ h => List.mem_cons_of_mem _ (List.mem_append_left _ (List.mem_append_right _ (h)))
theorem iw_c_isCounted0_Jx4a65c : ∀ w ∈ wsJx4a65c0, w ∈ v_c_isCounted0 := fun _ h => List.mem_cons_of_mem _ (List.mem_append_right _ (h))
theorem gb_c_isCounted0_c_isKnown0 : GoodIn v_c_isCounted0 (.code yX0_isKnown cX0_isKnown 2 (some .boolean) :: A_c_isKnown) := (List.forall_mem_cons.mpr ⟨⟨List.mem_of_getElem? (i := 8) rfl, good_of_word rfl⟩, (List.forall_mem_cons.mpr ⟨⟨List.mem_of_getElem? (i := 9) rfl, good_of_word rfl⟩, (List.forall_mem_cons.mpr ⟨⟨List.mem_of_getElem? (i := 10) rfl, good_of_word rfl⟩, (List.forall_mem_cons.mpr ⟨⟨List.mem_of_getElem? (i := 11) rfl, good_of_word rfl⟩, (List.forall_mem_cons.mpr ⟨⟨List.mem_of_getElem? (i := 12) rfl, good_of_word rfl⟩, (fun _ h => nomatch h)⟩)⟩)⟩)⟩)⟩)
theorem gb_c_isCounted0_c_isKnown : GoodIn v_c_isCounted0 v_c_isKnown := (goodIn_ca gb_c_isCounted0_c_isKnown0 (goodIn_sub iw_c_isCounted0_X0 gw_X0))
theorem g_c_isCounted0_c_isKnown_62 : GoodIn v_c_isCounted0 (wsV RX0 62 RX0 yX0_isKnown v_c_isKnown) := goodIn_app (List.forall_mem_cons.mpr ⟨⟨List.mem_of_getElem? (i := 1) rfl, good_of_word rfl⟩, (List.forall_mem_cons.mpr ⟨⟨List.mem_of_getElem? (i := 2) rfl, good_of_word rfl⟩, (List.forall_mem_cons.mpr ⟨⟨List.mem_of_getElem? (i := 3) rfl, good_of_word rfl⟩, (List.forall_mem_cons.mpr ⟨⟨List.mem_of_getElem? (i := 4) rfl, good_of_word rfl⟩, (fun _ h => nomatch h)⟩)⟩)⟩)⟩) gb_c_isCounted0_c_isKnown
theorem gb_c_isCounted0_c_isRace00 : GoodIn v_c_isCounted0 (.code yX0_isRace cX0_isRace 2 (some .boolean) :: A_c_isRace0) := (List.forall_mem_cons.mpr ⟨⟨List.mem_of_getElem? (i := 13) rfl, good_of_word rfl⟩, (List.forall_mem_cons.mpr ⟨⟨List.mem_of_getElem? (i := 14) rfl, good_of_word rfl⟩, (List.forall_mem_cons.mpr ⟨⟨List.mem_of_getElem? (i := 15) rfl, good_of_word rfl⟩, (List.forall_mem_cons.mpr ⟨⟨List.mem_of_getElem? (i := 16) rfl, good_of_word rfl⟩, (List.forall_mem_cons.mpr ⟨⟨List.mem_of_getElem? (i := 17) rfl, good_of_word rfl⟩, (List.forall_mem_cons.mpr ⟨⟨List.mem_of_getElem? (i := 18) rfl, good_of_word rfl⟩, (List.forall_mem_cons.mpr ⟨⟨List.mem_of_getElem? (i := 10) rfl, good_of_word rfl⟩, (List.forall_mem_cons.mpr ⟨⟨List.mem_of_getElem? (i := 11) rfl, good_of_word rfl⟩, (List.forall_mem_cons.mpr ⟨⟨List.mem_of_getElem? (i := 19) rfl, good_of_word rfl⟩, (List.forall_mem_cons.mpr ⟨⟨List.mem_of_getElem? (i := 20) rfl, good_of_word rfl⟩, (List.forall_mem_cons.mpr ⟨⟨List.mem_of_getElem? (i := 12) rfl, good_of_word rfl⟩, (fun _ h => nomatch h)⟩)⟩)⟩)⟩)⟩)⟩)⟩)⟩)⟩)⟩)⟩)
theorem gb_c_isCounted0_c_isRace0 : GoodIn v_c_isCounted0 v_c_isRace0 := (goodIn_ca (goodIn_ca gb_c_isCounted0_c_isRace00 (goodIn_sub iw_c_isCounted0_X0 gw_X0)) (goodIn_sub iw_c_isCounted0_Jx4a65c gw_Jx4a65c))
theorem g_c_isCounted0_c_isRace0_66 : GoodIn v_c_isCounted0 (wsV RX0 66 RX0 yX0_isRace v_c_isRace0) := goodIn_app (List.forall_mem_cons.mpr ⟨⟨List.mem_of_getElem? (i := 5) rfl, good_of_word rfl⟩, (List.forall_mem_cons.mpr ⟨⟨List.mem_of_getElem? (i := 6) rfl, good_of_word rfl⟩, (List.forall_mem_cons.mpr ⟨⟨List.mem_of_getElem? (i := 7) rfl, good_of_word rfl⟩, (List.forall_mem_cons.mpr ⟨⟨List.mem_of_getElem? (i := 4) rfl, good_of_word rfl⟩, (fun _ h => nomatch h)⟩)⟩)⟩)⟩) gb_c_isCounted0_c_isRace0
set_option maxHeartbeats 4000000 in
set_option maxRecDepth 100000 in
theorem c_isCounted0 (l : Launch) (dC : Nat → ClassId) (dI : Nat → Nat → Nat) (bk : Nat) (lc : Nat) (lr : Nat) (la : Nat) (le : Nat) (lw : Nat) (lp : Nat) (ltr : Nat) (stk : Nat) (ed : Nat) (k : Int32) (q : Int32)  : Met l yX0_isCounted v_c_isCounted0 ({ frames := 2, cells := 0, slots := 0, locals := 80 }) (va_Pc [.ref bk, .int k, .int q] (fun U => va_P (dC, dI) vwCl [(bk, .inr (1, [.int 0, .int 0, .int 0, .ref lc, .ref lr, .ref la, .ref le, .ref lw, .ref lp, .ref ltr, .ref stk])), (la, .inr (0, [.int 0, .ref ed, .int 0]))] U.heap ∧ va_K (dC, dI) vwCl [] U ∧ ub_NX U)) (va_Qi (S := Unit) (fun r _ => r = 0) (fun _ _ => True) (fun _ => False)) 0 0 (fun _ => False) := by
  refine Met.ofW (cc := cX0_isCounted) (maxL := 3) (ret := (some .boolean)) (by decide) rfl ?_
  intro p e s m args below meth c s₁ B hml hv
  obtain ⟨rfl, hP, hK, hN⟩ := hv
  have hx := B.exec
  have hb := B.bytes
  have hr := B.returns
  have hts := atoms_spec (ws := v_c_isCounted0) B.pre
  have hown : s.vm.findClass RX0 = some m.cls := findClass_of_methodNamed B.named
  have hlocks := B.notSynchronized
  have hS : va_S (fun _ : Nat => False) s.heap s.heap [] := va_S.rf
  have hl := lv_entry ([.ref bk, .int k, .int q]) (n := 3) (Nat.le_of_ble_eq_true rfl)
  rw [lg_entry_eq]
  generalize (lg_sl ([.ref bk, .int k, .int q]) ++ List.replicate (3 - (lg_sl ([.ref bk, .int k, .int q])).length) Slot.unset).toArray = ls at hl ⊢
  have hl : lv_has ls 3 [(0, .ref bk), (1, .int k), (2, .int q)] := hl
  refine lv_aload_n hx hb dX0_isCounted_0 rfl (lv_at hl 0 rfl) ?_
  refine lv_iload_n hx hb dX0_isCounted_1 rfl (lv_at hl 2 rfl) ?_
  have hPc := hP.sub (ws' := [(bk, .inr (1, [.int 0, .int 0, .int 0, .ref lc, .ref lr, .ref la, .ref le, .ref lw, .ref lp, .ref ltr, .ref stk]))]) [0] rfl
  have hKc := hK.sub (tys' := []) [] rfl
  refine va_calli (va_runV (As := [.int q]) (rest := []) ⟨hx, hb, hml, hown, hts⟩ (c_isKnown l dC dI bk lc lr la le lw lp ltr stk q) (cwV 1 hts g_c_isCounted0_c_isKnown_62 rfl rfl rfl (by decide +kernel) ⟨Nat.le_of_ble_eq_true rfl, Nat.le_of_ble_eq_true rfl⟩) ⟨fun a U g mk q => by obtain ⟨e0, qP, qK, qN⟩ := q; exact ⟨e0, qP, va_K.moved (u := U) (U := U.calling g mk a) (Vm.Alike.refl U.vm) qK, ub_NX_c qN⟩, va_recv hK hP (ci := 1) (q0 := 0) rfl rfl, fun U hU hW => ⟨rfl, by rw [hU]; exact hPc, va_K.moved hW.alike hKc, ub_NX_w hW hN⟩⟩ rfl rfl hl.1 rfl (lv_room (Nat.le_of_ble_eq_true rfl)) dX0_isCounted_2 ⟨Nat.le_of_ble_eq_true rfl, Nat.le_of_ble_eq_true rfl⟩) hS (fun _ _ h => h.elim) (fun _ h => h.elim) (fun r1 u2 t H1 locs ht hvm hw hB hz1 hk1 hS => ?_)
  have hP := ub_keep hP hk1
  generalize H1 = H at hP hS ⊢
  rcases hw with ⟨rfl, hw1, hw2⟩ | ⟨rfl, hw1⟩
  · --in
    have d3a := hw1
    have d3b := hw2
    refine lv_if_eq (tgt := 38) hx hb dX0_isCounted_5 (by decide) (fun c4 => by first | exact absurd c4 (by decide) | exact absurd (by decide) c4) (fun c4 => ?_)
    refine lv_aload_n hx hb dX0_isCounted_8 rfl (lv_at hl 0 rfl) ?_
    refine lv_iload_n hx hb dX0_isCounted_9 rfl (lv_at hl 1 rfl) ?_
    have hPc := hP.sub (ws' := [(bk, .inr (1, [.int 0, .int 0, .int 0, .ref lc, .ref lr, .ref la, .ref le, .ref lw, .ref lp, .ref ltr, .ref stk])), (la, .inr (0, [.int 0, .ref ed, .int 0]))]) [0, 1] rfl
    have hKc := hK.sub (tys' := []) [] rfl
    refine va_calli (va_runV (As := [.int k]) (rest := []) ⟨hx, hb, hml, hown, hts⟩ (c_isRace0 l dC dI bk lc lr la le lw lp ltr stk ed k) (cwV 1 hts g_c_isCounted0_c_isRace0_66 rfl rfl rfl (by decide +kernel) ⟨Nat.le_of_ble_eq_true rfl, Nat.le_of_ble_eq_true rfl⟩) ⟨fun a U g mk q => by obtain ⟨e0, qP, qK, qN⟩ := q; exact ⟨e0, qP, va_K.moved (u := U) (U := U.calling g mk a) (Vm.Alike.refl U.vm) qK, ub_NX_c qN⟩, va_recv hK hP (ci := 1) (q0 := 0) rfl rfl, fun U hU hW => ⟨rfl, by rw [hU]; exact hPc, va_K.moved hW.alike hKc, ub_NX_w hW hN⟩⟩ rfl rfl hl.1 rfl (lv_room (Nat.le_of_ble_eq_true rfl)) dX0_isCounted_10 ⟨Nat.le_of_ble_eq_true rfl, Nat.le_of_ble_eq_true rfl⟩) hS (fun _ _ h => h.elim) (fun _ h => h.elim) (fun r5 u6 t H1 locs ht hvm hw hB hz1 hk1 hS => ?_)
    have hP := ub_keep hP hk1
    generalize H1 = H at hP hS ⊢
    obtain rfl : (0 : Int32) = r5 := hw.symm
    refine lv_if_eq (tgt := 38) hx hb dX0_isCounted_13 (by decide) (fun c7 => ?_) (fun c7 => by first | exact absurd c7 (by decide) | exact absurd (by decide) c7)
    refine lv_iconst (v := 0) hx hb dX0_isCounted_38 (by decide) ?_
    exact W.zret (v := (0)) hx hb hr rfl (fun t ht hW => ⟨⟨(0), (), rfl, rfl, trivial⟩, hS.F ht⟩) hS.2.2 dX0_isCounted_39
  · --out
    have d8 := hw1
    refine lv_if_eq (tgt := 38) hx hb dX0_isCounted_5 (by decide) (fun c9 => ?_) (fun c9 => by first | exact absurd c9 (by decide) | exact absurd (by decide) c9)
    refine lv_iconst (v := 0) hx hb dX0_isCounted_38 (by decide) ?_
    exact W.zret (v := (0)) hx hb hr rfl (fun t ht hW => ⟨⟨(0), (), rfl, rfl, trivial⟩, hS.F ht⟩) hS.2.2 dX0_isCounted_39
def A_c_isEntered0 : List Cond := [.methodLink RX0 66 yX0_isRace, .instanceMethod yX0_isRace, .selects RX0 yX0_isRace yX0_isRace, .initialized RX0, .code yX0_isRace cX0_isRace 2 (some .boolean), .fieldLink RX0 21 "UnlikeBoats$Book" "races" "Ljava/util/ArrayList;", .methodLink RX0 56 yJx4a65c_size_8abf5, .instanceMethod yJx4a65c_size_8abf5, .selects RJx4a65c yJx4a65c_size_8abf5 yJx4a65c_size_8abf5, .initialized RJx4a65c, .initialized RX12, .static yX12_within, .code yJx4a65c_size_8abf5 cJx4a65c_size_8abf5 1 (some .int), .fieldLink RJx4a65c 48 "java/util/ArrayList" "size" "I", .code yX12_within cX12_within 3 (some .boolean)]
def v_c_isEntered0 : List Cond := .code yX0_isEntered cX0_isEntered 3 (some .boolean) :: (A_c_isEntered0 ++ wsX00 ++ wsJx4a65c0)
theorem iw_c_isEntered0_X0 : ∀ w ∈ wsX00, w ∈ v_c_isEntered0 := fun _ h => List.mem_cons_of_mem _ (List.mem_append_left _ (List.mem_append_right _ (h)))
theorem iw_c_isEntered0_Jx4a65c : ∀ w ∈ wsJx4a65c0, w ∈ v_c_isEntered0 := fun _ h => List.mem_cons_of_mem _ (List.mem_append_right _ (h))
theorem gb_c_isEntered0_c_isRace00 : GoodIn v_c_isEntered0 (.code yX0_isRace cX0_isRace 2 (some .boolean) :: A_c_isRace0) := (List.forall_mem_cons.mpr ⟨⟨List.mem_of_getElem? (i := 5) rfl, good_of_word rfl⟩, (List.forall_mem_cons.mpr ⟨⟨List.mem_of_getElem? (i := 6) rfl, good_of_word rfl⟩, (List.forall_mem_cons.mpr ⟨⟨List.mem_of_getElem? (i := 7) rfl, good_of_word rfl⟩, (List.forall_mem_cons.mpr ⟨⟨List.mem_of_getElem? (i := 8) rfl, good_of_word rfl⟩, (List.forall_mem_cons.mpr ⟨⟨List.mem_of_getElem? (i := 9) rfl, good_of_word rfl⟩, (List.forall_mem_cons.mpr ⟨⟨List.mem_of_getElem? (i := 10) rfl, good_of_word rfl⟩, (List.forall_mem_cons.mpr ⟨⟨List.mem_of_getElem? (i := 11) rfl, good_of_word rfl⟩, (List.forall_mem_cons.mpr ⟨⟨List.mem_of_getElem? (i := 12) rfl, good_of_word rfl⟩, (List.forall_mem_cons.mpr ⟨⟨List.mem_of_getElem? (i := 13) rfl, good_of_word rfl⟩, (List.forall_mem_cons.mpr ⟨⟨List.mem_of_getElem? (i := 14) rfl, good_of_word rfl⟩, (List.forall_mem_cons.mpr ⟨⟨List.mem_of_getElem? (i := 15) rfl, good_of_word rfl⟩, (fun _ h => nomatch h)⟩)⟩)⟩)⟩)⟩)⟩)⟩)⟩)⟩)⟩)⟩)
theorem gb_c_isEntered0_c_isRace0 : GoodIn v_c_isEntered0 v_c_isRace0 := (goodIn_ca (goodIn_ca gb_c_isEntered0_c_isRace00 (goodIn_sub iw_c_isEntered0_X0 gw_X0)) (goodIn_sub iw_c_isEntered0_Jx4a65c gw_Jx4a65c))
theorem g_c_isEntered0_c_isRace0_66 : GoodIn v_c_isEntered0 (wsV RX0 66 RX0 yX0_isRace v_c_isRace0) := goodIn_app (List.forall_mem_cons.mpr ⟨⟨List.mem_of_getElem? (i := 1) rfl, good_of_word rfl⟩, (List.forall_mem_cons.mpr ⟨⟨List.mem_of_getElem? (i := 2) rfl, good_of_word rfl⟩, (List.forall_mem_cons.mpr ⟨⟨List.mem_of_getElem? (i := 3) rfl, good_of_word rfl⟩, (List.forall_mem_cons.mpr ⟨⟨List.mem_of_getElem? (i := 4) rfl, good_of_word rfl⟩, (fun _ h => nomatch h)⟩)⟩)⟩)⟩) gb_c_isEntered0_c_isRace0
set_option maxHeartbeats 4000000 in
set_option maxRecDepth 100000 in
theorem c_isEntered0 (l : Launch) (dC : Nat → ClassId) (dI : Nat → Nat → Nat) (bk : Nat) (lc : Nat) (lr : Nat) (la : Nat) (le : Nat) (lw : Nat) (lp : Nat) (ltr : Nat) (stk : Nat) (ed : Nat) (k : Int32) (q : Int32)  : Met l yX0_isEntered v_c_isEntered0 ({ frames := 2, cells := 0, slots := 0, locals := 80 }) (va_Pc [.ref bk, .int k, .int q] (fun U => va_P (dC, dI) vwCl [(bk, .inr (1, [.int 0, .int 0, .int 0, .ref lc, .ref lr, .ref la, .ref le, .ref lw, .ref lp, .ref ltr, .ref stk])), (la, .inr (0, [.int 0, .ref ed, .int 0]))] U.heap ∧ va_K (dC, dI) vwCl [] U ∧ ub_NX U)) (va_Qi (S := Unit) (fun r _ => r = 0) (fun _ _ => True) (fun _ => False)) 0 0 (fun _ => False) := by
  refine Met.ofW (cc := cX0_isEntered) (maxL := 3) (ret := (some .boolean)) (by decide) rfl ?_
  intro p e s m args below meth c s₁ B hml hv
  obtain ⟨rfl, hP, hK, hN⟩ := hv
  have hx := B.exec
  have hb := B.bytes
  have hr := B.returns
  have hts := atoms_spec (ws := v_c_isEntered0) B.pre
  have hown : s.vm.findClass RX0 = some m.cls := findClass_of_methodNamed B.named
  have hlocks := B.notSynchronized
  have hS : va_S (fun _ : Nat => False) s.heap s.heap [] := va_S.rf
  have hl := lv_entry ([.ref bk, .int k, .int q]) (n := 3) (Nat.le_of_ble_eq_true rfl)
  rw [lg_entry_eq]
  generalize (lg_sl ([.ref bk, .int k, .int q]) ++ List.replicate (3 - (lg_sl ([.ref bk, .int k, .int q])).length) Slot.unset).toArray = ls at hl ⊢
  have hl : lv_has ls 3 [(0, .ref bk), (1, .int k), (2, .int q)] := hl
  refine lv_aload_n hx hb dX0_isEntered_0 rfl (lv_at hl 0 rfl) ?_
  refine lv_iload_n hx hb dX0_isEntered_1 rfl (lv_at hl 1 rfl) ?_
  have hPc := hP.sub (ws' := [(bk, .inr (1, [.int 0, .int 0, .int 0, .ref lc, .ref lr, .ref la, .ref le, .ref lw, .ref lp, .ref ltr, .ref stk])), (la, .inr (0, [.int 0, .ref ed, .int 0]))]) [0, 1] rfl
  have hKc := hK.sub (tys' := []) [] rfl
  refine va_calli (va_runV (As := [.int k]) (rest := []) ⟨hx, hb, hml, hown, hts⟩ (c_isRace0 l dC dI bk lc lr la le lw lp ltr stk ed k) (cwV 1 hts g_c_isEntered0_c_isRace0_66 rfl rfl rfl (by decide +kernel) ⟨Nat.le_of_ble_eq_true rfl, Nat.le_of_ble_eq_true rfl⟩) ⟨fun a U g mk q => by obtain ⟨e0, qP, qK, qN⟩ := q; exact ⟨e0, qP, va_K.moved (u := U) (U := U.calling g mk a) (Vm.Alike.refl U.vm) qK, ub_NX_c qN⟩, va_recv hK hP (ci := 1) (q0 := 0) rfl rfl, fun U hU hW => ⟨rfl, by rw [hU]; exact hPc, va_K.moved hW.alike hKc, ub_NX_w hW hN⟩⟩ rfl rfl hl.1 rfl (lv_room (Nat.le_of_ble_eq_true rfl)) dX0_isEntered_2 ⟨Nat.le_of_ble_eq_true rfl, Nat.le_of_ble_eq_true rfl⟩) hS (fun _ _ h => h.elim) (fun _ h => h.elim) (fun r1 u2 t H1 locs ht hvm hw hB hz1 hk1 hS => ?_)
  have hP := ub_keep hP hk1
  generalize H1 = H at hP hS ⊢
  obtain rfl : (0 : Int32) = r1 := hw.symm
  refine lv_if_eq (tgt := 42) hx hb dX0_isEntered_5 (by decide) (fun c3 => ?_) (fun c3 => by first | exact absurd c3 (by decide) | exact absurd (by decide) c3)
  refine lv_iconst (v := 0) hx hb dX0_isEntered_42 (by decide) ?_
  exact W.zret (v := (0)) hx hb hr rfl (fun t ht hW => ⟨⟨(0), (), rfl, rfl, trivial⟩, hS.F ht⟩) hS.2.2 dX0_isEntered_43
def A_c_isProtested0 : List Cond := [.methodLink RX0 62 yX0_isKnown, .instanceMethod yX0_isKnown, .selects RX0 yX0_isKnown yX0_isKnown, .initialized RX0, .fieldLink RX0 30 "UnlikeBoats$Book" "protests" "Ljava/util/ArrayList;", .methodLink RX0 56 yJx4a65c_size_8abf5, .instanceMethod yJx4a65c_size_8abf5, .selects RJx4a65c yJx4a65c_size_8abf5 yJx4a65c_size_8abf5, .initialized RJx4a65c, .initialized RX12, .static yX12_within, .code yX0_isKnown cX0_isKnown 2 (some .boolean), .fieldLink RX0 59 "UnlikeBoats$Book" "now" "I", .code yX12_within cX12_within 3 (some .boolean), .code yJx4a65c_size_8abf5 cJx4a65c_size_8abf5 1 (some .int), .fieldLink RJx4a65c 48 "java/util/ArrayList" "size" "I"]
def v_c_isProtested0 : List Cond := .code yX0_isProtested cX0_isProtested 3 (some .boolean) :: (A_c_isProtested0 ++ wsX00 ++ wsJx4a65c0)
theorem iw_c_isProtested0_X0 : ∀ w ∈ wsX00, w ∈ v_c_isProtested0 := fun _ h => List.mem_cons_of_mem _ (List.mem_append_left _ (List.mem_append_right _ (h)))
theorem iw_c_isProtested0_Jx4a65c : ∀ w ∈ wsJx4a65c0, w ∈ v_c_isProtested0 := fun _ h => List.mem_cons_of_mem _ (List.mem_append_right _ (h))
theorem gb_c_isProtested0_c_isKnown0 : GoodIn v_c_isProtested0 (.code yX0_isKnown cX0_isKnown 2 (some .boolean) :: A_c_isKnown) := (List.forall_mem_cons.mpr ⟨⟨List.mem_of_getElem? (i := 12) rfl, good_of_word rfl⟩, (List.forall_mem_cons.mpr ⟨⟨List.mem_of_getElem? (i := 13) rfl, good_of_word rfl⟩, (List.forall_mem_cons.mpr ⟨⟨List.mem_of_getElem? (i := 10) rfl, good_of_word rfl⟩, (List.forall_mem_cons.mpr ⟨⟨List.mem_of_getElem? (i := 11) rfl, good_of_word rfl⟩, (List.forall_mem_cons.mpr ⟨⟨List.mem_of_getElem? (i := 14) rfl, good_of_word rfl⟩, (fun _ h => nomatch h)⟩)⟩)⟩)⟩)⟩)
theorem gb_c_isProtested0_c_isKnown : GoodIn v_c_isProtested0 v_c_isKnown := (goodIn_ca gb_c_isProtested0_c_isKnown0 (goodIn_sub iw_c_isProtested0_X0 gw_X0))
theorem g_c_isProtested0_c_isKnown_62 : GoodIn v_c_isProtested0 (wsV RX0 62 RX0 yX0_isKnown v_c_isKnown) := goodIn_app (List.forall_mem_cons.mpr ⟨⟨List.mem_of_getElem? (i := 1) rfl, good_of_word rfl⟩, (List.forall_mem_cons.mpr ⟨⟨List.mem_of_getElem? (i := 2) rfl, good_of_word rfl⟩, (List.forall_mem_cons.mpr ⟨⟨List.mem_of_getElem? (i := 3) rfl, good_of_word rfl⟩, (List.forall_mem_cons.mpr ⟨⟨List.mem_of_getElem? (i := 4) rfl, good_of_word rfl⟩, (fun _ h => nomatch h)⟩)⟩)⟩)⟩) gb_c_isProtested0_c_isKnown
theorem gb_c_isProtested0_c_size0 : GoodIn v_c_isProtested0 (.code yJx4a65c_size_8abf5 cJx4a65c_size_8abf5 1 (some .int) :: A_c_size) := (List.forall_mem_cons.mpr ⟨⟨List.mem_of_getElem? (i := 15) rfl, good_of_word rfl⟩, (List.forall_mem_cons.mpr ⟨⟨List.mem_of_getElem? (i := 16) rfl, good_of_word rfl⟩, (fun _ h => nomatch h)⟩)⟩)
theorem gb_c_isProtested0_c_size : GoodIn v_c_isProtested0 v_c_size := (goodIn_ca gb_c_isProtested0_c_size0 (goodIn_sub iw_c_isProtested0_Jx4a65c gw_Jx4a65c))
theorem g_c_isProtested0_c_size_56 : GoodIn v_c_isProtested0 (wsV RX0 56 RJx4a65c yJx4a65c_size_8abf5 v_c_size) := goodIn_app (List.forall_mem_cons.mpr ⟨⟨List.mem_of_getElem? (i := 6) rfl, good_of_word rfl⟩, (List.forall_mem_cons.mpr ⟨⟨List.mem_of_getElem? (i := 7) rfl, good_of_word rfl⟩, (List.forall_mem_cons.mpr ⟨⟨List.mem_of_getElem? (i := 8) rfl, good_of_word rfl⟩, (List.forall_mem_cons.mpr ⟨⟨List.mem_of_getElem? (i := 9) rfl, good_of_word rfl⟩, (fun _ h => nomatch h)⟩)⟩)⟩)⟩) gb_c_isProtested0_c_size
theorem gb_c_isProtested0_c_within0 : GoodIn v_c_isProtested0 (.code yX12_within cX12_within 3 (some .boolean) :: A_c_within) := (List.forall_mem_cons.mpr ⟨⟨List.mem_of_getElem? (i := 14) rfl, good_of_word rfl⟩, (fun _ h => nomatch h)⟩)
theorem gb_c_isProtested0_c_within : GoodIn v_c_isProtested0 v_c_within := gb_c_isProtested0_c_within0
theorem g_c_isProtested0_c_within : GoodIn v_c_isProtested0 (v_c_within) := gb_c_isProtested0_c_within
set_option maxHeartbeats 4000000 in
set_option maxRecDepth 100000 in
theorem c_isProtested0 (l : Launch) (dC : Nat → ClassId) (dI : Nat → Nat → Nat) (bk : Nat) (lc : Nat) (lr : Nat) (la : Nat) (le : Nat) (lw : Nat) (lp : Nat) (ltr : Nat) (stk : Nat) (ed : Nat) (k : Int32) (q : Int32)  : Met l yX0_isProtested v_c_isProtested0 ({ frames := 2, cells := 0, slots := 0, locals := 80 }) (va_Pc [.ref bk, .int k, .int q] (fun U => va_P (dC, dI) vwCl [(bk, .inr (1, [.int 0, .int 0, .int 0, .ref lc, .ref lr, .ref la, .ref le, .ref lw, .ref lp, .ref ltr, .ref stk])), (lp, .inr (0, [.int 0, .ref ed, .int 0]))] U.heap ∧ va_K (dC, dI) vwCl [] U ∧ ub_NX U)) (va_Qi (S := Unit) (fun r _ => r = 0) (fun _ _ => True) (fun _ => False)) 0 0 (fun _ => False) := by
  refine Met.ofW (cc := cX0_isProtested) (maxL := 3) (ret := (some .boolean)) (by decide) rfl ?_
  intro p e s m args below meth c s₁ B hml hv
  obtain ⟨rfl, hP, hK, hN⟩ := hv
  have hx := B.exec
  have hb := B.bytes
  have hr := B.returns
  have hts := atoms_spec (ws := v_c_isProtested0) B.pre
  have hown : s.vm.findClass RX0 = some m.cls := findClass_of_methodNamed B.named
  have hlocks := B.notSynchronized
  have hS : va_S (fun _ : Nat => False) s.heap s.heap [] := va_S.rf
  have hl := lv_entry ([.ref bk, .int k, .int q]) (n := 3) (Nat.le_of_ble_eq_true rfl)
  rw [lg_entry_eq]
  generalize (lg_sl ([.ref bk, .int k, .int q]) ++ List.replicate (3 - (lg_sl ([.ref bk, .int k, .int q])).length) Slot.unset).toArray = ls at hl ⊢
  have hl : lv_has ls 3 [(0, .ref bk), (1, .int k), (2, .int q)] := hl
  refine lv_aload_n hx hb dX0_isProtested_0 rfl (lv_at hl 0 rfl) ?_
  refine lv_iload_n hx hb dX0_isProtested_1 rfl (lv_at hl 2 rfl) ?_
  have hPc := hP.sub (ws' := [(bk, .inr (1, [.int 0, .int 0, .int 0, .ref lc, .ref lr, .ref la, .ref le, .ref lw, .ref lp, .ref ltr, .ref stk]))]) [0] rfl
  have hKc := hK.sub (tys' := []) [] rfl
  refine va_calli (va_runV (As := [.int q]) (rest := []) ⟨hx, hb, hml, hown, hts⟩ (c_isKnown l dC dI bk lc lr la le lw lp ltr stk q) (cwV 1 hts g_c_isProtested0_c_isKnown_62 rfl rfl rfl (by decide +kernel) ⟨Nat.le_of_ble_eq_true rfl, Nat.le_of_ble_eq_true rfl⟩) ⟨fun a U g mk q => by obtain ⟨e0, qP, qK, qN⟩ := q; exact ⟨e0, qP, va_K.moved (u := U) (U := U.calling g mk a) (Vm.Alike.refl U.vm) qK, ub_NX_c qN⟩, va_recv hK hP (ci := 1) (q0 := 0) rfl rfl, fun U hU hW => ⟨rfl, by rw [hU]; exact hPc, va_K.moved hW.alike hKc, ub_NX_w hW hN⟩⟩ rfl rfl hl.1 rfl (lv_room (Nat.le_of_ble_eq_true rfl)) dX0_isProtested_2 ⟨Nat.le_of_ble_eq_true rfl, Nat.le_of_ble_eq_true rfl⟩) hS (fun _ _ h => h.elim) (fun _ h => h.elim) (fun r1 u2 t H1 locs ht hvm hw hB hz1 hk1 hS => ?_)
  have hP := ub_keep hP hk1
  generalize H1 = H at hP hS ⊢
  rcases hw with ⟨rfl, hw1, hw2⟩ | ⟨rfl, hw1⟩
  · --in
    have d3a := hw1
    have d3b := hw2
    refine lv_if_eq (tgt := 47) hx hb dX0_isProtested_5 (by decide) (fun c4 => by first | exact absurd c4 (by decide) | exact absurd (by decide) c4) (fun c4 => ?_)
    refine lv_iload_n hx hb dX0_isProtested_8 rfl (lv_at hl 1 rfl) ?_
    refine lv_iconst (v := 0) hx hb dX0_isProtested_9 (by decide) ?_
    refine lv_aload_n hx hb dX0_isProtested_10 rfl (lv_at hl 0 rfl) ?_
    refine va_get (D := (dC, dI)) (ci := 1) (v := .ref lp) (C := RX0) (T := TX0) (N := 11) hx hb hts iw_c_isProtested0_X0 hown hK hP 0 rfl rfl 8 (by decide) (hts (.fieldLink RX0 30 "UnlikeBoats$Book" "protests" "Ljava/util/ArrayList;") (List.mem_of_getElem? (i := 5) rfl)) (fun _ h9 => h9) rfl dX0_isProtested_11 ?_
    have hPc := hP.sub (ws' := [(lp, .inr (0, [.int 0, .ref ed, .int 0]))]) [1] rfl
    have hKc := hK.sub (tys' := []) [] rfl
    refine va_calli (va_runV (As := []) (rest := [.int 0, .int k]) ⟨hx, hb, hml, hown, hts⟩ (c_size l dC dI lp (0) ed (0)) (cwV 0 hts g_c_isProtested0_c_size_56 rfl rfl rfl (by decide +kernel) ⟨Nat.le_of_ble_eq_true rfl, Nat.le_of_ble_eq_true rfl⟩) ⟨fun a U g mk q => by obtain ⟨e0, qP, qK⟩ := q; exact ⟨e0, qP, va_K.moved (u := U) (U := U.calling g mk a) (Vm.Alike.refl U.vm) qK⟩, va_recv hK hP (ci := 0) (q0 := 1) rfl rfl, fun U hU hW => ⟨rfl, by rw [hU]; exact hPc, va_K.moved hW.alike hKc⟩⟩ rfl rfl hl.1 rfl (lv_room (Nat.le_of_ble_eq_true rfl)) dX0_isProtested_14 ⟨Nat.le_of_ble_eq_true rfl, Nat.le_of_ble_eq_true rfl⟩) hS (fun _ _ h => h.elim) (fun _ h => h.elim) (fun r5 u6 t H1 locs ht hvm hw hB hz1 hk1 hS => ?_)
    have hP := ub_keep hP hk1
    generalize H1 = H at hP hS ⊢
    obtain rfl : (0 : Int32) = r5 := hw.symm
    refine lv_iconst (v := 1) hx hb dX0_isProtested_17 (by decide) ?_
    refine lv_isub hx hb dX0_isProtested_18 ?_
    refine lv_topi (fun y7 ey7 => ?_)
    obtain rfl : (-1 : Int32) = y7 := (ey7.trans (by decide)).symm
    refine va_calli (va_runSN (As := [.int k, .int 0, .int (-1)]) (rest := []) ⟨hx, hb, hml, hown, hts⟩ (c_within l k (0) (-1)) ⟨va_cnB 3 hts g_c_isProtested0_c_within rfl rfl rfl (ub_nx2 hN) (hts (.initialized RX12) (List.mem_of_getElem? (i := 10) rfl)) (by decide +kernel) ⟨Nat.le_of_ble_eq_true rfl, Nat.le_of_ble_eq_true rfl⟩, (hts (.static yX12_within) (List.mem_of_getElem? (i := 11) rfl)), trivial⟩ ⟨fun _ _ _ _ q => q, fun _ _ _ => ⟨rfl, trivial⟩⟩ rfl rfl hl.1 rfl (lv_room (Nat.le_of_ble_eq_true rfl)) dX0_isProtested_19 ⟨Nat.le_of_ble_eq_true rfl, Nat.le_of_ble_eq_true rfl⟩) hS (fun _ _ h => h.elim) (fun _ h => h.elim) (fun r8 u9 t H1 locs ht hvm hw hB hz1 hk1 hS => ?_)
    have hP := ub_keep hP hk1
    generalize H1 = H at hP hS ⊢
    rcases hw with ⟨-, hw1, hw2⟩ | ⟨rfl, -⟩
    · exact (ub_rng (lo := 0) (hi := -1) (by decide) hw1 hw2).elim
    refine lv_if_eq (tgt := 47) hx hb dX0_isProtested_22 (by decide) (fun c10 => ?_) (fun c10 => by first | exact absurd c10 (by decide) | exact absurd (by decide) c10)
    refine lv_iconst (v := 0) hx hb dX0_isProtested_47 (by decide) ?_
    exact W.zret (v := (0)) hx hb hr rfl (fun t ht hW => ⟨⟨(0), (), rfl, rfl, trivial⟩, hS.F ht⟩) hS.2.2 dX0_isProtested_48
  · --out
    have d11 := hw1
    refine lv_if_eq (tgt := 47) hx hb dX0_isProtested_5 (by decide) (fun c12 => ?_) (fun c12 => by first | exact absurd c12 (by decide) | exact absurd (by decide) c12)
    refine lv_iconst (v := 0) hx hb dX0_isProtested_47 (by decide) ?_
    exact W.zret (v := (0)) hx hb hr rfl (fun t ht hW => ⟨⟨(0), (), rfl, rfl, trivial⟩, hS.F ht⟩) hS.2.2 dX0_isProtested_48
def A_c_bitCount0 : List Cond := [.constant RJ6 265 (1431655765), .constant RJ6 266 (858993459), .constant RJ6 267 (252645135)]
def v_c_bitCount0 : List Cond := .code yJ6_bitCount_0f7a4 cJ6_bitCount_0f7a4 1 (some .int) :: (A_c_bitCount0)
set_option maxHeartbeats 4000000 in
set_option maxRecDepth 100000 in
theorem c_bitCount0 (l : Launch)   : Met l yJ6_bitCount_0f7a4 v_c_bitCount0 ({ frames := 0, cells := 0, slots := 0, locals := 0 }) (va_Pc [.int 0] (fun _ => True)) (va_Qi (S := Unit) (fun r _ => r = 0) (fun _ _ => True) (fun _ => False)) 0 0 (fun _ => False) := by
  refine Met.ofW (cc := cJ6_bitCount_0f7a4) (maxL := 1) (ret := (some .int)) (by decide) rfl ?_
  intro p e s m args below meth c s₁ B hml hv
  obtain ⟨rfl, -⟩ := hv
  have hx := B.exec
  have hb := B.bytes
  have hr := B.returns
  have hts := atoms_spec (ws := v_c_bitCount0) B.pre
  have hown : s.vm.findClass RJ6 = some m.cls := findClass_of_methodNamed B.named
  have hlocks := B.notSynchronized
  have hS : va_S (fun _ : Nat => False) s.heap s.heap [] := va_S.rf
  have hl := lv_entry ([.int 0]) (n := 1) (Nat.le_of_ble_eq_true rfl)
  rw [lg_entry_eq]
  generalize (lg_sl ([.int 0]) ++ List.replicate (1 - (lg_sl ([.int 0])).length) Slot.unset).toArray = ls at hl ⊢
  have hl : lv_has ls 1 [(0, .int 0)] := hl
  refine lv_iload_n hx hb dJ6_bitCount_0f7a4_0 rfl (lv_at hl 0 rfl) ?_
  refine lv_iload_n hx hb dJ6_bitCount_0f7a4_1 rfl (lv_at hl 0 rfl) ?_
  refine lv_iconst (v := 1) hx hb dJ6_bitCount_0f7a4_2 (by decide) ?_
  refine lv_iushr hx hb dJ6_bitCount_0f7a4_3 rfl ?_
  refine lv_topi (fun y1 ey1 => ?_)
  obtain rfl : (0 : Int32) = y1 := (ey1.trans (by decide)).symm
  refine lv_ldcw hx hb hown (hts (.constant RJ6 265 (1431655765)) (List.mem_of_getElem? (i := 1) rfl)) dJ6_bitCount_0f7a4_4 ?_
  refine lv_iand hx hb dJ6_bitCount_0f7a4_7 ?_
  refine lv_topi (fun y2 ey2 => ?_)
  obtain rfl : (0 : Int32) = y2 := (ey2.trans (by decide)).symm
  refine lv_isub hx hb dJ6_bitCount_0f7a4_8 ?_
  refine lv_topi (fun y3 ey3 => ?_)
  obtain rfl : (0 : Int32) = y3 := (ey3.trans (by decide)).symm
  refine lv_istore_n (lv' := [(0, .int 0)]) hx hb dJ6_bitCount_0f7a4_9 rfl hl (by decide) rfl (fun ls hl => ?_)
  refine lv_iload_n hx hb dJ6_bitCount_0f7a4_10 rfl (lv_at hl 0 rfl) ?_
  refine lv_ldcw hx hb hown (hts (.constant RJ6 266 (858993459)) (List.mem_of_getElem? (i := 2) rfl)) dJ6_bitCount_0f7a4_11 ?_
  refine lv_iand hx hb dJ6_bitCount_0f7a4_14 ?_
  refine lv_topi (fun y4 ey4 => ?_)
  obtain rfl : (0 : Int32) = y4 := (ey4.trans (by decide)).symm
  refine lv_iload_n hx hb dJ6_bitCount_0f7a4_15 rfl (lv_at hl 0 rfl) ?_
  refine lv_iconst (v := 2) hx hb dJ6_bitCount_0f7a4_16 (by decide) ?_
  refine lv_iushr hx hb dJ6_bitCount_0f7a4_17 rfl ?_
  refine lv_topi (fun y5 ey5 => ?_)
  obtain rfl : (0 : Int32) = y5 := (ey5.trans (by decide)).symm
  refine lv_ldcw hx hb hown (hts (.constant RJ6 266 (858993459)) (List.mem_of_getElem? (i := 2) rfl)) dJ6_bitCount_0f7a4_18 ?_
  refine lv_iand hx hb dJ6_bitCount_0f7a4_21 ?_
  refine lv_topi (fun y6 ey6 => ?_)
  obtain rfl : (0 : Int32) = y6 := (ey6.trans (by decide)).symm
  refine lv_iadd hx hb dJ6_bitCount_0f7a4_22 ?_
  refine lv_topi (fun y7 ey7 => ?_)
  obtain rfl : (0 : Int32) = y7 := (ey7.trans (by decide)).symm
  refine lv_istore_n (lv' := [(0, .int 0)]) hx hb dJ6_bitCount_0f7a4_23 rfl hl (by decide) rfl (fun ls hl => ?_)
  refine lv_iload_n hx hb dJ6_bitCount_0f7a4_24 rfl (lv_at hl 0 rfl) ?_
  refine lv_iload_n hx hb dJ6_bitCount_0f7a4_25 rfl (lv_at hl 0 rfl) ?_
  refine lv_iconst (v := 4) hx hb dJ6_bitCount_0f7a4_26 (by decide) ?_
  refine lv_iushr hx hb dJ6_bitCount_0f7a4_27 rfl ?_
  refine lv_topi (fun y8 ey8 => ?_)
  obtain rfl : (0 : Int32) = y8 := (ey8.trans (by decide)).symm
  refine lv_iadd hx hb dJ6_bitCount_0f7a4_28 ?_
  refine lv_topi (fun y9 ey9 => ?_)
  obtain rfl : (0 : Int32) = y9 := (ey9.trans (by decide)).symm
  refine lv_ldcw hx hb hown (hts (.constant RJ6 267 (252645135)) (List.mem_of_getElem? (i := 3) rfl)) dJ6_bitCount_0f7a4_29 ?_
  refine lv_iand hx hb dJ6_bitCount_0f7a4_32 ?_
  refine lv_topi (fun y10 ey10 => ?_)
  obtain rfl : (0 : Int32) = y10 := (ey10.trans (by decide)).symm
  refine lv_istore_n (lv' := [(0, .int 0)]) hx hb dJ6_bitCount_0f7a4_33 rfl hl (by decide) rfl (fun ls hl => ?_)
  refine lv_iload_n hx hb dJ6_bitCount_0f7a4_34 rfl (lv_at hl 0 rfl) ?_
  refine lv_iload_n hx hb dJ6_bitCount_0f7a4_35 rfl (lv_at hl 0 rfl) ?_
  refine lv_bipush (v := 8) hx hb dJ6_bitCount_0f7a4_36 (by decide) ?_
  refine lv_iushr hx hb dJ6_bitCount_0f7a4_38 rfl ?_
  refine lv_topi (fun y11 ey11 => ?_)
  obtain rfl : (0 : Int32) = y11 := (ey11.trans (by decide)).symm
  refine lv_iadd hx hb dJ6_bitCount_0f7a4_39 ?_
  refine lv_topi (fun y12 ey12 => ?_)
  obtain rfl : (0 : Int32) = y12 := (ey12.trans (by decide)).symm
  refine lv_istore_n (lv' := [(0, .int 0)]) hx hb dJ6_bitCount_0f7a4_40 rfl hl (by decide) rfl (fun ls hl => ?_)
  refine lv_iload_n hx hb dJ6_bitCount_0f7a4_41 rfl (lv_at hl 0 rfl) ?_
  refine lv_iload_n hx hb dJ6_bitCount_0f7a4_42 rfl (lv_at hl 0 rfl) ?_
  refine lv_bipush (v := 16) hx hb dJ6_bitCount_0f7a4_43 (by decide) ?_
  refine lv_iushr hx hb dJ6_bitCount_0f7a4_45 rfl ?_
  refine lv_topi (fun y13 ey13 => ?_)
  obtain rfl : (0 : Int32) = y13 := (ey13.trans (by decide)).symm
  refine lv_iadd hx hb dJ6_bitCount_0f7a4_46 ?_
  refine lv_topi (fun y14 ey14 => ?_)
  obtain rfl : (0 : Int32) = y14 := (ey14.trans (by decide)).symm
  refine lv_istore_n (lv' := [(0, .int 0)]) hx hb dJ6_bitCount_0f7a4_47 rfl hl (by decide) rfl (fun ls hl => ?_)
  refine lv_iload_n hx hb dJ6_bitCount_0f7a4_48 rfl (lv_at hl 0 rfl) ?_
  refine lv_bipush (v := 63) hx hb dJ6_bitCount_0f7a4_49 (by decide) ?_
  refine lv_iand hx hb dJ6_bitCount_0f7a4_51 ?_
  refine lv_topi (fun y15 ey15 => ?_)
  obtain rfl : (0 : Int32) = y15 := (ey15.trans (by decide)).symm
  exact W.iret (v := (0)) hx hb hr (fun t ht hW => ⟨⟨(0), (), rfl, rfl, trivial⟩, hS.F ht⟩) hS.2.2 dJ6_bitCount_0f7a4_52
def A_c_areSome0 : List Cond := [.fieldLink RX0 48 "UnlikeBoats$Book" "boats" "I", .initialized RX12, .static yX12_within, .methodLink RX0 88 yJ6_bitCount_0f7a4, .static yJ6_bitCount_0f7a4, .initialized RJ6, .code yX12_within cX12_within 3 (some .boolean), .code yJ6_bitCount_0f7a4 cJ6_bitCount_0f7a4 1 (some .int), .constant RJ6 265 (1431655765), .constant RJ6 266 (858993459), .constant RJ6 267 (252645135)]
def v_c_areSome0 : List Cond := .code yX0_areSome cX0_areSome 2 (some .boolean) :: (A_c_areSome0 ++ wsX00)
theorem iw_c_areSome0_X0 : ∀ w ∈ wsX00, w ∈ v_c_areSome0 := fun _ h => List.mem_cons_of_mem _ (List.mem_append_right _ (h))
theorem gb_c_areSome0_c_within0 : GoodIn v_c_areSome0 (.code yX12_within cX12_within 3 (some .boolean) :: A_c_within) := (List.forall_mem_cons.mpr ⟨⟨List.mem_of_getElem? (i := 7) rfl, good_of_word rfl⟩, (fun _ h => nomatch h)⟩)
theorem gb_c_areSome0_c_within : GoodIn v_c_areSome0 v_c_within := gb_c_areSome0_c_within0
theorem g_c_areSome0_c_within : GoodIn v_c_areSome0 (v_c_within) := gb_c_areSome0_c_within
theorem gb_c_areSome0_c_bitCount00 : GoodIn v_c_areSome0 (.code yJ6_bitCount_0f7a4 cJ6_bitCount_0f7a4 1 (some .int) :: A_c_bitCount0) := (List.forall_mem_cons.mpr ⟨⟨List.mem_of_getElem? (i := 8) rfl, good_of_word rfl⟩, (List.forall_mem_cons.mpr ⟨⟨List.mem_of_getElem? (i := 9) rfl, good_of_word rfl⟩, (List.forall_mem_cons.mpr ⟨⟨List.mem_of_getElem? (i := 10) rfl, good_of_word rfl⟩, (List.forall_mem_cons.mpr ⟨⟨List.mem_of_getElem? (i := 11) rfl, good_of_word rfl⟩, (fun _ h => nomatch h)⟩)⟩)⟩)⟩)
theorem gb_c_areSome0_c_bitCount0 : GoodIn v_c_areSome0 v_c_bitCount0 := gb_c_areSome0_c_bitCount00
theorem g_c_areSome0_c_bitCount0_88 : GoodIn v_c_areSome0 (va_wsS RX0 88 yJ6_bitCount_0f7a4 v_c_bitCount0) := goodIn_app (List.forall_mem_cons.mpr ⟨⟨List.mem_of_getElem? (i := 4) rfl, good_of_word rfl⟩, (List.forall_mem_cons.mpr ⟨⟨List.mem_of_getElem? (i := 5) rfl, good_of_word rfl⟩, (List.forall_mem_cons.mpr ⟨⟨List.mem_of_getElem? (i := 6) rfl, good_of_word rfl⟩, (fun _ h => nomatch h)⟩)⟩)⟩) gb_c_areSome0_c_bitCount0
set_option maxHeartbeats 4000000 in
set_option maxRecDepth 100000 in
theorem c_areSome0 (l : Launch) (dC : Nat → ClassId) (dI : Nat → Nat → Nat) (bk : Nat) (lc : Nat) (lr : Nat) (la : Nat) (le : Nat) (lw : Nat) (lp : Nat) (ltr : Nat) (stk : Nat) (q : Int32)  : Met l yX0_areSome v_c_areSome0 ({ frames := 1, cells := 0, slots := 0, locals := 40 }) (va_Pc [.ref bk, .int q] (fun U => va_P (dC, dI) vwCl [(bk, .inr (1, [.int 0, .int 0, .int 0, .ref lc, .ref lr, .ref la, .ref le, .ref lw, .ref lp, .ref ltr, .ref stk]))] U.heap ∧ va_K (dC, dI) vwCl [] U ∧ ub_NX U)) (va_Qi (S := Unit) (fun r _ => r = 0) (fun _ _ => True) (fun _ => False)) 0 0 (fun _ => False) := by
  refine Met.ofW (cc := cX0_areSome) (maxL := 2) (ret := (some .boolean)) (by decide) rfl ?_
  intro p e s m args below meth c s₁ B hml hv
  obtain ⟨rfl, hP, hK, hN⟩ := hv
  have hx := B.exec
  have hb := B.bytes
  have hr := B.returns
  have hts := atoms_spec (ws := v_c_areSome0) B.pre
  have hown : s.vm.findClass RX0 = some m.cls := findClass_of_methodNamed B.named
  have hlocks := B.notSynchronized
  have hS : va_S (fun _ : Nat => False) s.heap s.heap [] := va_S.rf
  have hl := lv_entry ([.ref bk, .int q]) (n := 2) (Nat.le_of_ble_eq_true rfl)
  rw [lg_entry_eq]
  generalize (lg_sl ([.ref bk, .int q]) ++ List.replicate (2 - (lg_sl ([.ref bk, .int q])).length) Slot.unset).toArray = ls at hl ⊢
  have hl : lv_has ls 2 [(0, .ref bk), (1, .int q)] := hl
  refine lv_iload_n hx hb dX0_areSome_0 rfl (lv_at hl 1 rfl) ?_
  refine lv_iconst (v := 0) hx hb dX0_areSome_1 (by decide) ?_
  refine lv_iconst (v := 1) hx hb dX0_areSome_2 (by decide) ?_
  refine lv_aload_n hx hb dX0_areSome_3 rfl (lv_at hl 0 rfl) ?_
  refine va_get (D := (dC, dI)) (ci := 1) (v := .int 0) (C := RX0) (T := TX0) (N := 11) hx hb hts iw_c_areSome0_X0 hown hK hP 0 rfl rfl 1 (by decide) (hts (.fieldLink RX0 48 "UnlikeBoats$Book" "boats" "I") (List.mem_of_getElem? (i := 1) rfl)) (fun _ h9 => h9) rfl dX0_areSome_4 ?_
  refine lv_ishl hx hb dX0_areSome_7 ?_
  refine lv_topi (fun y1 ey1 => ?_)
  obtain rfl : (1 : Int32) = y1 := (ey1.trans (by decide)).symm
  refine lv_iconst (v := 1) hx hb dX0_areSome_8 (by decide) ?_
  refine lv_isub hx hb dX0_areSome_9 ?_
  refine lv_topi (fun y2 ey2 => ?_)
  obtain rfl : (0 : Int32) = y2 := (ey2.trans (by decide)).symm
  refine va_calli (va_runSN (As := [.int q, .int 0, .int 0]) (rest := []) ⟨hx, hb, hml, hown, hts⟩ (c_within l q (0) (0)) ⟨va_cnB 3 hts g_c_areSome0_c_within rfl rfl rfl (ub_nx2 hN) (hts (.initialized RX12) (List.mem_of_getElem? (i := 2) rfl)) (by decide +kernel) ⟨Nat.le_of_ble_eq_true rfl, Nat.le_of_ble_eq_true rfl⟩, (hts (.static yX12_within) (List.mem_of_getElem? (i := 3) rfl)), trivial⟩ ⟨fun _ _ _ _ q => q, fun _ _ _ => ⟨rfl, trivial⟩⟩ rfl rfl hl.1 rfl (lv_room (Nat.le_of_ble_eq_true rfl)) dX0_areSome_10 ⟨Nat.le_of_ble_eq_true rfl, Nat.le_of_ble_eq_true rfl⟩) hS (fun _ _ h => h.elim) (fun _ h => h.elim) (fun r3 u4 t H1 locs ht hvm hw hB hz1 hk1 hS => ?_)
  have hP := ub_keep hP hk1
  generalize H1 = H at hP hS ⊢
  rcases hw with ⟨rfl, hw1, hw2⟩ | ⟨rfl, hw1⟩
  · --in
    have d5a := hw1
    have d5b := hw2
    refine lv_if_eq (tgt := 32) hx hb dX0_areSome_13 (by decide) (fun c6 => by first | exact absurd c6 (by decide) | exact absurd (by decide) c6) (fun c6 => ?_)
    obtain rfl : (0 : Int32) = q := (ub_in0 d5a d5b).symm
    refine lv_iload_n hx hb dX0_areSome_16 rfl (lv_at hl 1 rfl) ?_
    refine va_calli (va_runS (As := [.int 0]) (rest := []) ⟨hx, hb, hml, hown, hts⟩ (c_bitCount0 l ) (va_cwS 1 hts g_c_areSome0_c_bitCount0_88 rfl rfl rfl (by decide +kernel) ⟨Nat.le_of_ble_eq_true rfl, Nat.le_of_ble_eq_true rfl⟩) ⟨fun _ _ _ _ q => q, fun _ _ _ => ⟨rfl, trivial⟩⟩ rfl rfl hl.1 rfl (lv_room (Nat.le_of_ble_eq_true rfl)) dX0_areSome_17 ⟨Nat.le_of_ble_eq_true rfl, Nat.le_of_ble_eq_true rfl⟩) hS (fun _ _ h => h.elim) (fun _ h => h.elim) (fun r7 u8 t H1 locs ht hvm hw hB hz1 hk1 hS => ?_)
    have hP := ub_keep hP hk1
    generalize H1 = H at hP hS ⊢
    obtain rfl : (0 : Int32) = r7 := hw.symm
    refine lv_iconst (v := 2) hx hb dX0_areSome_20 (by decide) ?_
    refine lv_iconst (v := 4) hx hb dX0_areSome_21 (by decide) ?_
    refine va_calli (va_runSN (As := [.int 0, .int 2, .int 4]) (rest := []) ⟨hx, hb, hml, hown, hts⟩ (c_within l (0) (2) (4)) ⟨va_cnB 3 hts g_c_areSome0_c_within rfl rfl rfl (ub_nx2 hN) (hts (.initialized RX12) (List.mem_of_getElem? (i := 2) rfl)) (by decide +kernel) ⟨Nat.le_of_ble_eq_true rfl, Nat.le_of_ble_eq_true rfl⟩, (hts (.static yX12_within) (List.mem_of_getElem? (i := 3) rfl)), trivial⟩ ⟨fun _ _ _ _ q => q, fun _ _ _ => ⟨rfl, trivial⟩⟩ rfl rfl hl.1 rfl (lv_room (Nat.le_of_ble_eq_true rfl)) dX0_areSome_22 ⟨Nat.le_of_ble_eq_true rfl, Nat.le_of_ble_eq_true rfl⟩) hS (fun _ _ h => h.elim) (fun _ h => h.elim) (fun r9 u10 t H1 locs ht hvm hw hB hz1 hk1 hS => ?_)
    have hP := ub_keep hP hk1
    generalize H1 = H at hP hS ⊢
    rcases hw with ⟨rfl, hw1, hw2⟩ | ⟨rfl, hw1⟩
    · first | exact absurd (by decide) hw1 | exact absurd (by decide) hw2
    refine lv_if_eq (tgt := 32) hx hb dX0_areSome_25 (by decide) (fun c11 => ?_) (fun c11 => by first | exact absurd c11 (by decide) | exact absurd (by decide) c11)
    refine lv_iconst (v := 0) hx hb dX0_areSome_32 (by decide) ?_
    exact W.zret (v := (0)) hx hb hr rfl (fun t ht hW => ⟨⟨(0), (), rfl, rfl, trivial⟩, hS.F ht⟩) hS.2.2 dX0_areSome_33
  · --out
    have d12 := hw1
    refine lv_if_eq (tgt := 32) hx hb dX0_areSome_13 (by decide) (fun c13 => ?_) (fun c13 => by first | exact absurd c13 (by decide) | exact absurd (by decide) c13)
    refine lv_iconst (v := 0) hx hb dX0_areSome_32 (by decide) ?_
    exact W.zret (v := (0)) hx hb hr rfl (fun t ht hW => ⟨⟨(0), (), rfl, rfl, trivial⟩, hS.F ht⟩) hS.2.2 dX0_areSome_33
def A_c_rulesOn0 : List Cond := [.fieldLink RX0 18 "UnlikeBoats$Book" "rules" "Ljava/util/ArrayList;", .methodLink RX0 56 yJx4a65c_size_8abf5, .instanceMethod yJx4a65c_size_8abf5, .selects RJx4a65c yJx4a65c_size_8abf5 yJx4a65c_size_8abf5, .initialized RJx4a65c, .code yJx4a65c_size_8abf5 cJx4a65c_size_8abf5 1 (some .int), .fieldLink RJx4a65c 48 "java/util/ArrayList" "size" "I"]
def v_c_rulesOn0 : List Cond := .code yX0_rulesOn cX0_rulesOn 7 (some .int) :: (A_c_rulesOn0 ++ wsX00 ++ wsJx4a65c0)
theorem iw_c_rulesOn0_X0 : ∀ w ∈ wsX00, w ∈ v_c_rulesOn0 := fun _ h => List.mem_cons_of_mem _ (List.mem_append_left _ (List.mem_append_right _ (h)))
theorem iw_c_rulesOn0_Jx4a65c : ∀ w ∈ wsJx4a65c0, w ∈ v_c_rulesOn0 := fun _ h => List.mem_cons_of_mem _ (List.mem_append_right _ (h))
theorem gb_c_rulesOn0_c_size0 : GoodIn v_c_rulesOn0 (.code yJx4a65c_size_8abf5 cJx4a65c_size_8abf5 1 (some .int) :: A_c_size) := (List.forall_mem_cons.mpr ⟨⟨List.mem_of_getElem? (i := 6) rfl, good_of_word rfl⟩, (List.forall_mem_cons.mpr ⟨⟨List.mem_of_getElem? (i := 7) rfl, good_of_word rfl⟩, (fun _ h => nomatch h)⟩)⟩)
theorem gb_c_rulesOn0_c_size : GoodIn v_c_rulesOn0 v_c_size := (goodIn_ca gb_c_rulesOn0_c_size0 (goodIn_sub iw_c_rulesOn0_Jx4a65c gw_Jx4a65c))
theorem g_c_rulesOn0_c_size_56 : GoodIn v_c_rulesOn0 (wsV RX0 56 RJx4a65c yJx4a65c_size_8abf5 v_c_size) := goodIn_app (List.forall_mem_cons.mpr ⟨⟨List.mem_of_getElem? (i := 2) rfl, good_of_word rfl⟩, (List.forall_mem_cons.mpr ⟨⟨List.mem_of_getElem? (i := 3) rfl, good_of_word rfl⟩, (List.forall_mem_cons.mpr ⟨⟨List.mem_of_getElem? (i := 4) rfl, good_of_word rfl⟩, (List.forall_mem_cons.mpr ⟨⟨List.mem_of_getElem? (i := 5) rfl, good_of_word rfl⟩, (fun _ h => nomatch h)⟩)⟩)⟩)⟩) gb_c_rulesOn0_c_size
set_option maxHeartbeats 4000000 in
set_option maxRecDepth 100000 in
theorem c_rulesOn0 (l : Launch) (dC : Nat → ClassId) (dI : Nat → Nat → Nat) (bk : Nat) (lc : Nat) (lr : Nat) (la : Nat) (le : Nat) (lw : Nat) (lp : Nat) (ltr : Nat) (stk : Nat) (ed : Nat) (k : Int32) (q : Int32)  : Met l yX0_rulesOn v_c_rulesOn0 ({ frames := 1, cells := 0, slots := 0, locals := 40 }) (va_Pc [.ref bk, .int k, .int q] (fun U => va_P (dC, dI) vwCl [(bk, .inr (1, [.int 0, .int 0, .int 0, .ref lc, .ref lr, .ref la, .ref le, .ref lw, .ref lp, .ref ltr, .ref stk])), (lr, .inr (0, [.int 0, .ref ed, .int 0]))] U.heap ∧ va_K (dC, dI) vwCl [] U ∧ ub_NX U)) (va_Qi (S := Unit) (fun r _ => r = -1) (fun _ _ => True) (fun _ => False)) 0 0 (fun _ => False) := by
  refine Met.ofW (cc := cX0_rulesOn) (maxL := 7) (ret := (some .int)) (by decide) rfl ?_
  intro p e s m args below meth c s₁ B hml hv
  obtain ⟨rfl, hP, hK, hN⟩ := hv
  have hx := B.exec
  have hb := B.bytes
  have hr := B.returns
  have hts := atoms_spec (ws := v_c_rulesOn0) B.pre
  have hown : s.vm.findClass RX0 = some m.cls := findClass_of_methodNamed B.named
  have hlocks := B.notSynchronized
  have hS : va_S (fun _ : Nat => False) s.heap s.heap [] := va_S.rf
  have hl := lv_entry ([.ref bk, .int k, .int q]) (n := 7) (Nat.le_of_ble_eq_true rfl)
  rw [lg_entry_eq]
  generalize (lg_sl ([.ref bk, .int k, .int q]) ++ List.replicate (7 - (lg_sl ([.ref bk, .int k, .int q])).length) Slot.unset).toArray = ls at hl ⊢
  have hl : lv_has ls 7 [(0, .ref bk), (1, .int k), (2, .int q)] := hl
  refine lv_iconst (v := -1) hx hb dX0_rulesOn_0 (by decide) ?_
  refine lv_istore_n (lv' := [(3, .int (-1)), (0, .ref bk), (1, .int k), (2, .int q)]) hx hb dX0_rulesOn_1 rfl hl (by decide) rfl (fun ls hl => ?_)
  refine lv_iconst (v := 0) hx hb dX0_rulesOn_2 (by decide) ?_
  refine lv_istore (lv' := [(4, .int 0), (3, .int (-1)), (0, .ref bk), (1, .int k), (2, .int q)]) hx hb dX0_rulesOn_3 hl (by decide) rfl (fun ls hl => ?_)
  refine lv_iconst (v := 0) hx hb dX0_rulesOn_5 (by decide) ?_
  refine lv_istore (lv' := [(5, .int 0), (4, .int 0), (3, .int (-1)), (0, .ref bk), (1, .int k), (2, .int q)]) hx hb dX0_rulesOn_6 hl (by decide) rfl (fun ls hl => ?_)
  refine lv_iload hx hb dX0_rulesOn_8 (lv_at hl 0 rfl) ?_
  refine lv_aload_n hx hb dX0_rulesOn_10 rfl (lv_at hl 3 rfl) ?_
  refine va_get (D := (dC, dI)) (ci := 1) (v := .ref lr) (C := RX0) (T := TX0) (N := 11) hx hb hts iw_c_rulesOn0_X0 hown hK hP 0 rfl rfl 4 (by decide) (hts (.fieldLink RX0 18 "UnlikeBoats$Book" "rules" "Ljava/util/ArrayList;") (List.mem_of_getElem? (i := 1) rfl)) (fun _ h9 => h9) rfl dX0_rulesOn_11 ?_
  have hPc := hP.sub (ws' := [(lr, .inr (0, [.int 0, .ref ed, .int 0]))]) [1] rfl
  have hKc := hK.sub (tys' := []) [] rfl
  refine va_calli (va_runV (As := []) (rest := [.int 0]) ⟨hx, hb, hml, hown, hts⟩ (c_size l dC dI lr (0) ed (0)) (cwV 0 hts g_c_rulesOn0_c_size_56 rfl rfl rfl (by decide +kernel) ⟨Nat.le_of_ble_eq_true rfl, Nat.le_of_ble_eq_true rfl⟩) ⟨fun a U g mk q => by obtain ⟨e0, qP, qK⟩ := q; exact ⟨e0, qP, va_K.moved (u := U) (U := U.calling g mk a) (Vm.Alike.refl U.vm) qK⟩, va_recv hK hP (ci := 0) (q0 := 1) rfl rfl, fun U hU hW => ⟨rfl, by rw [hU]; exact hPc, va_K.moved hW.alike hKc⟩⟩ rfl rfl hl.1 rfl (lv_room (Nat.le_of_ble_eq_true rfl)) dX0_rulesOn_14 ⟨Nat.le_of_ble_eq_true rfl, Nat.le_of_ble_eq_true rfl⟩) hS (fun _ _ h => h.elim) (fun _ h => h.elim) (fun r1 u2 t H1 locs ht hvm hw hB hz1 hk1 hS => ?_)
  have hP := ub_keep hP hk1
  generalize H1 = H at hP hS ⊢
  obtain rfl : (0 : Int32) = r1 := hw.symm
  refine lv_icmp_ge (tgt := 78) hx hb dX0_rulesOn_17 (by decide) (fun c3 => ?_) (fun c3 => by first | exact absurd c3 (by decide) | exact absurd (by decide) c3)
  refine lv_iload_n hx hb dX0_rulesOn_78 rfl (lv_at hl 2 rfl) ?_
  exact W.iret (v := (-1)) hx hb hr (fun t ht hW => ⟨⟨(-1), (), rfl, rfl, trivial⟩, hS.F ht⟩) hS.2.2 dX0_rulesOn_79
def A_c_racesIn0 : List Cond := [.fieldLink RX0 21 "UnlikeBoats$Book" "races" "Ljava/util/ArrayList;", .methodLink RX0 56 yJx4a65c_size_8abf5, .instanceMethod yJx4a65c_size_8abf5, .selects RJx4a65c yJx4a65c_size_8abf5 yJx4a65c_size_8abf5, .initialized RJx4a65c, .code yJx4a65c_size_8abf5 cJx4a65c_size_8abf5 1 (some .int), .fieldLink RJx4a65c 48 "java/util/ArrayList" "size" "I"]
def v_c_racesIn0 : List Cond := .code yX0_racesIn cX0_racesIn 4 (some .int) :: (A_c_racesIn0 ++ wsX00 ++ wsJx4a65c0)
theorem iw_c_racesIn0_X0 : ∀ w ∈ wsX00, w ∈ v_c_racesIn0 := fun _ h => List.mem_cons_of_mem _ (List.mem_append_left _ (List.mem_append_right _ (h)))
theorem iw_c_racesIn0_Jx4a65c : ∀ w ∈ wsJx4a65c0, w ∈ v_c_racesIn0 := fun _ h => List.mem_cons_of_mem _ (List.mem_append_right _ (h))
theorem gb_c_racesIn0_c_size0 : GoodIn v_c_racesIn0 (.code yJx4a65c_size_8abf5 cJx4a65c_size_8abf5 1 (some .int) :: A_c_size) := (List.forall_mem_cons.mpr ⟨⟨List.mem_of_getElem? (i := 6) rfl, good_of_word rfl⟩, (List.forall_mem_cons.mpr ⟨⟨List.mem_of_getElem? (i := 7) rfl, good_of_word rfl⟩, (fun _ h => nomatch h)⟩)⟩)
theorem gb_c_racesIn0_c_size : GoodIn v_c_racesIn0 v_c_size := (goodIn_ca gb_c_racesIn0_c_size0 (goodIn_sub iw_c_racesIn0_Jx4a65c gw_Jx4a65c))
theorem g_c_racesIn0_c_size_56 : GoodIn v_c_racesIn0 (wsV RX0 56 RJx4a65c yJx4a65c_size_8abf5 v_c_size) := goodIn_app (List.forall_mem_cons.mpr ⟨⟨List.mem_of_getElem? (i := 2) rfl, good_of_word rfl⟩, (List.forall_mem_cons.mpr ⟨⟨List.mem_of_getElem? (i := 3) rfl, good_of_word rfl⟩, (List.forall_mem_cons.mpr ⟨⟨List.mem_of_getElem? (i := 4) rfl, good_of_word rfl⟩, (List.forall_mem_cons.mpr ⟨⟨List.mem_of_getElem? (i := 5) rfl, good_of_word rfl⟩, (fun _ h => nomatch h)⟩)⟩)⟩)⟩) gb_c_racesIn0_c_size
set_option maxHeartbeats 4000000 in
set_option maxRecDepth 100000 in
theorem c_racesIn0 (l : Launch) (dC : Nat → ClassId) (dI : Nat → Nat → Nat) (bk : Nat) (lc : Nat) (lr : Nat) (la : Nat) (le : Nat) (lw : Nat) (lp : Nat) (ltr : Nat) (stk : Nat) (ed : Nat) (q : Int32)  : Met l yX0_racesIn v_c_racesIn0 ({ frames := 1, cells := 0, slots := 0, locals := 40 }) (va_Pc [.ref bk, .int q] (fun U => va_P (dC, dI) vwCl [(bk, .inr (1, [.int 0, .int 0, .int 0, .ref lc, .ref lr, .ref la, .ref le, .ref lw, .ref lp, .ref ltr, .ref stk])), (la, .inr (0, [.int 0, .ref ed, .int 0]))] U.heap ∧ va_K (dC, dI) vwCl [] U ∧ ub_NX U)) (va_Qi (S := Unit) (fun r _ => r = 0) (fun _ _ => True) (fun _ => False)) 0 0 (fun _ => False) := by
  refine Met.ofW (cc := cX0_racesIn) (maxL := 4) (ret := (some .int)) (by decide) rfl ?_
  intro p e s m args below meth c s₁ B hml hv
  obtain ⟨rfl, hP, hK, hN⟩ := hv
  have hx := B.exec
  have hb := B.bytes
  have hr := B.returns
  have hts := atoms_spec (ws := v_c_racesIn0) B.pre
  have hown : s.vm.findClass RX0 = some m.cls := findClass_of_methodNamed B.named
  have hlocks := B.notSynchronized
  have hS : va_S (fun _ : Nat => False) s.heap s.heap [] := va_S.rf
  have hl := lv_entry ([.ref bk, .int q]) (n := 4) (Nat.le_of_ble_eq_true rfl)
  rw [lg_entry_eq]
  generalize (lg_sl ([.ref bk, .int q]) ++ List.replicate (4 - (lg_sl ([.ref bk, .int q])).length) Slot.unset).toArray = ls at hl ⊢
  have hl : lv_has ls 4 [(0, .ref bk), (1, .int q)] := hl
  refine lv_iconst (v := 0) hx hb dX0_racesIn_0 (by decide) ?_
  refine lv_istore_n (lv' := [(2, .int 0), (0, .ref bk), (1, .int q)]) hx hb dX0_racesIn_1 rfl hl (by decide) rfl (fun ls hl => ?_)
  refine lv_iconst (v := 0) hx hb dX0_racesIn_2 (by decide) ?_
  refine lv_istore_n (lv' := [(3, .int 0), (2, .int 0), (0, .ref bk), (1, .int q)]) hx hb dX0_racesIn_3 rfl hl (by decide) rfl (fun ls hl => ?_)
  refine lv_iload_n hx hb dX0_racesIn_4 rfl (lv_at hl 0 rfl) ?_
  refine lv_aload_n hx hb dX0_racesIn_5 rfl (lv_at hl 2 rfl) ?_
  refine va_get (D := (dC, dI)) (ci := 1) (v := .ref la) (C := RX0) (T := TX0) (N := 11) hx hb hts iw_c_racesIn0_X0 hown hK hP 0 rfl rfl 5 (by decide) (hts (.fieldLink RX0 21 "UnlikeBoats$Book" "races" "Ljava/util/ArrayList;") (List.mem_of_getElem? (i := 1) rfl)) (fun _ h9 => h9) rfl dX0_racesIn_6 ?_
  have hPc := hP.sub (ws' := [(la, .inr (0, [.int 0, .ref ed, .int 0]))]) [1] rfl
  have hKc := hK.sub (tys' := []) [] rfl
  refine va_calli (va_runV (As := []) (rest := [.int 0]) ⟨hx, hb, hml, hown, hts⟩ (c_size l dC dI la (0) ed (0)) (cwV 0 hts g_c_racesIn0_c_size_56 rfl rfl rfl (by decide +kernel) ⟨Nat.le_of_ble_eq_true rfl, Nat.le_of_ble_eq_true rfl⟩) ⟨fun a U g mk q => by obtain ⟨e0, qP, qK⟩ := q; exact ⟨e0, qP, va_K.moved (u := U) (U := U.calling g mk a) (Vm.Alike.refl U.vm) qK⟩, va_recv hK hP (ci := 0) (q0 := 1) rfl rfl, fun U hU hW => ⟨rfl, by rw [hU]; exact hPc, va_K.moved hW.alike hKc⟩⟩ rfl rfl hl.1 rfl (lv_room (Nat.le_of_ble_eq_true rfl)) dX0_racesIn_9 ⟨Nat.le_of_ble_eq_true rfl, Nat.le_of_ble_eq_true rfl⟩) hS (fun _ _ h => h.elim) (fun _ h => h.elim) (fun r1 u2 t H1 locs ht hvm hw hB hz1 hk1 hS => ?_)
  have hP := ub_keep hP hk1
  generalize H1 = H at hP hS ⊢
  obtain rfl : (0 : Int32) = r1 := hw.symm
  refine lv_icmp_ge (tgt := 42) hx hb dX0_racesIn_12 (by decide) (fun c3 => ?_) (fun c3 => by first | exact absurd c3 (by decide) | exact absurd (by decide) c3)
  refine lv_iload_n hx hb dX0_racesIn_42 rfl (lv_at hl 1 rfl) ?_
  exact W.iret (v := (0)) hx hb hr (fun t ht hW => ⟨⟨(0), (), rfl, rfl, trivial⟩, hS.F ht⟩) hS.2.2 dX0_racesIn_43
def A_c_disqualified0 : List Cond := [.fieldLink RX0 21 "UnlikeBoats$Book" "races" "Ljava/util/ArrayList;", .methodLink RX0 56 yJx4a65c_size_8abf5, .instanceMethod yJx4a65c_size_8abf5, .selects RJx4a65c yJx4a65c_size_8abf5 yJx4a65c_size_8abf5, .initialized RJx4a65c, .code yJx4a65c_size_8abf5 cJx4a65c_size_8abf5 1 (some .int), .fieldLink RJx4a65c 48 "java/util/ArrayList" "size" "I"]
def v_c_disqualified0 : List Cond := .code yX0_disqualified cX0_disqualified 3 (some .int) :: (A_c_disqualified0 ++ wsX00 ++ wsJx4a65c0)
theorem iw_c_disqualified0_X0 : ∀ w ∈ wsX00, w ∈ v_c_disqualified0 := fun _ h => List.mem_cons_of_mem _ (List.mem_append_left _ (List.mem_append_right _ (h)))
theorem iw_c_disqualified0_Jx4a65c : ∀ w ∈ wsJx4a65c0, w ∈ v_c_disqualified0 := fun _ h => List.mem_cons_of_mem _ (List.mem_append_right _ (h))
theorem gb_c_disqualified0_c_size0 : GoodIn v_c_disqualified0 (.code yJx4a65c_size_8abf5 cJx4a65c_size_8abf5 1 (some .int) :: A_c_size) := (List.forall_mem_cons.mpr ⟨⟨List.mem_of_getElem? (i := 6) rfl, good_of_word rfl⟩, (List.forall_mem_cons.mpr ⟨⟨List.mem_of_getElem? (i := 7) rfl, good_of_word rfl⟩, (fun _ h => nomatch h)⟩)⟩)
theorem gb_c_disqualified0_c_size : GoodIn v_c_disqualified0 v_c_size := (goodIn_ca gb_c_disqualified0_c_size0 (goodIn_sub iw_c_disqualified0_Jx4a65c gw_Jx4a65c))
theorem g_c_disqualified0_c_size_56 : GoodIn v_c_disqualified0 (wsV RX0 56 RJx4a65c yJx4a65c_size_8abf5 v_c_size) := goodIn_app (List.forall_mem_cons.mpr ⟨⟨List.mem_of_getElem? (i := 2) rfl, good_of_word rfl⟩, (List.forall_mem_cons.mpr ⟨⟨List.mem_of_getElem? (i := 3) rfl, good_of_word rfl⟩, (List.forall_mem_cons.mpr ⟨⟨List.mem_of_getElem? (i := 4) rfl, good_of_word rfl⟩, (List.forall_mem_cons.mpr ⟨⟨List.mem_of_getElem? (i := 5) rfl, good_of_word rfl⟩, (fun _ h => nomatch h)⟩)⟩)⟩)⟩) gb_c_disqualified0_c_size
set_option maxHeartbeats 4000000 in
set_option maxRecDepth 100000 in
theorem c_disqualified0 (l : Launch) (dC : Nat → ClassId) (dI : Nat → Nat → Nat) (bk : Nat) (lc : Nat) (lr : Nat) (la : Nat) (le : Nat) (lw : Nat) (lp : Nat) (ltr : Nat) (stk : Nat) (ed : Nat)  : Met l yX0_disqualified v_c_disqualified0 ({ frames := 1, cells := 0, slots := 0, locals := 40 }) (va_Pc [.ref bk] (fun U => va_P (dC, dI) vwCl [(bk, .inr (1, [.int 0, .int 0, .int 0, .ref lc, .ref lr, .ref la, .ref le, .ref lw, .ref lp, .ref ltr, .ref stk])), (la, .inr (0, [.int 0, .ref ed, .int 0]))] U.heap ∧ va_K (dC, dI) vwCl [] U ∧ ub_NX U)) (va_Qi (S := Unit) (fun r _ => r = 0) (fun _ _ => True) (fun _ => False)) 0 0 (fun _ => False) := by
  refine Met.ofW (cc := cX0_disqualified) (maxL := 3) (ret := (some .int)) (by decide) rfl ?_
  intro p e s m args below meth c s₁ B hml hv
  obtain ⟨rfl, hP, hK, hN⟩ := hv
  have hx := B.exec
  have hb := B.bytes
  have hr := B.returns
  have hts := atoms_spec (ws := v_c_disqualified0) B.pre
  have hown : s.vm.findClass RX0 = some m.cls := findClass_of_methodNamed B.named
  have hlocks := B.notSynchronized
  have hS : va_S (fun _ : Nat => False) s.heap s.heap [] := va_S.rf
  have hl := lv_entry ([.ref bk]) (n := 3) (Nat.le_of_ble_eq_true rfl)
  rw [lg_entry_eq]
  generalize (lg_sl ([.ref bk]) ++ List.replicate (3 - (lg_sl ([.ref bk])).length) Slot.unset).toArray = ls at hl ⊢
  have hl : lv_has ls 3 [(0, .ref bk)] := hl
  refine lv_iconst (v := 0) hx hb dX0_disqualified_0 (by decide) ?_
  refine lv_istore_n (lv' := [(1, .int 0), (0, .ref bk)]) hx hb dX0_disqualified_1 rfl hl (by decide) rfl (fun ls hl => ?_)
  refine lv_iconst (v := 0) hx hb dX0_disqualified_2 (by decide) ?_
  refine lv_istore_n (lv' := [(2, .int 0), (1, .int 0), (0, .ref bk)]) hx hb dX0_disqualified_3 rfl hl (by decide) rfl (fun ls hl => ?_)
  refine lv_iload_n hx hb dX0_disqualified_4 rfl (lv_at hl 0 rfl) ?_
  refine lv_aload_n hx hb dX0_disqualified_5 rfl (lv_at hl 2 rfl) ?_
  refine va_get (D := (dC, dI)) (ci := 1) (v := .ref la) (C := RX0) (T := TX0) (N := 11) hx hb hts iw_c_disqualified0_X0 hown hK hP 0 rfl rfl 5 (by decide) (hts (.fieldLink RX0 21 "UnlikeBoats$Book" "races" "Ljava/util/ArrayList;") (List.mem_of_getElem? (i := 1) rfl)) (fun _ h9 => h9) rfl dX0_disqualified_6 ?_
  have hPc := hP.sub (ws' := [(la, .inr (0, [.int 0, .ref ed, .int 0]))]) [1] rfl
  have hKc := hK.sub (tys' := []) [] rfl
  refine va_calli (va_runV (As := []) (rest := [.int 0]) ⟨hx, hb, hml, hown, hts⟩ (c_size l dC dI la (0) ed (0)) (cwV 0 hts g_c_disqualified0_c_size_56 rfl rfl rfl (by decide +kernel) ⟨Nat.le_of_ble_eq_true rfl, Nat.le_of_ble_eq_true rfl⟩) ⟨fun a U g mk q => by obtain ⟨e0, qP, qK⟩ := q; exact ⟨e0, qP, va_K.moved (u := U) (U := U.calling g mk a) (Vm.Alike.refl U.vm) qK⟩, va_recv hK hP (ci := 0) (q0 := 1) rfl rfl, fun U hU hW => ⟨rfl, by rw [hU]; exact hPc, va_K.moved hW.alike hKc⟩⟩ rfl rfl hl.1 rfl (lv_room (Nat.le_of_ble_eq_true rfl)) dX0_disqualified_9 ⟨Nat.le_of_ble_eq_true rfl, Nat.le_of_ble_eq_true rfl⟩) hS (fun _ _ h => h.elim) (fun _ h => h.elim) (fun r1 u2 t H1 locs ht hvm hw hB hz1 hk1 hS => ?_)
  have hP := ub_keep hP hk1
  generalize H1 = H at hP hS ⊢
  obtain rfl : (0 : Int32) = r1 := hw.symm
  refine lv_icmp_ge (tgt := 36) hx hb dX0_disqualified_12 (by decide) (fun c3 => ?_) (fun c3 => by first | exact absurd c3 (by decide) | exact absurd (by decide) c3)
  refine lv_iload_n hx hb dX0_disqualified_36 rfl (lv_at hl 1 rfl) ?_
  exact W.iret (v := (0)) hx hb hr (fun t ht hW => ⟨⟨(0), (), rfl, rfl, trivial⟩, hS.F ht⟩) hS.2.2 dX0_disqualified_37
def A_c_worthIn0 : List Cond := []
def v_c_worthIn0 : List Cond := .code yX0_worthIn cX0_worthIn 3 (some .int) :: (A_c_worthIn0)
set_option maxHeartbeats 4000000 in
set_option maxRecDepth 100000 in
theorem c_worthIn0 (l : Launch) (dC : Nat → ClassId) (dI : Nat → Nat → Nat) (bk : Nat) (n : Int32)  : Met l yX0_worthIn v_c_worthIn0 ({ frames := 0, cells := 0, slots := 0, locals := 0 }) (va_Pc [.ref bk, .int (-1), .int n] (fun U => va_P (dC, dI) vwCl [] U.heap ∧ va_K (dC, dI) vwCl [] U)) (va_Qi (S := Unit) (fun r _ => r = 0) (fun _ _ => True) (fun _ => False)) 0 0 (fun _ => False) := by
  refine Met.ofW (cc := cX0_worthIn) (maxL := 3) (ret := (some .int)) (by decide) rfl ?_
  intro p e s m args below meth c s₁ B hml hv
  obtain ⟨rfl, hP, hK⟩ := hv
  have hx := B.exec
  have hb := B.bytes
  have hr := B.returns
  have hts := atoms_spec (ws := v_c_worthIn0) B.pre
  have hown : s.vm.findClass RX0 = some m.cls := findClass_of_methodNamed B.named
  have hlocks := B.notSynchronized
  have hS : va_S (fun _ : Nat => False) s.heap s.heap [] := va_S.rf
  have hl := lv_entry ([.ref bk, .int (-1), .int n]) (n := 3) (Nat.le_of_ble_eq_true rfl)
  rw [lg_entry_eq]
  generalize (lg_sl ([.ref bk, .int (-1), .int n]) ++ List.replicate (3 - (lg_sl ([.ref bk, .int (-1), .int n])).length) Slot.unset).toArray = ls at hl ⊢
  have hl : lv_has ls 3 [(0, .ref bk), (1, .int (-1)), (2, .int n)] := hl
  refine lv_iload_n hx hb dX0_worthIn_0 rfl (lv_at hl 1 rfl) ?_
  refine lv_iconst (v := -1) hx hb dX0_worthIn_1 (by decide) ?_
  refine lv_icmp_ne (tgt := 9) hx hb dX0_worthIn_2 (by decide) (fun c1 => by first | exact absurd c1 (by decide) | exact absurd (by decide) c1) (fun c1 => ?_)
  refine lv_iconst (v := 0) hx hb dX0_worthIn_5 (by decide) ?_
  refine lv_goto (tgt := 32) hx hb dX0_worthIn_6 (by decide) ?_
  exact W.iret (v := (0)) hx hb hr (fun t ht hW => ⟨⟨(0), (), rfl, rfl, trivial⟩, hS.F ht⟩) hS.2.2 dX0_worthIn_32
def A_c_held : List Cond := []
def v_c_held : List Cond := .code yX12_held cX12_held 3 (some .int) :: (A_c_held)
set_option maxHeartbeats 4000000 in
set_option maxRecDepth 100000 in
theorem c_held (l : Launch)   : Met l yX12_held v_c_held ({ frames := 0, cells := 0, slots := 0, locals := 0 }) (va_Pc [.int 0, .int 0, .int 0] (fun _ => True)) (va_Qi (S := Unit) (fun r _ => r = 0) (fun _ _ => True) (fun _ => False)) 0 0 (fun _ => False) := by
  refine Met.ofW (cc := cX12_held) (maxL := 3) (ret := (some .int)) (by decide) rfl ?_
  intro p e s m args below meth c s₁ B hml hv
  obtain ⟨rfl, -⟩ := hv
  have hx := B.exec
  have hb := B.bytes
  have hr := B.returns
  have hts := atoms_spec (ws := v_c_held) B.pre
  have hown : s.vm.findClass RX12 = some m.cls := findClass_of_methodNamed B.named
  have hlocks := B.notSynchronized
  have hS : va_S (fun _ : Nat => False) s.heap s.heap [] := va_S.rf
  have hl := lv_entry ([.int 0, .int 0, .int 0]) (n := 3) (Nat.le_of_ble_eq_true rfl)
  rw [lg_entry_eq]
  generalize (lg_sl ([.int 0, .int 0, .int 0]) ++ List.replicate (3 - (lg_sl ([.int 0, .int 0, .int 0])).length) Slot.unset).toArray = ls at hl ⊢
  have hl : lv_has ls 3 [(0, .int 0), (1, .int 0), (2, .int 0)] := hl
  refine lv_iload_n hx hb dX12_held_0 rfl (lv_at hl 0 rfl) ?_
  refine lv_iload_n hx hb dX12_held_1 rfl (lv_at hl 1 rfl) ?_
  refine lv_icmp_ge (tgt := 9) hx hb dX12_held_2 (by decide) (fun c1 => ?_) (fun c1 => by first | exact absurd c1 (by decide) | exact absurd (by decide) c1)
  refine lv_iload_n hx hb dX12_held_9 rfl (lv_at hl 0 rfl) ?_
  refine lv_iload_n hx hb dX12_held_10 rfl (lv_at hl 2 rfl) ?_
  refine lv_icmp_le (tgt := 18) hx hb dX12_held_11 (by decide) (fun c2 => ?_) (fun c2 => by first | exact absurd c2 (by decide) | exact absurd (by decide) c2)
  refine lv_iload_n hx hb dX12_held_18 rfl (lv_at hl 0 rfl) ?_
  exact W.iret (v := (0)) hx hb hr (fun t ht hW => ⟨⟨(0), (), rfl, rfl, trivial⟩, hS.F ht⟩) hS.2.2 dX12_held_19
def A_c_isOneOf0 : List Cond := []
def v_c_isOneOf0 : List Cond := .code yX12_isOneOf cX12_isOneOf 2 (some .boolean) :: (A_c_isOneOf0)
set_option maxHeartbeats 4000000 in
set_option maxRecDepth 100000 in
theorem c_isOneOf0 (l : Launch) (q : Nat)  : Met l yX12_isOneOf v_c_isOneOf0 ({ frames := 0, cells := 0, slots := 0, locals := 0 }) (va_Pc [.ref q, .int (-1)] (fun _ => True)) (va_Qi (S := Unit) (fun r _ => r = 0) (fun _ _ => True) (fun _ => False)) 0 0 (fun _ => False) := by
  refine Met.ofW (cc := cX12_isOneOf) (maxL := 2) (ret := (some .boolean)) (by decide) rfl ?_
  intro p e s m args below meth c s₁ B hml hv
  obtain ⟨rfl, -⟩ := hv
  have hx := B.exec
  have hb := B.bytes
  have hr := B.returns
  have hts := atoms_spec (ws := v_c_isOneOf0) B.pre
  have hown : s.vm.findClass RX12 = some m.cls := findClass_of_methodNamed B.named
  have hlocks := B.notSynchronized
  have hS : va_S (fun _ : Nat => False) s.heap s.heap [] := va_S.rf
  have hl := lv_entry ([.ref q, .int (-1)]) (n := 2) (Nat.le_of_ble_eq_true rfl)
  rw [lg_entry_eq]
  generalize (lg_sl ([.ref q, .int (-1)]) ++ List.replicate (2 - (lg_sl ([.ref q, .int (-1)])).length) Slot.unset).toArray = ls at hl ⊢
  have hl : lv_has ls 2 [(0, .ref q), (1, .int (-1))] := hl
  refine lv_iload_n hx hb dX12_isOneOf_0 rfl (lv_at hl 1 rfl) ?_
  refine lv_if_le (tgt := 17) hx hb dX12_isOneOf_1 (by decide) (fun c1 => ?_) (fun c1 => by first | exact absurd c1 (by decide) | exact absurd (by decide) c1)
  refine lv_iconst (v := 0) hx hb dX12_isOneOf_17 (by decide) ?_
  exact W.zret (v := (0)) hx hb hr rfl (fun t ht hW => ⟨⟨(0), (), rfl, rfl, trivial⟩, hS.F ht⟩) hS.2.2 dX12_isOneOf_18
def A_c_certificate : List Cond := [.fieldLink RX12 10 "UnlikeBoats" "book" "LUnlikeBoats$Book;", .methodLink RX12 66 yX0_isBoat, .instanceMethod yX0_isBoat, .selects RX0 yX0_isBoat yX0_isBoat, .initialized RX0, .code yX0_isBoat cX0_isBoat 2 (some .boolean), .fieldLink RX0 48 "UnlikeBoats$Book" "boats" "I", .initialized RX12, .static yX12_within, .code yX12_within cX12_within 3 (some .boolean)]
def v_c_certificate : List Cond := .code yX12_certificate cX12_certificate 6 (some .int) :: (A_c_certificate ++ wsX120 ++ wsX00)
theorem iw_c_certificate_X12 : ∀ w ∈ wsX120, w ∈ v_c_certificate := fun _ h => List.mem_cons_of_mem _ (List.mem_append_left _ (List.mem_append_right _ (h)))
theorem iw_c_certificate_X0 : ∀ w ∈ wsX00, w ∈ v_c_certificate := fun _ h => List.mem_cons_of_mem _ (List.mem_append_right _ (h))
theorem gb_c_certificate_c_isBoat00 : GoodIn v_c_certificate (.code yX0_isBoat cX0_isBoat 2 (some .boolean) :: A_c_isBoat0) := (List.forall_mem_cons.mpr ⟨⟨List.mem_of_getElem? (i := 6) rfl, good_of_word rfl⟩, (List.forall_mem_cons.mpr ⟨⟨List.mem_of_getElem? (i := 7) rfl, good_of_word rfl⟩, (List.forall_mem_cons.mpr ⟨⟨List.mem_of_getElem? (i := 8) rfl, good_of_word rfl⟩, (List.forall_mem_cons.mpr ⟨⟨List.mem_of_getElem? (i := 9) rfl, good_of_word rfl⟩, (List.forall_mem_cons.mpr ⟨⟨List.mem_of_getElem? (i := 10) rfl, good_of_word rfl⟩, (fun _ h => nomatch h)⟩)⟩)⟩)⟩)⟩)
theorem gb_c_certificate_c_isBoat0 : GoodIn v_c_certificate v_c_isBoat0 := (goodIn_ca gb_c_certificate_c_isBoat00 (goodIn_sub iw_c_certificate_X0 gw_X0))
theorem g_c_certificate_c_isBoat0_66 : GoodIn v_c_certificate (wsV RX12 66 RX0 yX0_isBoat v_c_isBoat0) := goodIn_app (List.forall_mem_cons.mpr ⟨⟨List.mem_of_getElem? (i := 2) rfl, good_of_word rfl⟩, (List.forall_mem_cons.mpr ⟨⟨List.mem_of_getElem? (i := 3) rfl, good_of_word rfl⟩, (List.forall_mem_cons.mpr ⟨⟨List.mem_of_getElem? (i := 4) rfl, good_of_word rfl⟩, (List.forall_mem_cons.mpr ⟨⟨List.mem_of_getElem? (i := 5) rfl, good_of_word rfl⟩, (fun _ h => nomatch h)⟩)⟩)⟩)⟩) gb_c_certificate_c_isBoat0
set_option maxHeartbeats 4000000 in
set_option maxRecDepth 100000 in
theorem c_certificate (l : Launch) (dC : Nat → ClassId) (dI : Nat → Nat → Nat) (x : Nat) (bk : Nat) (tp : Nat) (sh : Nat) (sc : Nat) (he : Nat) (of : Nat) (lc : Nat) (lr : Nat) (la : Nat) (le : Nat) (lw : Nat) (lp : Nat) (ltr : Nat) (stk : Nat) (a0 : Int32) (a1 : Int32) (a2 : Int32) (a3 : Int32) (a4 : Int32)  : Met l yX12_certificate v_c_certificate ({ frames := 2, cells := 0, slots := 0, locals := 80 }) (va_Pc [.ref x, .int a0, .int a1, .int a2, .int a3, .int a4] (fun U => va_P (dC, dI) vwCl [(x, .inr (13, [.ref bk, .ref tp, .ref sh, .ref sc, .ref he, .ref of])), (bk, .inr (1, [.int 0, .int 0, .int 0, .ref lc, .ref lr, .ref la, .ref le, .ref lw, .ref lp, .ref ltr, .ref stk]))] U.heap ∧ va_K (dC, dI) vwCl [] U ∧ ub_NX U)) (va_Qi (S := Unit) (fun r _ => r = -1) (fun _ _ => True) (fun _ => False)) 0 0 (fun _ => False) := by
  refine Met.ofW (cc := cX12_certificate) (maxL := 6) (ret := (some .int)) (by decide) rfl ?_
  intro p e s m args below meth c s₁ B hml hv
  obtain ⟨rfl, hP, hK, hN⟩ := hv
  have hx := B.exec
  have hb := B.bytes
  have hr := B.returns
  have hts := atoms_spec (ws := v_c_certificate) B.pre
  have hown : s.vm.findClass RX12 = some m.cls := findClass_of_methodNamed B.named
  have hlocks := B.notSynchronized
  have hS : va_S (fun _ : Nat => False) s.heap s.heap [] := va_S.rf
  have hl := lv_entry ([.ref x, .int a0, .int a1, .int a2, .int a3, .int a4]) (n := 6) (Nat.le_of_ble_eq_true rfl)
  rw [lg_entry_eq]
  generalize (lg_sl ([.ref x, .int a0, .int a1, .int a2, .int a3, .int a4]) ++ List.replicate (6 - (lg_sl ([.ref x, .int a0, .int a1, .int a2, .int a3, .int a4])).length) Slot.unset).toArray = ls at hl ⊢
  have hl : lv_has ls 6 [(0, .ref x), (1, .int a0), (2, .int a1), (3, .int a2), (4, .int a3), (5, .int a4)] := hl
  refine lv_aload_n hx hb dX12_certificate_0 rfl (lv_at hl 0 rfl) ?_
  refine va_get (D := (dC, dI)) (ci := 13) (v := .ref bk) (C := RX12) (T := TX12) (N := 6) hx hb hts iw_c_certificate_X12 hown hK hP 0 rfl rfl 0 (by decide) (hts (.fieldLink RX12 10 "UnlikeBoats" "book" "LUnlikeBoats$Book;") (List.mem_of_getElem? (i := 1) rfl)) (fun _ h9 => h9) rfl dX12_certificate_1 ?_
  refine lv_iload_n hx hb dX12_certificate_4 rfl (lv_at hl 1 rfl) ?_
  have hPc := hP.sub (ws' := [(bk, .inr (1, [.int 0, .int 0, .int 0, .ref lc, .ref lr, .ref la, .ref le, .ref lw, .ref lp, .ref ltr, .ref stk]))]) [1] rfl
  have hKc := hK.sub (tys' := []) [] rfl
  refine va_calli (va_runV (As := [.int a0]) (rest := []) ⟨hx, hb, hml, hown, hts⟩ (c_isBoat0 l dC dI bk lc lr la le lw lp ltr stk a0) (cwV 1 hts g_c_certificate_c_isBoat0_66 rfl rfl rfl (by decide +kernel) ⟨Nat.le_of_ble_eq_true rfl, Nat.le_of_ble_eq_true rfl⟩) ⟨fun a U g mk q => by obtain ⟨e0, qP, qK, qN⟩ := q; exact ⟨e0, qP, va_K.moved (u := U) (U := U.calling g mk a) (Vm.Alike.refl U.vm) qK, ub_NX_c qN⟩, va_recv hK hP (ci := 1) (q0 := 1) rfl rfl, fun U hU hW => ⟨rfl, by rw [hU]; exact hPc, va_K.moved hW.alike hKc, ub_NX_w hW hN⟩⟩ rfl rfl hl.1 rfl (lv_room (Nat.le_of_ble_eq_true rfl)) dX12_certificate_5 ⟨Nat.le_of_ble_eq_true rfl, Nat.le_of_ble_eq_true rfl⟩) hS (fun _ _ h => h.elim) (fun _ h => h.elim) (fun r1 u2 t H1 locs ht hvm hw hB hz1 hk1 hS => ?_)
  have hP := ub_keep hP hk1
  generalize H1 = H at hP hS ⊢
  obtain rfl : (0 : Int32) = r1 := hw.symm
  refine lv_if_eq (tgt := 18) hx hb dX12_certificate_8 (by decide) (fun c3 => ?_) (fun c3 => by first | exact absurd c3 (by decide) | exact absurd (by decide) c3)
  refine lv_iconst (v := -1) hx hb dX12_certificate_18 (by decide) ?_
  exact W.iret (v := (-1)) hx hb hr (fun t ht hW => ⟨⟨(-1), (), rfl, rfl, trivial⟩, hS.F ht⟩) hS.2.2 dX12_certificate_19
def A_c_measured : List Cond := [.fieldLink RX12 10 "UnlikeBoats" "book" "LUnlikeBoats$Book;", .methodLink RX12 66 yX0_isBoat, .instanceMethod yX0_isBoat, .selects RX0 yX0_isBoat yX0_isBoat, .initialized RX0, .code yX0_isBoat cX0_isBoat 2 (some .boolean), .fieldLink RX0 48 "UnlikeBoats$Book" "boats" "I", .initialized RX12, .static yX12_within, .code yX12_within cX12_within 3 (some .boolean)]
def v_c_measured : List Cond := .code yX12_measured cX12_measured 4 (some .int) :: (A_c_measured ++ wsX120 ++ wsX00)
theorem iw_c_measured_X12 : ∀ w ∈ wsX120, w ∈ v_c_measured := fun _ h => List.mem_cons_of_mem _ (List.mem_append_left _ (List.mem_append_right _ (h)))
theorem iw_c_measured_X0 : ∀ w ∈ wsX00, w ∈ v_c_measured := fun _ h => List.mem_cons_of_mem _ (List.mem_append_right _ (h))
theorem gb_c_measured_c_isBoat00 : GoodIn v_c_measured (.code yX0_isBoat cX0_isBoat 2 (some .boolean) :: A_c_isBoat0) := (List.forall_mem_cons.mpr ⟨⟨List.mem_of_getElem? (i := 6) rfl, good_of_word rfl⟩, (List.forall_mem_cons.mpr ⟨⟨List.mem_of_getElem? (i := 7) rfl, good_of_word rfl⟩, (List.forall_mem_cons.mpr ⟨⟨List.mem_of_getElem? (i := 8) rfl, good_of_word rfl⟩, (List.forall_mem_cons.mpr ⟨⟨List.mem_of_getElem? (i := 9) rfl, good_of_word rfl⟩, (List.forall_mem_cons.mpr ⟨⟨List.mem_of_getElem? (i := 10) rfl, good_of_word rfl⟩, (fun _ h => nomatch h)⟩)⟩)⟩)⟩)⟩)
theorem gb_c_measured_c_isBoat0 : GoodIn v_c_measured v_c_isBoat0 := (goodIn_ca gb_c_measured_c_isBoat00 (goodIn_sub iw_c_measured_X0 gw_X0))
theorem g_c_measured_c_isBoat0_66 : GoodIn v_c_measured (wsV RX12 66 RX0 yX0_isBoat v_c_isBoat0) := goodIn_app (List.forall_mem_cons.mpr ⟨⟨List.mem_of_getElem? (i := 2) rfl, good_of_word rfl⟩, (List.forall_mem_cons.mpr ⟨⟨List.mem_of_getElem? (i := 3) rfl, good_of_word rfl⟩, (List.forall_mem_cons.mpr ⟨⟨List.mem_of_getElem? (i := 4) rfl, good_of_word rfl⟩, (List.forall_mem_cons.mpr ⟨⟨List.mem_of_getElem? (i := 5) rfl, good_of_word rfl⟩, (fun _ h => nomatch h)⟩)⟩)⟩)⟩) gb_c_measured_c_isBoat0
set_option maxHeartbeats 4000000 in
set_option maxRecDepth 100000 in
theorem c_measured (l : Launch) (dC : Nat → ClassId) (dI : Nat → Nat → Nat) (x : Nat) (bk : Nat) (tp : Nat) (sh : Nat) (sc : Nat) (he : Nat) (of : Nat) (lc : Nat) (lr : Nat) (la : Nat) (le : Nat) (lw : Nat) (lp : Nat) (ltr : Nat) (stk : Nat) (a0 : Int32) (a1 : Int32) (a2 : Int32)  : Met l yX12_measured v_c_measured ({ frames := 2, cells := 0, slots := 0, locals := 80 }) (va_Pc [.ref x, .int a0, .int a1, .int a2] (fun U => va_P (dC, dI) vwCl [(x, .inr (13, [.ref bk, .ref tp, .ref sh, .ref sc, .ref he, .ref of])), (bk, .inr (1, [.int 0, .int 0, .int 0, .ref lc, .ref lr, .ref la, .ref le, .ref lw, .ref lp, .ref ltr, .ref stk]))] U.heap ∧ va_K (dC, dI) vwCl [] U ∧ ub_NX U)) (va_Qi (S := Unit) (fun r _ => r = -1) (fun _ _ => True) (fun _ => False)) 0 0 (fun _ => False) := by
  refine Met.ofW (cc := cX12_measured) (maxL := 4) (ret := (some .int)) (by decide) rfl ?_
  intro p e s m args below meth c s₁ B hml hv
  obtain ⟨rfl, hP, hK, hN⟩ := hv
  have hx := B.exec
  have hb := B.bytes
  have hr := B.returns
  have hts := atoms_spec (ws := v_c_measured) B.pre
  have hown : s.vm.findClass RX12 = some m.cls := findClass_of_methodNamed B.named
  have hlocks := B.notSynchronized
  have hS : va_S (fun _ : Nat => False) s.heap s.heap [] := va_S.rf
  have hl := lv_entry ([.ref x, .int a0, .int a1, .int a2]) (n := 4) (Nat.le_of_ble_eq_true rfl)
  rw [lg_entry_eq]
  generalize (lg_sl ([.ref x, .int a0, .int a1, .int a2]) ++ List.replicate (4 - (lg_sl ([.ref x, .int a0, .int a1, .int a2])).length) Slot.unset).toArray = ls at hl ⊢
  have hl : lv_has ls 4 [(0, .ref x), (1, .int a0), (2, .int a1), (3, .int a2)] := hl
  refine lv_aload_n hx hb dX12_measured_0 rfl (lv_at hl 0 rfl) ?_
  refine va_get (D := (dC, dI)) (ci := 13) (v := .ref bk) (C := RX12) (T := TX12) (N := 6) hx hb hts iw_c_measured_X12 hown hK hP 0 rfl rfl 0 (by decide) (hts (.fieldLink RX12 10 "UnlikeBoats" "book" "LUnlikeBoats$Book;") (List.mem_of_getElem? (i := 1) rfl)) (fun _ h9 => h9) rfl dX12_measured_1 ?_
  refine lv_iload_n hx hb dX12_measured_4 rfl (lv_at hl 1 rfl) ?_
  have hPc := hP.sub (ws' := [(bk, .inr (1, [.int 0, .int 0, .int 0, .ref lc, .ref lr, .ref la, .ref le, .ref lw, .ref lp, .ref ltr, .ref stk]))]) [1] rfl
  have hKc := hK.sub (tys' := []) [] rfl
  refine va_calli (va_runV (As := [.int a0]) (rest := []) ⟨hx, hb, hml, hown, hts⟩ (c_isBoat0 l dC dI bk lc lr la le lw lp ltr stk a0) (cwV 1 hts g_c_measured_c_isBoat0_66 rfl rfl rfl (by decide +kernel) ⟨Nat.le_of_ble_eq_true rfl, Nat.le_of_ble_eq_true rfl⟩) ⟨fun a U g mk q => by obtain ⟨e0, qP, qK, qN⟩ := q; exact ⟨e0, qP, va_K.moved (u := U) (U := U.calling g mk a) (Vm.Alike.refl U.vm) qK, ub_NX_c qN⟩, va_recv hK hP (ci := 1) (q0 := 1) rfl rfl, fun U hU hW => ⟨rfl, by rw [hU]; exact hPc, va_K.moved hW.alike hKc, ub_NX_w hW hN⟩⟩ rfl rfl hl.1 rfl (lv_room (Nat.le_of_ble_eq_true rfl)) dX12_measured_5 ⟨Nat.le_of_ble_eq_true rfl, Nat.le_of_ble_eq_true rfl⟩) hS (fun _ _ h => h.elim) (fun _ h => h.elim) (fun r1 u2 t H1 locs ht hvm hw hB hz1 hk1 hS => ?_)
  have hP := ub_keep hP hk1
  generalize H1 = H at hP hS ⊢
  obtain rfl : (0 : Int32) = r1 := hw.symm
  refine lv_if_eq (tgt := 29) hx hb dX12_measured_8 (by decide) (fun c3 => ?_) (fun c3 => by first | exact absurd c3 (by decide) | exact absurd (by decide) c3)
  refine lv_iconst (v := -1) hx hb dX12_measured_29 (by decide) ?_
  exact W.iret (v := (-1)) hx hb hr (fun t ht hW => ⟨⟨(-1), (), rfl, rfl, trivial⟩, hS.F ht⟩) hS.2.2 dX12_measured_30
def A_c_force : List Cond := [.methodLink RX12 70 yX12_isDay, .static yX12_isDay, .initialized RX12, .fieldLink RX12 10 "UnlikeBoats" "book" "LUnlikeBoats$Book;", .methodLink RX12 92 yX0_isKnown, .instanceMethod yX0_isKnown, .selects RX0 yX0_isKnown yX0_isKnown, .initialized RX0, .methodLink RX12 120 yX0_rulesOn, .instanceMethod yX0_rulesOn, .selects RX0 yX0_rulesOn yX0_rulesOn, .code yX12_isDay cX12_isDay 1 (some .boolean), .methodLink RX12 59 yX12_within, .static yX12_within, .code yX12_within cX12_within 3 (some .boolean), .code yX0_isKnown cX0_isKnown 2 (some .boolean), .fieldLink RX0 59 "UnlikeBoats$Book" "now" "I", .code yX0_rulesOn cX0_rulesOn 7 (some .int), .fieldLink RX0 18 "UnlikeBoats$Book" "rules" "Ljava/util/ArrayList;", .methodLink RX0 56 yJx4a65c_size_8abf5, .instanceMethod yJx4a65c_size_8abf5, .selects RJx4a65c yJx4a65c_size_8abf5 yJx4a65c_size_8abf5, .initialized RJx4a65c, .code yJx4a65c_size_8abf5 cJx4a65c_size_8abf5 1 (some .int), .fieldLink RJx4a65c 48 "java/util/ArrayList" "size" "I"]
def v_c_force : List Cond := .code yX12_force cX12_force 3 (some .int) :: (A_c_force ++ wsX120 ++ wsX00 ++ wsJx4a65c0)
theorem iw_c_force_X12 : ∀ w ∈ wsX120, w ∈ v_c_force := fun _ h => List.mem_cons_of_mem _ (List.mem_append_left _ (List.mem_append_left _ (List.mem_append_right _ (h))))
theorem iw_c_force_X0 : ∀ w ∈ wsX00, w ∈ v_c_force := fun _ h => List.mem_cons_of_mem _ (List.mem_append_left _ (List.mem_append_right _ (h)))
theorem iw_c_force_Jx4a65c : ∀ w ∈ wsJx4a65c0, w ∈ v_c_force := fun _ h => List.mem_cons_of_mem _ (List.mem_append_right _ (h))
theorem gb_c_force_c_isDay0 : GoodIn v_c_force (.code yX12_isDay cX12_isDay 1 (some .boolean) :: A_c_isDay) := (List.forall_mem_cons.mpr ⟨⟨List.mem_of_getElem? (i := 12) rfl, good_of_word rfl⟩, (List.forall_mem_cons.mpr ⟨⟨List.mem_of_getElem? (i := 13) rfl, good_of_word rfl⟩, (List.forall_mem_cons.mpr ⟨⟨List.mem_of_getElem? (i := 14) rfl, good_of_word rfl⟩, (List.forall_mem_cons.mpr ⟨⟨List.mem_of_getElem? (i := 3) rfl, good_of_word rfl⟩, (List.forall_mem_cons.mpr ⟨⟨List.mem_of_getElem? (i := 15) rfl, good_of_word rfl⟩, (fun _ h => nomatch h)⟩)⟩)⟩)⟩)⟩)
theorem gb_c_force_c_isDay : GoodIn v_c_force v_c_isDay := gb_c_force_c_isDay0
theorem g_c_force_c_isDay_70 : GoodIn v_c_force (va_wsS RX12 70 yX12_isDay v_c_isDay) := goodIn_app (List.forall_mem_cons.mpr ⟨⟨List.mem_of_getElem? (i := 1) rfl, good_of_word rfl⟩, (List.forall_mem_cons.mpr ⟨⟨List.mem_of_getElem? (i := 2) rfl, good_of_word rfl⟩, (List.forall_mem_cons.mpr ⟨⟨List.mem_of_getElem? (i := 3) rfl, good_of_word rfl⟩, (fun _ h => nomatch h)⟩)⟩)⟩) gb_c_force_c_isDay
theorem gb_c_force_c_isKnown0 : GoodIn v_c_force (.code yX0_isKnown cX0_isKnown 2 (some .boolean) :: A_c_isKnown) := (List.forall_mem_cons.mpr ⟨⟨List.mem_of_getElem? (i := 16) rfl, good_of_word rfl⟩, (List.forall_mem_cons.mpr ⟨⟨List.mem_of_getElem? (i := 17) rfl, good_of_word rfl⟩, (List.forall_mem_cons.mpr ⟨⟨List.mem_of_getElem? (i := 3) rfl, good_of_word rfl⟩, (List.forall_mem_cons.mpr ⟨⟨List.mem_of_getElem? (i := 14) rfl, good_of_word rfl⟩, (List.forall_mem_cons.mpr ⟨⟨List.mem_of_getElem? (i := 15) rfl, good_of_word rfl⟩, (fun _ h => nomatch h)⟩)⟩)⟩)⟩)⟩)
theorem gb_c_force_c_isKnown : GoodIn v_c_force v_c_isKnown := (goodIn_ca gb_c_force_c_isKnown0 (goodIn_sub iw_c_force_X0 gw_X0))
theorem g_c_force_c_isKnown_92 : GoodIn v_c_force (wsV RX12 92 RX0 yX0_isKnown v_c_isKnown) := goodIn_app (List.forall_mem_cons.mpr ⟨⟨List.mem_of_getElem? (i := 5) rfl, good_of_word rfl⟩, (List.forall_mem_cons.mpr ⟨⟨List.mem_of_getElem? (i := 6) rfl, good_of_word rfl⟩, (List.forall_mem_cons.mpr ⟨⟨List.mem_of_getElem? (i := 7) rfl, good_of_word rfl⟩, (List.forall_mem_cons.mpr ⟨⟨List.mem_of_getElem? (i := 8) rfl, good_of_word rfl⟩, (fun _ h => nomatch h)⟩)⟩)⟩)⟩) gb_c_force_c_isKnown
theorem gb_c_force_c_rulesOn00 : GoodIn v_c_force (.code yX0_rulesOn cX0_rulesOn 7 (some .int) :: A_c_rulesOn0) := (List.forall_mem_cons.mpr ⟨⟨List.mem_of_getElem? (i := 18) rfl, good_of_word rfl⟩, (List.forall_mem_cons.mpr ⟨⟨List.mem_of_getElem? (i := 19) rfl, good_of_word rfl⟩, (List.forall_mem_cons.mpr ⟨⟨List.mem_of_getElem? (i := 20) rfl, good_of_word rfl⟩, (List.forall_mem_cons.mpr ⟨⟨List.mem_of_getElem? (i := 21) rfl, good_of_word rfl⟩, (List.forall_mem_cons.mpr ⟨⟨List.mem_of_getElem? (i := 22) rfl, good_of_word rfl⟩, (List.forall_mem_cons.mpr ⟨⟨List.mem_of_getElem? (i := 23) rfl, good_of_word rfl⟩, (List.forall_mem_cons.mpr ⟨⟨List.mem_of_getElem? (i := 24) rfl, good_of_word rfl⟩, (List.forall_mem_cons.mpr ⟨⟨List.mem_of_getElem? (i := 25) rfl, good_of_word rfl⟩, (fun _ h => nomatch h)⟩)⟩)⟩)⟩)⟩)⟩)⟩)⟩)
theorem gb_c_force_c_rulesOn0 : GoodIn v_c_force v_c_rulesOn0 := (goodIn_ca (goodIn_ca gb_c_force_c_rulesOn00 (goodIn_sub iw_c_force_X0 gw_X0)) (goodIn_sub iw_c_force_Jx4a65c gw_Jx4a65c))
theorem g_c_force_c_rulesOn0_120 : GoodIn v_c_force (wsV RX12 120 RX0 yX0_rulesOn v_c_rulesOn0) := goodIn_app (List.forall_mem_cons.mpr ⟨⟨List.mem_of_getElem? (i := 9) rfl, good_of_word rfl⟩, (List.forall_mem_cons.mpr ⟨⟨List.mem_of_getElem? (i := 10) rfl, good_of_word rfl⟩, (List.forall_mem_cons.mpr ⟨⟨List.mem_of_getElem? (i := 11) rfl, good_of_word rfl⟩, (List.forall_mem_cons.mpr ⟨⟨List.mem_of_getElem? (i := 8) rfl, good_of_word rfl⟩, (fun _ h => nomatch h)⟩)⟩)⟩)⟩) gb_c_force_c_rulesOn0
set_option maxHeartbeats 4000000 in
set_option maxRecDepth 100000 in
theorem c_force (l : Launch) (dC : Nat → ClassId) (dI : Nat → Nat → Nat) (x : Nat) (bk : Nat) (tp : Nat) (sh : Nat) (sc : Nat) (he : Nat) (of : Nat) (lc : Nat) (lr : Nat) (la : Nat) (le : Nat) (lw : Nat) (lp : Nat) (ltr : Nat) (stk : Nat) (ed : Nat) (a0 : Int32) (a1 : Int32)  : Met l yX12_force v_c_force ({ frames := 2, cells := 0, slots := 0, locals := 80 }) (va_Pc [.ref x, .int a0, .int a1] (fun U => va_P (dC, dI) vwCl [(x, .inr (13, [.ref bk, .ref tp, .ref sh, .ref sc, .ref he, .ref of])), (bk, .inr (1, [.int 0, .int 0, .int 0, .ref lc, .ref lr, .ref la, .ref le, .ref lw, .ref lp, .ref ltr, .ref stk])), (lr, .inr (0, [.int 0, .ref ed, .int 0]))] U.heap ∧ va_K (dC, dI) vwCl [] U ∧ ub_NX U)) (va_Qi (S := Unit) (fun r _ => r = -1) (fun _ _ => True) (fun _ => False)) 0 0 (fun _ => False) := by
  refine Met.ofW (cc := cX12_force) (maxL := 3) (ret := (some .int)) (by decide) rfl ?_
  intro p e s m args below meth c s₁ B hml hv
  obtain ⟨rfl, hP, hK, hN⟩ := hv
  have hx := B.exec
  have hb := B.bytes
  have hr := B.returns
  have hts := atoms_spec (ws := v_c_force) B.pre
  have hown : s.vm.findClass RX12 = some m.cls := findClass_of_methodNamed B.named
  have hlocks := B.notSynchronized
  have hS : va_S (fun _ : Nat => False) s.heap s.heap [] := va_S.rf
  have hl := lv_entry ([.ref x, .int a0, .int a1]) (n := 3) (Nat.le_of_ble_eq_true rfl)
  rw [lg_entry_eq]
  generalize (lg_sl ([.ref x, .int a0, .int a1]) ++ List.replicate (3 - (lg_sl ([.ref x, .int a0, .int a1])).length) Slot.unset).toArray = ls at hl ⊢
  have hl : lv_has ls 3 [(0, .ref x), (1, .int a0), (2, .int a1)] := hl
  refine lv_iload_n hx hb dX12_force_0 rfl (lv_at hl 1 rfl) ?_
  refine va_calli (va_runS (As := [.int a0]) (rest := []) ⟨hx, hb, hml, hown, hts⟩ (c_isDay l a0) (va_cwS 1 hts g_c_force_c_isDay_70 rfl rfl rfl (by decide +kernel) ⟨Nat.le_of_ble_eq_true rfl, Nat.le_of_ble_eq_true rfl⟩) ⟨fun _ _ _ _ q => q, fun _ _ _ => ⟨rfl, trivial⟩⟩ rfl rfl hl.1 rfl (lv_room (Nat.le_of_ble_eq_true rfl)) dX12_force_1 ⟨Nat.le_of_ble_eq_true rfl, Nat.le_of_ble_eq_true rfl⟩) hS (fun _ _ h => h.elim) (fun _ h => h.elim) (fun r1 u2 t H1 locs ht hvm hw hB hz1 hk1 hS => ?_)
  have hP := ub_keep hP hk1
  generalize H1 = H at hP hS ⊢
  rcases hw with ⟨rfl, hw1, hw2⟩ | ⟨rfl, hw1⟩
  · --in
    have d3a := hw1
    have d3b := hw2
    refine lv_if_eq (tgt := 18) hx hb dX12_force_4 (by decide) (fun c4 => by first | exact absurd c4 (by decide) | exact absurd (by decide) c4) (fun c4 => ?_)
    refine lv_aload_n hx hb dX12_force_7 rfl (lv_at hl 0 rfl) ?_
    refine va_get (D := (dC, dI)) (ci := 13) (v := .ref bk) (C := RX12) (T := TX12) (N := 6) hx hb hts iw_c_force_X12 hown hK hP 0 rfl rfl 0 (by decide) (hts (.fieldLink RX12 10 "UnlikeBoats" "book" "LUnlikeBoats$Book;") (List.mem_of_getElem? (i := 4) rfl)) (fun _ h9 => h9) rfl dX12_force_8 ?_
    refine lv_iload_n hx hb dX12_force_11 rfl (lv_at hl 2 rfl) ?_
    have hPc := hP.sub (ws' := [(bk, .inr (1, [.int 0, .int 0, .int 0, .ref lc, .ref lr, .ref la, .ref le, .ref lw, .ref lp, .ref ltr, .ref stk]))]) [1] rfl
    have hKc := hK.sub (tys' := []) [] rfl
    refine va_calli (va_runV (As := [.int a1]) (rest := []) ⟨hx, hb, hml, hown, hts⟩ (c_isKnown l dC dI bk lc lr la le lw lp ltr stk a1) (cwV 1 hts g_c_force_c_isKnown_92 rfl rfl rfl (by decide +kernel) ⟨Nat.le_of_ble_eq_true rfl, Nat.le_of_ble_eq_true rfl⟩) ⟨fun a U g mk q => by obtain ⟨e0, qP, qK, qN⟩ := q; exact ⟨e0, qP, va_K.moved (u := U) (U := U.calling g mk a) (Vm.Alike.refl U.vm) qK, ub_NX_c qN⟩, va_recv hK hP (ci := 1) (q0 := 1) rfl rfl, fun U hU hW => ⟨rfl, by rw [hU]; exact hPc, va_K.moved hW.alike hKc, ub_NX_w hW hN⟩⟩ rfl rfl hl.1 rfl (lv_room (Nat.le_of_ble_eq_true rfl)) dX12_force_12 ⟨Nat.le_of_ble_eq_true rfl, Nat.le_of_ble_eq_true rfl⟩) hS (fun _ _ h => h.elim) (fun _ h => h.elim) (fun r5 u6 t H1 locs ht hvm hw hB hz1 hk1 hS => ?_)
    have hP := ub_keep hP hk1
    generalize H1 = H at hP hS ⊢
    rcases hw with ⟨rfl, hw1, hw2⟩ | ⟨rfl, hw1⟩
    · --in
      have d7a := hw1
      have d7b := hw2
      refine lv_if_ne (tgt := 20) hx hb dX12_force_15 (by decide) (fun c8 => ?_) (fun c8 => by first | exact absurd c8 (by decide) | exact absurd (by decide) c8)
      refine lv_aload_n hx hb dX12_force_20 rfl (lv_at hl 0 rfl) ?_
      refine va_get (D := (dC, dI)) (ci := 13) (v := .ref bk) (C := RX12) (T := TX12) (N := 6) hx hb hts iw_c_force_X12 hown hK hP 0 rfl rfl 0 (by decide) (hts (.fieldLink RX12 10 "UnlikeBoats" "book" "LUnlikeBoats$Book;") (List.mem_of_getElem? (i := 4) rfl)) (fun _ h9 => h9) rfl dX12_force_21 ?_
      refine lv_iload_n hx hb dX12_force_24 rfl (lv_at hl 1 rfl) ?_
      refine lv_iload_n hx hb dX12_force_25 rfl (lv_at hl 2 rfl) ?_
      have hPc := hP.sub (ws' := [(bk, .inr (1, [.int 0, .int 0, .int 0, .ref lc, .ref lr, .ref la, .ref le, .ref lw, .ref lp, .ref ltr, .ref stk])), (lr, .inr (0, [.int 0, .ref ed, .int 0]))]) [1, 2] rfl
      have hKc := hK.sub (tys' := []) [] rfl
      refine va_calli (va_runV (As := [.int a0, .int a1]) (rest := []) ⟨hx, hb, hml, hown, hts⟩ (c_rulesOn0 l dC dI bk lc lr la le lw lp ltr stk ed a0 a1) (cwV 2 hts g_c_force_c_rulesOn0_120 rfl rfl rfl (by decide +kernel) ⟨Nat.le_of_ble_eq_true rfl, Nat.le_of_ble_eq_true rfl⟩) ⟨fun a U g mk q => by obtain ⟨e0, qP, qK, qN⟩ := q; exact ⟨e0, qP, va_K.moved (u := U) (U := U.calling g mk a) (Vm.Alike.refl U.vm) qK, ub_NX_c qN⟩, va_recv hK hP (ci := 1) (q0 := 1) rfl rfl, fun U hU hW => ⟨rfl, by rw [hU]; exact hPc, va_K.moved hW.alike hKc, ub_NX_w hW hN⟩⟩ rfl rfl hl.1 rfl (lv_room (Nat.le_of_ble_eq_true rfl)) dX12_force_26 ⟨Nat.le_of_ble_eq_true rfl, Nat.le_of_ble_eq_true rfl⟩) hS (fun _ _ h => h.elim) (fun _ h => h.elim) (fun r9 u10 t H1 locs ht hvm hw hB hz1 hk1 hS => ?_)
      have hP := ub_keep hP hk1
      generalize H1 = H at hP hS ⊢
      obtain rfl : (-1 : Int32) = r9 := hw.symm
      exact W.iret (v := (-1)) hx hb hr (fun t ht hW => ⟨⟨(-1), (), rfl, rfl, trivial⟩, hS.F ht⟩) hS.2.2 dX12_force_29
    · --out
      have d11 := hw1
      refine lv_if_ne (tgt := 20) hx hb dX12_force_15 (by decide) (fun c12 => by first | exact absurd c12 (by decide) | exact absurd (by decide) c12) (fun c12 => ?_)
      refine lv_iconst (v := -1) hx hb dX12_force_18 (by decide) ?_
      exact W.iret (v := (-1)) hx hb hr (fun t ht hW => ⟨⟨(-1), (), rfl, rfl, trivial⟩, hS.F ht⟩) hS.2.2 dX12_force_19
  · --out
    have d13 := hw1
    refine lv_if_eq (tgt := 18) hx hb dX12_force_4 (by decide) (fun c14 => ?_) (fun c14 => by first | exact absurd c14 (by decide) | exact absurd (by decide) c14)
    refine lv_iconst (v := -1) hx hb dX12_force_18 (by decide) ?_
    exact W.iret (v := (-1)) hx hb hr (fun t ht hW => ⟨⟨(-1), (), rfl, rfl, trivial⟩, hS.F ht⟩) hS.2.2 dX12_force_19
def A_c_number : List Cond := [.fieldLink RX12 10 "UnlikeBoats" "book" "LUnlikeBoats$Book;", .methodLink RX12 66 yX0_isBoat, .instanceMethod yX0_isBoat, .selects RX0 yX0_isBoat yX0_isBoat, .initialized RX0, .code yX0_isBoat cX0_isBoat 2 (some .boolean), .fieldLink RX0 48 "UnlikeBoats$Book" "boats" "I", .initialized RX12, .static yX12_within, .code yX12_within cX12_within 3 (some .boolean)]
def v_c_number : List Cond := .code yX12_number cX12_number 4 (some .int) :: (A_c_number ++ wsX120 ++ wsX00)
theorem iw_c_number_X12 : ∀ w ∈ wsX120, w ∈ v_c_number := fun _ h => List.mem_cons_of_mem _ (List.mem_append_left _ (List.mem_append_right _ (h)))
theorem iw_c_number_X0 : ∀ w ∈ wsX00, w ∈ v_c_number := fun _ h => List.mem_cons_of_mem _ (List.mem_append_right _ (h))
theorem gb_c_number_c_isBoat00 : GoodIn v_c_number (.code yX0_isBoat cX0_isBoat 2 (some .boolean) :: A_c_isBoat0) := (List.forall_mem_cons.mpr ⟨⟨List.mem_of_getElem? (i := 6) rfl, good_of_word rfl⟩, (List.forall_mem_cons.mpr ⟨⟨List.mem_of_getElem? (i := 7) rfl, good_of_word rfl⟩, (List.forall_mem_cons.mpr ⟨⟨List.mem_of_getElem? (i := 8) rfl, good_of_word rfl⟩, (List.forall_mem_cons.mpr ⟨⟨List.mem_of_getElem? (i := 9) rfl, good_of_word rfl⟩, (List.forall_mem_cons.mpr ⟨⟨List.mem_of_getElem? (i := 10) rfl, good_of_word rfl⟩, (fun _ h => nomatch h)⟩)⟩)⟩)⟩)⟩)
theorem gb_c_number_c_isBoat0 : GoodIn v_c_number v_c_isBoat0 := (goodIn_ca gb_c_number_c_isBoat00 (goodIn_sub iw_c_number_X0 gw_X0))
theorem g_c_number_c_isBoat0_66 : GoodIn v_c_number (wsV RX12 66 RX0 yX0_isBoat v_c_isBoat0) := goodIn_app (List.forall_mem_cons.mpr ⟨⟨List.mem_of_getElem? (i := 2) rfl, good_of_word rfl⟩, (List.forall_mem_cons.mpr ⟨⟨List.mem_of_getElem? (i := 3) rfl, good_of_word rfl⟩, (List.forall_mem_cons.mpr ⟨⟨List.mem_of_getElem? (i := 4) rfl, good_of_word rfl⟩, (List.forall_mem_cons.mpr ⟨⟨List.mem_of_getElem? (i := 5) rfl, good_of_word rfl⟩, (fun _ h => nomatch h)⟩)⟩)⟩)⟩) gb_c_number_c_isBoat0
set_option maxHeartbeats 4000000 in
set_option maxRecDepth 100000 in
theorem c_number (l : Launch) (dC : Nat → ClassId) (dI : Nat → Nat → Nat) (x : Nat) (bk : Nat) (tp : Nat) (sh : Nat) (sc : Nat) (he : Nat) (of : Nat) (lc : Nat) (lr : Nat) (la : Nat) (le : Nat) (lw : Nat) (lp : Nat) (ltr : Nat) (stk : Nat) (a0 : Int32) (a1 : Int32) (a2 : Int32)  : Met l yX12_number v_c_number ({ frames := 2, cells := 0, slots := 0, locals := 80 }) (va_Pc [.ref x, .int a0, .int a1, .int a2] (fun U => va_P (dC, dI) vwCl [(x, .inr (13, [.ref bk, .ref tp, .ref sh, .ref sc, .ref he, .ref of])), (bk, .inr (1, [.int 0, .int 0, .int 0, .ref lc, .ref lr, .ref la, .ref le, .ref lw, .ref lp, .ref ltr, .ref stk]))] U.heap ∧ va_K (dC, dI) vwCl [] U ∧ ub_NX U)) (va_Qi (S := Unit) (fun r _ => r = -1) (fun _ _ => True) (fun _ => False)) 0 0 (fun _ => False) := by
  refine Met.ofW (cc := cX12_number) (maxL := 4) (ret := (some .int)) (by decide) rfl ?_
  intro p e s m args below meth c s₁ B hml hv
  obtain ⟨rfl, hP, hK, hN⟩ := hv
  have hx := B.exec
  have hb := B.bytes
  have hr := B.returns
  have hts := atoms_spec (ws := v_c_number) B.pre
  have hown : s.vm.findClass RX12 = some m.cls := findClass_of_methodNamed B.named
  have hlocks := B.notSynchronized
  have hS : va_S (fun _ : Nat => False) s.heap s.heap [] := va_S.rf
  have hl := lv_entry ([.ref x, .int a0, .int a1, .int a2]) (n := 4) (Nat.le_of_ble_eq_true rfl)
  rw [lg_entry_eq]
  generalize (lg_sl ([.ref x, .int a0, .int a1, .int a2]) ++ List.replicate (4 - (lg_sl ([.ref x, .int a0, .int a1, .int a2])).length) Slot.unset).toArray = ls at hl ⊢
  have hl : lv_has ls 4 [(0, .ref x), (1, .int a0), (2, .int a1), (3, .int a2)] := hl
  refine lv_aload_n hx hb dX12_number_0 rfl (lv_at hl 0 rfl) ?_
  refine va_get (D := (dC, dI)) (ci := 13) (v := .ref bk) (C := RX12) (T := TX12) (N := 6) hx hb hts iw_c_number_X12 hown hK hP 0 rfl rfl 0 (by decide) (hts (.fieldLink RX12 10 "UnlikeBoats" "book" "LUnlikeBoats$Book;") (List.mem_of_getElem? (i := 1) rfl)) (fun _ h9 => h9) rfl dX12_number_1 ?_
  refine lv_iload_n hx hb dX12_number_4 rfl (lv_at hl 1 rfl) ?_
  have hPc := hP.sub (ws' := [(bk, .inr (1, [.int 0, .int 0, .int 0, .ref lc, .ref lr, .ref la, .ref le, .ref lw, .ref lp, .ref ltr, .ref stk]))]) [1] rfl
  have hKc := hK.sub (tys' := []) [] rfl
  refine va_calli (va_runV (As := [.int a0]) (rest := []) ⟨hx, hb, hml, hown, hts⟩ (c_isBoat0 l dC dI bk lc lr la le lw lp ltr stk a0) (cwV 1 hts g_c_number_c_isBoat0_66 rfl rfl rfl (by decide +kernel) ⟨Nat.le_of_ble_eq_true rfl, Nat.le_of_ble_eq_true rfl⟩) ⟨fun a U g mk q => by obtain ⟨e0, qP, qK, qN⟩ := q; exact ⟨e0, qP, va_K.moved (u := U) (U := U.calling g mk a) (Vm.Alike.refl U.vm) qK, ub_NX_c qN⟩, va_recv hK hP (ci := 1) (q0 := 1) rfl rfl, fun U hU hW => ⟨rfl, by rw [hU]; exact hPc, va_K.moved hW.alike hKc, ub_NX_w hW hN⟩⟩ rfl rfl hl.1 rfl (lv_room (Nat.le_of_ble_eq_true rfl)) dX12_number_5 ⟨Nat.le_of_ble_eq_true rfl, Nat.le_of_ble_eq_true rfl⟩) hS (fun _ _ h => h.elim) (fun _ h => h.elim) (fun r1 u2 t H1 locs ht hvm hw hB hz1 hk1 hS => ?_)
  have hP := ub_keep hP hk1
  generalize H1 = H at hP hS ⊢
  obtain rfl : (0 : Int32) = r1 := hw.symm
  refine lv_if_eq (tgt := 29) hx hb dX12_number_8 (by decide) (fun c3 => ?_) (fun c3 => by first | exact absurd c3 (by decide) | exact absurd (by decide) c3)
  refine lv_iconst (v := -1) hx hb dX12_number_29 (by decide) ?_
  exact W.iret (v := (-1)) hx hb hr (fun t ht hW => ⟨⟨(-1), (), rfl, rfl, trivial⟩, hS.F ht⟩) hS.2.2 dX12_number_30
def A_c_swift : List Cond := [.fieldLink RX12 10 "UnlikeBoats" "book" "LUnlikeBoats$Book;", .methodLink RX12 135 yX0_isRace, .instanceMethod yX0_isRace, .selects RX0 yX0_isRace yX0_isRace, .initialized RX0, .code yX0_isRace cX0_isRace 2 (some .boolean), .fieldLink RX0 21 "UnlikeBoats$Book" "races" "Ljava/util/ArrayList;", .methodLink RX0 56 yJx4a65c_size_8abf5, .instanceMethod yJx4a65c_size_8abf5, .selects RJx4a65c yJx4a65c_size_8abf5 yJx4a65c_size_8abf5, .initialized RJx4a65c, .initialized RX12, .static yX12_within, .code yJx4a65c_size_8abf5 cJx4a65c_size_8abf5 1 (some .int), .fieldLink RJx4a65c 48 "java/util/ArrayList" "size" "I", .code yX12_within cX12_within 3 (some .boolean)]
def v_c_swift : List Cond := .code yX12_swift cX12_swift 3 (some .boolean) :: (A_c_swift ++ wsX120 ++ wsX00 ++ wsJx4a65c0)
theorem iw_c_swift_X12 : ∀ w ∈ wsX120, w ∈ v_c_swift := fun _ h => List.mem_cons_of_mem _ (List.mem_append_left _ (List.mem_append_left _ (List.mem_append_right _ (h))))
theorem iw_c_swift_X0 : ∀ w ∈ wsX00, w ∈ v_c_swift := fun _ h => List.mem_cons_of_mem _ (List.mem_append_left _ (List.mem_append_right _ (h)))
theorem iw_c_swift_Jx4a65c : ∀ w ∈ wsJx4a65c0, w ∈ v_c_swift := fun _ h => List.mem_cons_of_mem _ (List.mem_append_right _ (h))
theorem gb_c_swift_c_isRace00 : GoodIn v_c_swift (.code yX0_isRace cX0_isRace 2 (some .boolean) :: A_c_isRace0) := (List.forall_mem_cons.mpr ⟨⟨List.mem_of_getElem? (i := 6) rfl, good_of_word rfl⟩, (List.forall_mem_cons.mpr ⟨⟨List.mem_of_getElem? (i := 7) rfl, good_of_word rfl⟩, (List.forall_mem_cons.mpr ⟨⟨List.mem_of_getElem? (i := 8) rfl, good_of_word rfl⟩, (List.forall_mem_cons.mpr ⟨⟨List.mem_of_getElem? (i := 9) rfl, good_of_word rfl⟩, (List.forall_mem_cons.mpr ⟨⟨List.mem_of_getElem? (i := 10) rfl, good_of_word rfl⟩, (List.forall_mem_cons.mpr ⟨⟨List.mem_of_getElem? (i := 11) rfl, good_of_word rfl⟩, (List.forall_mem_cons.mpr ⟨⟨List.mem_of_getElem? (i := 12) rfl, good_of_word rfl⟩, (List.forall_mem_cons.mpr ⟨⟨List.mem_of_getElem? (i := 13) rfl, good_of_word rfl⟩, (List.forall_mem_cons.mpr ⟨⟨List.mem_of_getElem? (i := 14) rfl, good_of_word rfl⟩, (List.forall_mem_cons.mpr ⟨⟨List.mem_of_getElem? (i := 15) rfl, good_of_word rfl⟩, (List.forall_mem_cons.mpr ⟨⟨List.mem_of_getElem? (i := 16) rfl, good_of_word rfl⟩, (fun _ h => nomatch h)⟩)⟩)⟩)⟩)⟩)⟩)⟩)⟩)⟩)⟩)⟩)
theorem gb_c_swift_c_isRace0 : GoodIn v_c_swift v_c_isRace0 := (goodIn_ca (goodIn_ca gb_c_swift_c_isRace00 (goodIn_sub iw_c_swift_X0 gw_X0)) (goodIn_sub iw_c_swift_Jx4a65c gw_Jx4a65c))
theorem g_c_swift_c_isRace0_135 : GoodIn v_c_swift (wsV RX12 135 RX0 yX0_isRace v_c_isRace0) := goodIn_app (List.forall_mem_cons.mpr ⟨⟨List.mem_of_getElem? (i := 2) rfl, good_of_word rfl⟩, (List.forall_mem_cons.mpr ⟨⟨List.mem_of_getElem? (i := 3) rfl, good_of_word rfl⟩, (List.forall_mem_cons.mpr ⟨⟨List.mem_of_getElem? (i := 4) rfl, good_of_word rfl⟩, (List.forall_mem_cons.mpr ⟨⟨List.mem_of_getElem? (i := 5) rfl, good_of_word rfl⟩, (fun _ h => nomatch h)⟩)⟩)⟩)⟩) gb_c_swift_c_isRace0
set_option maxHeartbeats 4000000 in
set_option maxRecDepth 100000 in
theorem c_swift (l : Launch) (dC : Nat → ClassId) (dI : Nat → Nat → Nat) (x : Nat) (bk : Nat) (tp : Nat) (sh : Nat) (sc : Nat) (he : Nat) (of : Nat) (lc : Nat) (lr : Nat) (la : Nat) (le : Nat) (lw : Nat) (lp : Nat) (ltr : Nat) (stk : Nat) (ed : Nat) (a0 : Int32) (a1 : Int32)  : Met l yX12_swift v_c_swift ({ frames := 2, cells := 0, slots := 0, locals := 80 }) (va_Pc [.ref x, .int a0, .int a1] (fun U => va_P (dC, dI) vwCl [(x, .inr (13, [.ref bk, .ref tp, .ref sh, .ref sc, .ref he, .ref of])), (bk, .inr (1, [.int 0, .int 0, .int 0, .ref lc, .ref lr, .ref la, .ref le, .ref lw, .ref lp, .ref ltr, .ref stk])), (la, .inr (0, [.int 0, .ref ed, .int 0]))] U.heap ∧ va_K (dC, dI) vwCl [] U ∧ ub_NX U)) (va_Qi (S := Unit) (fun r _ => r = 0) (fun _ _ => True) (fun _ => False)) 0 0 (fun _ => False) := by
  refine Met.ofW (cc := cX12_swift) (maxL := 3) (ret := (some .boolean)) (by decide) rfl ?_
  intro p e s m args below meth c s₁ B hml hv
  obtain ⟨rfl, hP, hK, hN⟩ := hv
  have hx := B.exec
  have hb := B.bytes
  have hr := B.returns
  have hts := atoms_spec (ws := v_c_swift) B.pre
  have hown : s.vm.findClass RX12 = some m.cls := findClass_of_methodNamed B.named
  have hlocks := B.notSynchronized
  have hS : va_S (fun _ : Nat => False) s.heap s.heap [] := va_S.rf
  have hl := lv_entry ([.ref x, .int a0, .int a1]) (n := 3) (Nat.le_of_ble_eq_true rfl)
  rw [lg_entry_eq]
  generalize (lg_sl ([.ref x, .int a0, .int a1]) ++ List.replicate (3 - (lg_sl ([.ref x, .int a0, .int a1])).length) Slot.unset).toArray = ls at hl ⊢
  have hl : lv_has ls 3 [(0, .ref x), (1, .int a0), (2, .int a1)] := hl
  refine lv_aload_n hx hb dX12_swift_0 rfl (lv_at hl 0 rfl) ?_
  refine va_get (D := (dC, dI)) (ci := 13) (v := .ref bk) (C := RX12) (T := TX12) (N := 6) hx hb hts iw_c_swift_X12 hown hK hP 0 rfl rfl 0 (by decide) (hts (.fieldLink RX12 10 "UnlikeBoats" "book" "LUnlikeBoats$Book;") (List.mem_of_getElem? (i := 1) rfl)) (fun _ h9 => h9) rfl dX12_swift_1 ?_
  refine lv_iload_n hx hb dX12_swift_4 rfl (lv_at hl 1 rfl) ?_
  have hPc := hP.sub (ws' := [(bk, .inr (1, [.int 0, .int 0, .int 0, .ref lc, .ref lr, .ref la, .ref le, .ref lw, .ref lp, .ref ltr, .ref stk])), (la, .inr (0, [.int 0, .ref ed, .int 0]))]) [1, 2] rfl
  have hKc := hK.sub (tys' := []) [] rfl
  refine va_calli (va_runV (As := [.int a0]) (rest := []) ⟨hx, hb, hml, hown, hts⟩ (c_isRace0 l dC dI bk lc lr la le lw lp ltr stk ed a0) (cwV 1 hts g_c_swift_c_isRace0_135 rfl rfl rfl (by decide +kernel) ⟨Nat.le_of_ble_eq_true rfl, Nat.le_of_ble_eq_true rfl⟩) ⟨fun a U g mk q => by obtain ⟨e0, qP, qK, qN⟩ := q; exact ⟨e0, qP, va_K.moved (u := U) (U := U.calling g mk a) (Vm.Alike.refl U.vm) qK, ub_NX_c qN⟩, va_recv hK hP (ci := 1) (q0 := 1) rfl rfl, fun U hU hW => ⟨rfl, by rw [hU]; exact hPc, va_K.moved hW.alike hKc, ub_NX_w hW hN⟩⟩ rfl rfl hl.1 rfl (lv_room (Nat.le_of_ble_eq_true rfl)) dX12_swift_5 ⟨Nat.le_of_ble_eq_true rfl, Nat.le_of_ble_eq_true rfl⟩) hS (fun _ _ h => h.elim) (fun _ h => h.elim) (fun r1 u2 t H1 locs ht hvm hw hB hz1 hk1 hS => ?_)
  have hP := ub_keep hP hk1
  generalize H1 = H at hP hS ⊢
  obtain rfl : (0 : Int32) = r1 := hw.symm
  refine lv_if_eq (tgt := 21) hx hb dX12_swift_8 (by decide) (fun c3 => ?_) (fun c3 => by first | exact absurd c3 (by decide) | exact absurd (by decide) c3)
  refine lv_iconst (v := 0) hx hb dX12_swift_21 (by decide) ?_
  exact W.zret (v := (0)) hx hb hr rfl (fun t ht hW => ⟨⟨(0), (), rfl, rfl, trivial⟩, hS.F ht⟩) hS.2.2 dX12_swift_22
def A_c_enter : List Cond := [.fieldLink RX12 10 "UnlikeBoats" "book" "LUnlikeBoats$Book;", .methodLink RX12 135 yX0_isRace, .instanceMethod yX0_isRace, .selects RX0 yX0_isRace yX0_isRace, .initialized RX0, .code yX0_isRace cX0_isRace 2 (some .boolean), .fieldLink RX0 21 "UnlikeBoats$Book" "races" "Ljava/util/ArrayList;", .methodLink RX0 56 yJx4a65c_size_8abf5, .instanceMethod yJx4a65c_size_8abf5, .selects RJx4a65c yJx4a65c_size_8abf5 yJx4a65c_size_8abf5, .initialized RJx4a65c, .initialized RX12, .static yX12_within, .code yJx4a65c_size_8abf5 cJx4a65c_size_8abf5 1 (some .int), .fieldLink RJx4a65c 48 "java/util/ArrayList" "size" "I", .code yX12_within cX12_within 3 (some .boolean)]
def v_c_enter : List Cond := .code yX12_enter cX12_enter 3 (some .boolean) :: (A_c_enter ++ wsX120 ++ wsX00 ++ wsJx4a65c0)
theorem iw_c_enter_X12 : ∀ w ∈ wsX120, w ∈ v_c_enter := fun _ h => List.mem_cons_of_mem _ (List.mem_append_left _ (List.mem_append_left _ (List.mem_append_right _ (h))))
theorem iw_c_enter_X0 : ∀ w ∈ wsX00, w ∈ v_c_enter := fun _ h => List.mem_cons_of_mem _ (List.mem_append_left _ (List.mem_append_right _ (h)))
theorem iw_c_enter_Jx4a65c : ∀ w ∈ wsJx4a65c0, w ∈ v_c_enter := fun _ h => List.mem_cons_of_mem _ (List.mem_append_right _ (h))
theorem gb_c_enter_c_isRace00 : GoodIn v_c_enter (.code yX0_isRace cX0_isRace 2 (some .boolean) :: A_c_isRace0) := (List.forall_mem_cons.mpr ⟨⟨List.mem_of_getElem? (i := 6) rfl, good_of_word rfl⟩, (List.forall_mem_cons.mpr ⟨⟨List.mem_of_getElem? (i := 7) rfl, good_of_word rfl⟩, (List.forall_mem_cons.mpr ⟨⟨List.mem_of_getElem? (i := 8) rfl, good_of_word rfl⟩, (List.forall_mem_cons.mpr ⟨⟨List.mem_of_getElem? (i := 9) rfl, good_of_word rfl⟩, (List.forall_mem_cons.mpr ⟨⟨List.mem_of_getElem? (i := 10) rfl, good_of_word rfl⟩, (List.forall_mem_cons.mpr ⟨⟨List.mem_of_getElem? (i := 11) rfl, good_of_word rfl⟩, (List.forall_mem_cons.mpr ⟨⟨List.mem_of_getElem? (i := 12) rfl, good_of_word rfl⟩, (List.forall_mem_cons.mpr ⟨⟨List.mem_of_getElem? (i := 13) rfl, good_of_word rfl⟩, (List.forall_mem_cons.mpr ⟨⟨List.mem_of_getElem? (i := 14) rfl, good_of_word rfl⟩, (List.forall_mem_cons.mpr ⟨⟨List.mem_of_getElem? (i := 15) rfl, good_of_word rfl⟩, (List.forall_mem_cons.mpr ⟨⟨List.mem_of_getElem? (i := 16) rfl, good_of_word rfl⟩, (fun _ h => nomatch h)⟩)⟩)⟩)⟩)⟩)⟩)⟩)⟩)⟩)⟩)⟩)
theorem gb_c_enter_c_isRace0 : GoodIn v_c_enter v_c_isRace0 := (goodIn_ca (goodIn_ca gb_c_enter_c_isRace00 (goodIn_sub iw_c_enter_X0 gw_X0)) (goodIn_sub iw_c_enter_Jx4a65c gw_Jx4a65c))
theorem g_c_enter_c_isRace0_135 : GoodIn v_c_enter (wsV RX12 135 RX0 yX0_isRace v_c_isRace0) := goodIn_app (List.forall_mem_cons.mpr ⟨⟨List.mem_of_getElem? (i := 2) rfl, good_of_word rfl⟩, (List.forall_mem_cons.mpr ⟨⟨List.mem_of_getElem? (i := 3) rfl, good_of_word rfl⟩, (List.forall_mem_cons.mpr ⟨⟨List.mem_of_getElem? (i := 4) rfl, good_of_word rfl⟩, (List.forall_mem_cons.mpr ⟨⟨List.mem_of_getElem? (i := 5) rfl, good_of_word rfl⟩, (fun _ h => nomatch h)⟩)⟩)⟩)⟩) gb_c_enter_c_isRace0
set_option maxHeartbeats 4000000 in
set_option maxRecDepth 100000 in
theorem c_enter (l : Launch) (dC : Nat → ClassId) (dI : Nat → Nat → Nat) (x : Nat) (bk : Nat) (tp : Nat) (sh : Nat) (sc : Nat) (he : Nat) (of : Nat) (lc : Nat) (lr : Nat) (la : Nat) (le : Nat) (lw : Nat) (lp : Nat) (ltr : Nat) (stk : Nat) (ed : Nat) (a0 : Int32) (a1 : Int32)  : Met l yX12_enter v_c_enter ({ frames := 2, cells := 0, slots := 0, locals := 80 }) (va_Pc [.ref x, .int a0, .int a1] (fun U => va_P (dC, dI) vwCl [(x, .inr (13, [.ref bk, .ref tp, .ref sh, .ref sc, .ref he, .ref of])), (bk, .inr (1, [.int 0, .int 0, .int 0, .ref lc, .ref lr, .ref la, .ref le, .ref lw, .ref lp, .ref ltr, .ref stk])), (la, .inr (0, [.int 0, .ref ed, .int 0]))] U.heap ∧ va_K (dC, dI) vwCl [] U ∧ ub_NX U)) (va_Qi (S := Unit) (fun r _ => r = 0) (fun _ _ => True) (fun _ => False)) 0 0 (fun _ => False) := by
  refine Met.ofW (cc := cX12_enter) (maxL := 3) (ret := (some .boolean)) (by decide) rfl ?_
  intro p e s m args below meth c s₁ B hml hv
  obtain ⟨rfl, hP, hK, hN⟩ := hv
  have hx := B.exec
  have hb := B.bytes
  have hr := B.returns
  have hts := atoms_spec (ws := v_c_enter) B.pre
  have hown : s.vm.findClass RX12 = some m.cls := findClass_of_methodNamed B.named
  have hlocks := B.notSynchronized
  have hS : va_S (fun _ : Nat => False) s.heap s.heap [] := va_S.rf
  have hl := lv_entry ([.ref x, .int a0, .int a1]) (n := 3) (Nat.le_of_ble_eq_true rfl)
  rw [lg_entry_eq]
  generalize (lg_sl ([.ref x, .int a0, .int a1]) ++ List.replicate (3 - (lg_sl ([.ref x, .int a0, .int a1])).length) Slot.unset).toArray = ls at hl ⊢
  have hl : lv_has ls 3 [(0, .ref x), (1, .int a0), (2, .int a1)] := hl
  refine lv_aload_n hx hb dX12_enter_0 rfl (lv_at hl 0 rfl) ?_
  refine va_get (D := (dC, dI)) (ci := 13) (v := .ref bk) (C := RX12) (T := TX12) (N := 6) hx hb hts iw_c_enter_X12 hown hK hP 0 rfl rfl 0 (by decide) (hts (.fieldLink RX12 10 "UnlikeBoats" "book" "LUnlikeBoats$Book;") (List.mem_of_getElem? (i := 1) rfl)) (fun _ h9 => h9) rfl dX12_enter_1 ?_
  refine lv_iload_n hx hb dX12_enter_4 rfl (lv_at hl 1 rfl) ?_
  have hPc := hP.sub (ws' := [(bk, .inr (1, [.int 0, .int 0, .int 0, .ref lc, .ref lr, .ref la, .ref le, .ref lw, .ref lp, .ref ltr, .ref stk])), (la, .inr (0, [.int 0, .ref ed, .int 0]))]) [1, 2] rfl
  have hKc := hK.sub (tys' := []) [] rfl
  refine va_calli (va_runV (As := [.int a0]) (rest := []) ⟨hx, hb, hml, hown, hts⟩ (c_isRace0 l dC dI bk lc lr la le lw lp ltr stk ed a0) (cwV 1 hts g_c_enter_c_isRace0_135 rfl rfl rfl (by decide +kernel) ⟨Nat.le_of_ble_eq_true rfl, Nat.le_of_ble_eq_true rfl⟩) ⟨fun a U g mk q => by obtain ⟨e0, qP, qK, qN⟩ := q; exact ⟨e0, qP, va_K.moved (u := U) (U := U.calling g mk a) (Vm.Alike.refl U.vm) qK, ub_NX_c qN⟩, va_recv hK hP (ci := 1) (q0 := 1) rfl rfl, fun U hU hW => ⟨rfl, by rw [hU]; exact hPc, va_K.moved hW.alike hKc, ub_NX_w hW hN⟩⟩ rfl rfl hl.1 rfl (lv_room (Nat.le_of_ble_eq_true rfl)) dX12_enter_5 ⟨Nat.le_of_ble_eq_true rfl, Nat.le_of_ble_eq_true rfl⟩) hS (fun _ _ h => h.elim) (fun _ h => h.elim) (fun r1 u2 t H1 locs ht hvm hw hB hz1 hk1 hS => ?_)
  have hP := ub_keep hP hk1
  generalize H1 = H at hP hS ⊢
  obtain rfl : (0 : Int32) = r1 := hw.symm
  refine lv_if_eq (tgt := 34) hx hb dX12_enter_8 (by decide) (fun c3 => ?_) (fun c3 => by first | exact absurd c3 (by decide) | exact absurd (by decide) c3)
  refine lv_iconst (v := 0) hx hb dX12_enter_34 (by decide) ?_
  exact W.zret (v := (0)) hx hb hr rfl (fun t ht hW => ⟨⟨(0), (), rfl, rfl, trivial⟩, hS.F ht⟩) hS.2.2 dX12_enter_35
def A_c_result : List Cond := [.fieldLink RX12 10 "UnlikeBoats" "book" "LUnlikeBoats$Book;", .methodLink RX12 146 yX0_isEntered, .instanceMethod yX0_isEntered, .selects RX0 yX0_isEntered yX0_isEntered, .initialized RX0, .code yX0_isEntered cX0_isEntered 3 (some .boolean), .methodLink RX0 66 yX0_isRace, .instanceMethod yX0_isRace, .selects RX0 yX0_isRace yX0_isRace, .code yX0_isRace cX0_isRace 2 (some .boolean), .fieldLink RX0 21 "UnlikeBoats$Book" "races" "Ljava/util/ArrayList;", .methodLink RX0 56 yJx4a65c_size_8abf5, .instanceMethod yJx4a65c_size_8abf5, .selects RJx4a65c yJx4a65c_size_8abf5 yJx4a65c_size_8abf5, .initialized RJx4a65c, .initialized RX12, .static yX12_within, .code yJx4a65c_size_8abf5 cJx4a65c_size_8abf5 1 (some .int), .fieldLink RJx4a65c 48 "java/util/ArrayList" "size" "I", .code yX12_within cX12_within 3 (some .boolean)]
def v_c_result : List Cond := .code yX12_result cX12_result 6 (some .boolean) :: (A_c_result ++ wsX120 ++ wsX00 ++ wsJx4a65c0)
theorem iw_c_result_X12 : ∀ w ∈ wsX120, w ∈ v_c_result := fun _ h => List.mem_cons_of_mem _ (List.mem_append_left _ (List.mem_append_left _ (List.mem_append_right _ (h))))
theorem iw_c_result_X0 : ∀ w ∈ wsX00, w ∈ v_c_result := fun _ h => List.mem_cons_of_mem _ (List.mem_append_left _ (List.mem_append_right _ (h)))
theorem iw_c_result_Jx4a65c : ∀ w ∈ wsJx4a65c0, w ∈ v_c_result := fun _ h => List.mem_cons_of_mem _ (List.mem_append_right _ (h))
theorem gb_c_result_c_isEntered00 : GoodIn v_c_result (.code yX0_isEntered cX0_isEntered 3 (some .boolean) :: A_c_isEntered0) := (List.forall_mem_cons.mpr ⟨⟨List.mem_of_getElem? (i := 6) rfl, good_of_word rfl⟩, (List.forall_mem_cons.mpr ⟨⟨List.mem_of_getElem? (i := 7) rfl, good_of_word rfl⟩, (List.forall_mem_cons.mpr ⟨⟨List.mem_of_getElem? (i := 8) rfl, good_of_word rfl⟩, (List.forall_mem_cons.mpr ⟨⟨List.mem_of_getElem? (i := 9) rfl, good_of_word rfl⟩, (List.forall_mem_cons.mpr ⟨⟨List.mem_of_getElem? (i := 5) rfl, good_of_word rfl⟩, (List.forall_mem_cons.mpr ⟨⟨List.mem_of_getElem? (i := 10) rfl, good_of_word rfl⟩, (List.forall_mem_cons.mpr ⟨⟨List.mem_of_getElem? (i := 11) rfl, good_of_word rfl⟩, (List.forall_mem_cons.mpr ⟨⟨List.mem_of_getElem? (i := 12) rfl, good_of_word rfl⟩, (List.forall_mem_cons.mpr ⟨⟨List.mem_of_getElem? (i := 13) rfl, good_of_word rfl⟩, (List.forall_mem_cons.mpr ⟨⟨List.mem_of_getElem? (i := 14) rfl, good_of_word rfl⟩, (List.forall_mem_cons.mpr ⟨⟨List.mem_of_getElem? (i := 15) rfl, good_of_word rfl⟩, (List.forall_mem_cons.mpr ⟨⟨List.mem_of_getElem? (i := 16) rfl, good_of_word rfl⟩, (List.forall_mem_cons.mpr ⟨⟨List.mem_of_getElem? (i := 17) rfl, good_of_word rfl⟩, (List.forall_mem_cons.mpr ⟨⟨List.mem_of_getElem? (i := 18) rfl, good_of_word rfl⟩, (List.forall_mem_cons.mpr ⟨⟨List.mem_of_getElem? (i := 19) rfl, good_of_word rfl⟩, (List.forall_mem_cons.mpr ⟨⟨List.mem_of_getElem? (i := 20) rfl, good_of_word rfl⟩, (fun _ h => nomatch h)⟩)⟩)⟩)⟩)⟩)⟩)⟩)⟩)⟩)⟩)⟩)⟩)⟩)⟩)⟩)⟩)
theorem gb_c_result_c_isEntered0 : GoodIn v_c_result v_c_isEntered0 := (goodIn_ca (goodIn_ca gb_c_result_c_isEntered00 (goodIn_sub iw_c_result_X0 gw_X0)) (goodIn_sub iw_c_result_Jx4a65c gw_Jx4a65c))
theorem g_c_result_c_isEntered0_146 : GoodIn v_c_result (wsV RX12 146 RX0 yX0_isEntered v_c_isEntered0) := goodIn_app (List.forall_mem_cons.mpr ⟨⟨List.mem_of_getElem? (i := 2) rfl, good_of_word rfl⟩, (List.forall_mem_cons.mpr ⟨⟨List.mem_of_getElem? (i := 3) rfl, good_of_word rfl⟩, (List.forall_mem_cons.mpr ⟨⟨List.mem_of_getElem? (i := 4) rfl, good_of_word rfl⟩, (List.forall_mem_cons.mpr ⟨⟨List.mem_of_getElem? (i := 5) rfl, good_of_word rfl⟩, (fun _ h => nomatch h)⟩)⟩)⟩)⟩) gb_c_result_c_isEntered0
set_option maxHeartbeats 4000000 in
set_option maxRecDepth 100000 in
theorem c_result (l : Launch) (dC : Nat → ClassId) (dI : Nat → Nat → Nat) (x : Nat) (bk : Nat) (tp : Nat) (sh : Nat) (sc : Nat) (he : Nat) (of : Nat) (lc : Nat) (lr : Nat) (la : Nat) (le : Nat) (lw : Nat) (lp : Nat) (ltr : Nat) (stk : Nat) (ed : Nat) (a0 : Int32) (a1 : Int32) (a2 : Int32) (a3 : Int32)  : Met l yX12_result v_c_result ({ frames := 3, cells := 0, slots := 0, locals := 120 }) (va_Pc [.ref x, .int a0, .int a1, .int a2, .int a3] (fun U => va_P (dC, dI) vwCl [(x, .inr (13, [.ref bk, .ref tp, .ref sh, .ref sc, .ref he, .ref of])), (bk, .inr (1, [.int 0, .int 0, .int 0, .ref lc, .ref lr, .ref la, .ref le, .ref lw, .ref lp, .ref ltr, .ref stk])), (la, .inr (0, [.int 0, .ref ed, .int 0]))] U.heap ∧ va_K (dC, dI) vwCl [] U ∧ ub_NX U)) (va_Qi (S := Unit) (fun r _ => r = 0) (fun _ _ => True) (fun _ => False)) 0 0 (fun _ => False) := by
  refine Met.ofW (cc := cX12_result) (maxL := 6) (ret := (some .boolean)) (by decide) rfl ?_
  intro p e s m args below meth c s₁ B hml hv
  obtain ⟨rfl, hP, hK, hN⟩ := hv
  have hx := B.exec
  have hb := B.bytes
  have hr := B.returns
  have hts := atoms_spec (ws := v_c_result) B.pre
  have hown : s.vm.findClass RX12 = some m.cls := findClass_of_methodNamed B.named
  have hlocks := B.notSynchronized
  have hS : va_S (fun _ : Nat => False) s.heap s.heap [] := va_S.rf
  have hl := lv_entry ([.ref x, .int a0, .int a1, .int a2, .int a3]) (n := 6) (Nat.le_of_ble_eq_true rfl)
  rw [lg_entry_eq]
  generalize (lg_sl ([.ref x, .int a0, .int a1, .int a2, .int a3]) ++ List.replicate (6 - (lg_sl ([.ref x, .int a0, .int a1, .int a2, .int a3])).length) Slot.unset).toArray = ls at hl ⊢
  have hl : lv_has ls 6 [(0, .ref x), (1, .int a0), (2, .int a1), (3, .int a2), (4, .int a3)] := hl
  refine lv_aload_n hx hb dX12_result_0 rfl (lv_at hl 0 rfl) ?_
  refine va_get (D := (dC, dI)) (ci := 13) (v := .ref bk) (C := RX12) (T := TX12) (N := 6) hx hb hts iw_c_result_X12 hown hK hP 0 rfl rfl 0 (by decide) (hts (.fieldLink RX12 10 "UnlikeBoats" "book" "LUnlikeBoats$Book;") (List.mem_of_getElem? (i := 1) rfl)) (fun _ h9 => h9) rfl dX12_result_1 ?_
  refine lv_iload_n hx hb dX12_result_4 rfl (lv_at hl 1 rfl) ?_
  refine lv_iload_n hx hb dX12_result_5 rfl (lv_at hl 2 rfl) ?_
  have hPc := hP.sub (ws' := [(bk, .inr (1, [.int 0, .int 0, .int 0, .ref lc, .ref lr, .ref la, .ref le, .ref lw, .ref lp, .ref ltr, .ref stk])), (la, .inr (0, [.int 0, .ref ed, .int 0]))]) [1, 2] rfl
  have hKc := hK.sub (tys' := []) [] rfl
  refine va_calli (va_runV (As := [.int a0, .int a1]) (rest := []) ⟨hx, hb, hml, hown, hts⟩ (c_isEntered0 l dC dI bk lc lr la le lw lp ltr stk ed a0 a1) (cwV 2 hts g_c_result_c_isEntered0_146 rfl rfl rfl (by decide +kernel) ⟨Nat.le_of_ble_eq_true rfl, Nat.le_of_ble_eq_true rfl⟩) ⟨fun a U g mk q => by obtain ⟨e0, qP, qK, qN⟩ := q; exact ⟨e0, qP, va_K.moved (u := U) (U := U.calling g mk a) (Vm.Alike.refl U.vm) qK, ub_NX_c qN⟩, va_recv hK hP (ci := 1) (q0 := 1) rfl rfl, fun U hU hW => ⟨rfl, by rw [hU]; exact hPc, va_K.moved hW.alike hKc, ub_NX_w hW hN⟩⟩ rfl rfl hl.1 rfl (lv_room (Nat.le_of_ble_eq_true rfl)) dX12_result_6 ⟨Nat.le_of_ble_eq_true rfl, Nat.le_of_ble_eq_true rfl⟩) hS (fun _ _ h => h.elim) (fun _ h => h.elim) (fun r1 u2 t H1 locs ht hvm hw hB hz1 hk1 hS => ?_)
  have hP := ub_keep hP hk1
  generalize H1 = H at hP hS ⊢
  obtain rfl : (0 : Int32) = r1 := hw.symm
  refine lv_if_eq (tgt := 21) hx hb dX12_result_9 (by decide) (fun c3 => ?_) (fun c3 => by first | exact absurd c3 (by decide) | exact absurd (by decide) c3)
  refine lv_iconst (v := 0) hx hb dX12_result_21 (by decide) ?_
  exact W.zret (v := (0)) hx hb hr rfl (fun t ht hW => ⟨⟨(0), (), rfl, rfl, trivial⟩, hS.F ht⟩) hS.2.2 dX12_result_22
def A_c_coded : List Cond := [.fieldLink RX12 10 "UnlikeBoats" "book" "LUnlikeBoats$Book;", .methodLink RX12 162 yX0_isCounted, .instanceMethod yX0_isCounted, .selects RX0 yX0_isCounted yX0_isCounted, .initialized RX0, .code yX0_isCounted cX0_isCounted 3 (some .boolean), .methodLink RX0 62 yX0_isKnown, .instanceMethod yX0_isKnown, .selects RX0 yX0_isKnown yX0_isKnown, .methodLink RX0 66 yX0_isRace, .instanceMethod yX0_isRace, .selects RX0 yX0_isRace yX0_isRace, .code yX0_isKnown cX0_isKnown 2 (some .boolean), .fieldLink RX0 59 "UnlikeBoats$Book" "now" "I", .initialized RX12, .static yX12_within, .code yX12_within cX12_within 3 (some .boolean), .code yX0_isRace cX0_isRace 2 (some .boolean), .fieldLink RX0 21 "UnlikeBoats$Book" "races" "Ljava/util/ArrayList;", .methodLink RX0 56 yJx4a65c_size_8abf5, .instanceMethod yJx4a65c_size_8abf5, .selects RJx4a65c yJx4a65c_size_8abf5 yJx4a65c_size_8abf5, .initialized RJx4a65c, .code yJx4a65c_size_8abf5 cJx4a65c_size_8abf5 1 (some .int), .fieldLink RJx4a65c 48 "java/util/ArrayList" "size" "I"]
def v_c_coded : List Cond := .code yX12_coded cX12_coded 4 (some .int) :: (A_c_coded ++ wsX120 ++ wsX00 ++ wsJx4a65c0)
theorem iw_c_coded_X12 : ∀ w ∈ wsX120, w ∈ v_c_coded := fun _ h => List.mem_cons_of_mem _ (List.mem_append_left _ (List.mem_append_left _ (List.mem_append_right _ (h))))
theorem iw_c_coded_X0 : ∀ w ∈ wsX00, w ∈ v_c_coded := fun _ h => List.mem_cons_of_mem _ (List.mem_append_left _ (List.mem_append_right _ (h)))
theorem iw_c_coded_Jx4a65c : ∀ w ∈ wsJx4a65c0, w ∈ v_c_coded := fun _ h => List.mem_cons_of_mem _ (List.mem_append_right _ (h))
theorem gb_c_coded_c_isCounted00 : GoodIn v_c_coded (.code yX0_isCounted cX0_isCounted 3 (some .boolean) :: A_c_isCounted0) := (List.forall_mem_cons.mpr ⟨⟨List.mem_of_getElem? (i := 6) rfl, good_of_word rfl⟩, (List.forall_mem_cons.mpr ⟨⟨List.mem_of_getElem? (i := 7) rfl, good_of_word rfl⟩, (List.forall_mem_cons.mpr ⟨⟨List.mem_of_getElem? (i := 8) rfl, good_of_word rfl⟩, (List.forall_mem_cons.mpr ⟨⟨List.mem_of_getElem? (i := 9) rfl, good_of_word rfl⟩, (List.forall_mem_cons.mpr ⟨⟨List.mem_of_getElem? (i := 5) rfl, good_of_word rfl⟩, (List.forall_mem_cons.mpr ⟨⟨List.mem_of_getElem? (i := 10) rfl, good_of_word rfl⟩, (List.forall_mem_cons.mpr ⟨⟨List.mem_of_getElem? (i := 11) rfl, good_of_word rfl⟩, (List.forall_mem_cons.mpr ⟨⟨List.mem_of_getElem? (i := 12) rfl, good_of_word rfl⟩, (List.forall_mem_cons.mpr ⟨⟨List.mem_of_getElem? (i := 13) rfl, good_of_word rfl⟩, (List.forall_mem_cons.mpr ⟨⟨List.mem_of_getElem? (i := 14) rfl, good_of_word rfl⟩, (List.forall_mem_cons.mpr ⟨⟨List.mem_of_getElem? (i := 15) rfl, good_of_word rfl⟩, (List.forall_mem_cons.mpr ⟨⟨List.mem_of_getElem? (i := 16) rfl, good_of_word rfl⟩, (List.forall_mem_cons.mpr ⟨⟨List.mem_of_getElem? (i := 17) rfl, good_of_word rfl⟩, (List.forall_mem_cons.mpr ⟨⟨List.mem_of_getElem? (i := 18) rfl, good_of_word rfl⟩, (List.forall_mem_cons.mpr ⟨⟨List.mem_of_getElem? (i := 19) rfl, good_of_word rfl⟩, (List.forall_mem_cons.mpr ⟨⟨List.mem_of_getElem? (i := 20) rfl, good_of_word rfl⟩, (List.forall_mem_cons.mpr ⟨⟨List.mem_of_getElem? (i := 21) rfl, good_of_word rfl⟩, (List.forall_mem_cons.mpr ⟨⟨List.mem_of_getElem? (i := 22) rfl, good_of_word rfl⟩, (List.forall_mem_cons.mpr ⟨⟨List.mem_of_getElem? (i := 23) rfl, good_of_word rfl⟩, (List.forall_mem_cons.mpr ⟨⟨List.mem_of_getElem? (i := 24) rfl, good_of_word rfl⟩, (List.forall_mem_cons.mpr ⟨⟨List.mem_of_getElem? (i := 25) rfl, good_of_word rfl⟩, (fun _ h => nomatch h)⟩)⟩)⟩)⟩)⟩)⟩)⟩)⟩)⟩)⟩)⟩)⟩)⟩)⟩)⟩)⟩)⟩)⟩)⟩)⟩)⟩)
theorem gb_c_coded_c_isCounted0 : GoodIn v_c_coded v_c_isCounted0 := (goodIn_ca (goodIn_ca gb_c_coded_c_isCounted00 (goodIn_sub iw_c_coded_X0 gw_X0)) (goodIn_sub iw_c_coded_Jx4a65c gw_Jx4a65c))
theorem g_c_coded_c_isCounted0_162 : GoodIn v_c_coded (wsV RX12 162 RX0 yX0_isCounted v_c_isCounted0) := goodIn_app (List.forall_mem_cons.mpr ⟨⟨List.mem_of_getElem? (i := 2) rfl, good_of_word rfl⟩, (List.forall_mem_cons.mpr ⟨⟨List.mem_of_getElem? (i := 3) rfl, good_of_word rfl⟩, (List.forall_mem_cons.mpr ⟨⟨List.mem_of_getElem? (i := 4) rfl, good_of_word rfl⟩, (List.forall_mem_cons.mpr ⟨⟨List.mem_of_getElem? (i := 5) rfl, good_of_word rfl⟩, (fun _ h => nomatch h)⟩)⟩)⟩)⟩) gb_c_coded_c_isCounted0
set_option maxHeartbeats 4000000 in
set_option maxRecDepth 100000 in
theorem c_coded (l : Launch) (dC : Nat → ClassId) (dI : Nat → Nat → Nat) (x : Nat) (bk : Nat) (tp : Nat) (sh : Nat) (sc : Nat) (he : Nat) (of : Nat) (lc : Nat) (lr : Nat) (la : Nat) (le : Nat) (lw : Nat) (lp : Nat) (ltr : Nat) (stk : Nat) (ed : Nat) (a0 : Int32) (a1 : Int32) (a2 : Int32)  : Met l yX12_coded v_c_coded ({ frames := 3, cells := 0, slots := 0, locals := 120 }) (va_Pc [.ref x, .int a0, .int a1, .int a2] (fun U => va_P (dC, dI) vwCl [(x, .inr (13, [.ref bk, .ref tp, .ref sh, .ref sc, .ref he, .ref of])), (bk, .inr (1, [.int 0, .int 0, .int 0, .ref lc, .ref lr, .ref la, .ref le, .ref lw, .ref lp, .ref ltr, .ref stk])), (la, .inr (0, [.int 0, .ref ed, .int 0]))] U.heap ∧ va_K (dC, dI) vwCl [] U ∧ ub_NX U)) (va_Qi (S := Unit) (fun r _ => r = -1) (fun _ _ => True) (fun _ => False)) 0 0 (fun _ => False) := by
  refine Met.ofW (cc := cX12_coded) (maxL := 4) (ret := (some .int)) (by decide) rfl ?_
  intro p e s m args below meth c s₁ B hml hv
  obtain ⟨rfl, hP, hK, hN⟩ := hv
  have hx := B.exec
  have hb := B.bytes
  have hr := B.returns
  have hts := atoms_spec (ws := v_c_coded) B.pre
  have hown : s.vm.findClass RX12 = some m.cls := findClass_of_methodNamed B.named
  have hlocks := B.notSynchronized
  have hS : va_S (fun _ : Nat => False) s.heap s.heap [] := va_S.rf
  have hl := lv_entry ([.ref x, .int a0, .int a1, .int a2]) (n := 4) (Nat.le_of_ble_eq_true rfl)
  rw [lg_entry_eq]
  generalize (lg_sl ([.ref x, .int a0, .int a1, .int a2]) ++ List.replicate (4 - (lg_sl ([.ref x, .int a0, .int a1, .int a2])).length) Slot.unset).toArray = ls at hl ⊢
  have hl : lv_has ls 4 [(0, .ref x), (1, .int a0), (2, .int a1), (3, .int a2)] := hl
  refine lv_aload_n hx hb dX12_coded_0 rfl (lv_at hl 0 rfl) ?_
  refine va_get (D := (dC, dI)) (ci := 13) (v := .ref bk) (C := RX12) (T := TX12) (N := 6) hx hb hts iw_c_coded_X12 hown hK hP 0 rfl rfl 0 (by decide) (hts (.fieldLink RX12 10 "UnlikeBoats" "book" "LUnlikeBoats$Book;") (List.mem_of_getElem? (i := 1) rfl)) (fun _ h9 => h9) rfl dX12_coded_1 ?_
  refine lv_iload_n hx hb dX12_coded_4 rfl (lv_at hl 1 rfl) ?_
  refine lv_iload_n hx hb dX12_coded_5 rfl (lv_at hl 3 rfl) ?_
  have hPc := hP.sub (ws' := [(bk, .inr (1, [.int 0, .int 0, .int 0, .ref lc, .ref lr, .ref la, .ref le, .ref lw, .ref lp, .ref ltr, .ref stk])), (la, .inr (0, [.int 0, .ref ed, .int 0]))]) [1, 2] rfl
  have hKc := hK.sub (tys' := []) [] rfl
  refine va_calli (va_runV (As := [.int a0, .int a2]) (rest := []) ⟨hx, hb, hml, hown, hts⟩ (c_isCounted0 l dC dI bk lc lr la le lw lp ltr stk ed a0 a2) (cwV 2 hts g_c_coded_c_isCounted0_162 rfl rfl rfl (by decide +kernel) ⟨Nat.le_of_ble_eq_true rfl, Nat.le_of_ble_eq_true rfl⟩) ⟨fun a U g mk q => by obtain ⟨e0, qP, qK, qN⟩ := q; exact ⟨e0, qP, va_K.moved (u := U) (U := U.calling g mk a) (Vm.Alike.refl U.vm) qK, ub_NX_c qN⟩, va_recv hK hP (ci := 1) (q0 := 1) rfl rfl, fun U hU hW => ⟨rfl, by rw [hU]; exact hPc, va_K.moved hW.alike hKc, ub_NX_w hW hN⟩⟩ rfl rfl hl.1 rfl (lv_room (Nat.le_of_ble_eq_true rfl)) dX12_coded_6 ⟨Nat.le_of_ble_eq_true rfl, Nat.le_of_ble_eq_true rfl⟩) hS (fun _ _ h => h.elim) (fun _ h => h.elim) (fun r1 u2 t H1 locs ht hvm hw hB hz1 hk1 hS => ?_)
  have hP := ub_keep hP hk1
  generalize H1 = H at hP hS ⊢
  obtain rfl : (0 : Int32) = r1 := hw.symm
  refine lv_if_eq (tgt := 23) hx hb dX12_coded_9 (by decide) (fun c3 => ?_) (fun c3 => by first | exact absurd c3 (by decide) | exact absurd (by decide) c3)
  refine lv_iconst (v := -1) hx hb dX12_coded_23 (by decide) ?_
  exact W.iret (v := (-1)) hx hb hr (fun t ht hW => ⟨⟨(-1), (), rfl, rfl, trivial⟩, hS.F ht⟩) hS.2.2 dX12_coded_24
def A_c_corrected : List Cond := [.fieldLink RX12 10 "UnlikeBoats" "book" "LUnlikeBoats$Book;", .methodLink RX12 162 yX0_isCounted, .instanceMethod yX0_isCounted, .selects RX0 yX0_isCounted yX0_isCounted, .initialized RX0, .constant RX12 172 (-1000000000), .code yX0_isCounted cX0_isCounted 3 (some .boolean), .methodLink RX0 62 yX0_isKnown, .instanceMethod yX0_isKnown, .selects RX0 yX0_isKnown yX0_isKnown, .methodLink RX0 66 yX0_isRace, .instanceMethod yX0_isRace, .selects RX0 yX0_isRace yX0_isRace, .code yX0_isKnown cX0_isKnown 2 (some .boolean), .fieldLink RX0 59 "UnlikeBoats$Book" "now" "I", .initialized RX12, .static yX12_within, .code yX12_within cX12_within 3 (some .boolean), .code yX0_isRace cX0_isRace 2 (some .boolean), .fieldLink RX0 21 "UnlikeBoats$Book" "races" "Ljava/util/ArrayList;", .methodLink RX0 56 yJx4a65c_size_8abf5, .instanceMethod yJx4a65c_size_8abf5, .selects RJx4a65c yJx4a65c_size_8abf5 yJx4a65c_size_8abf5, .initialized RJx4a65c, .code yJx4a65c_size_8abf5 cJx4a65c_size_8abf5 1 (some .int), .fieldLink RJx4a65c 48 "java/util/ArrayList" "size" "I"]
def v_c_corrected : List Cond := .code yX12_corrected cX12_corrected 4 (some .int) :: (A_c_corrected ++ wsX120 ++ wsX00 ++ wsJx4a65c0)
theorem iw_c_corrected_X12 : ∀ w ∈ wsX120, w ∈ v_c_corrected := fun _ h => List.mem_cons_of_mem _ (List.mem_append_left _ (List.mem_append_left _ (List.mem_append_right _ (h))))
theorem iw_c_corrected_X0 : ∀ w ∈ wsX00, w ∈ v_c_corrected := fun _ h => List.mem_cons_of_mem _ (List.mem_append_left _ (List.mem_append_right _ (h)))
theorem iw_c_corrected_Jx4a65c : ∀ w ∈ wsJx4a65c0, w ∈ v_c_corrected := fun _ h => List.mem_cons_of_mem _ (List.mem_append_right _ (h))
theorem gb_c_corrected_c_isCounted00 : GoodIn v_c_corrected (.code yX0_isCounted cX0_isCounted 3 (some .boolean) :: A_c_isCounted0) := (List.forall_mem_cons.mpr ⟨⟨List.mem_of_getElem? (i := 7) rfl, good_of_word rfl⟩, (List.forall_mem_cons.mpr ⟨⟨List.mem_of_getElem? (i := 8) rfl, good_of_word rfl⟩, (List.forall_mem_cons.mpr ⟨⟨List.mem_of_getElem? (i := 9) rfl, good_of_word rfl⟩, (List.forall_mem_cons.mpr ⟨⟨List.mem_of_getElem? (i := 10) rfl, good_of_word rfl⟩, (List.forall_mem_cons.mpr ⟨⟨List.mem_of_getElem? (i := 5) rfl, good_of_word rfl⟩, (List.forall_mem_cons.mpr ⟨⟨List.mem_of_getElem? (i := 11) rfl, good_of_word rfl⟩, (List.forall_mem_cons.mpr ⟨⟨List.mem_of_getElem? (i := 12) rfl, good_of_word rfl⟩, (List.forall_mem_cons.mpr ⟨⟨List.mem_of_getElem? (i := 13) rfl, good_of_word rfl⟩, (List.forall_mem_cons.mpr ⟨⟨List.mem_of_getElem? (i := 14) rfl, good_of_word rfl⟩, (List.forall_mem_cons.mpr ⟨⟨List.mem_of_getElem? (i := 15) rfl, good_of_word rfl⟩, (List.forall_mem_cons.mpr ⟨⟨List.mem_of_getElem? (i := 16) rfl, good_of_word rfl⟩, (List.forall_mem_cons.mpr ⟨⟨List.mem_of_getElem? (i := 17) rfl, good_of_word rfl⟩, (List.forall_mem_cons.mpr ⟨⟨List.mem_of_getElem? (i := 18) rfl, good_of_word rfl⟩, (List.forall_mem_cons.mpr ⟨⟨List.mem_of_getElem? (i := 19) rfl, good_of_word rfl⟩, (List.forall_mem_cons.mpr ⟨⟨List.mem_of_getElem? (i := 20) rfl, good_of_word rfl⟩, (List.forall_mem_cons.mpr ⟨⟨List.mem_of_getElem? (i := 21) rfl, good_of_word rfl⟩, (List.forall_mem_cons.mpr ⟨⟨List.mem_of_getElem? (i := 22) rfl, good_of_word rfl⟩, (List.forall_mem_cons.mpr ⟨⟨List.mem_of_getElem? (i := 23) rfl, good_of_word rfl⟩, (List.forall_mem_cons.mpr ⟨⟨List.mem_of_getElem? (i := 24) rfl, good_of_word rfl⟩, (List.forall_mem_cons.mpr ⟨⟨List.mem_of_getElem? (i := 25) rfl, good_of_word rfl⟩, (List.forall_mem_cons.mpr ⟨⟨List.mem_of_getElem? (i := 26) rfl, good_of_word rfl⟩, (fun _ h => nomatch h)⟩)⟩)⟩)⟩)⟩)⟩)⟩)⟩)⟩)⟩)⟩)⟩)⟩)⟩)⟩)⟩)⟩)⟩)⟩)⟩)⟩)
theorem gb_c_corrected_c_isCounted0 : GoodIn v_c_corrected v_c_isCounted0 := (goodIn_ca (goodIn_ca gb_c_corrected_c_isCounted00 (goodIn_sub iw_c_corrected_X0 gw_X0)) (goodIn_sub iw_c_corrected_Jx4a65c gw_Jx4a65c))
theorem g_c_corrected_c_isCounted0_162 : GoodIn v_c_corrected (wsV RX12 162 RX0 yX0_isCounted v_c_isCounted0) := goodIn_app (List.forall_mem_cons.mpr ⟨⟨List.mem_of_getElem? (i := 2) rfl, good_of_word rfl⟩, (List.forall_mem_cons.mpr ⟨⟨List.mem_of_getElem? (i := 3) rfl, good_of_word rfl⟩, (List.forall_mem_cons.mpr ⟨⟨List.mem_of_getElem? (i := 4) rfl, good_of_word rfl⟩, (List.forall_mem_cons.mpr ⟨⟨List.mem_of_getElem? (i := 5) rfl, good_of_word rfl⟩, (fun _ h => nomatch h)⟩)⟩)⟩)⟩) gb_c_corrected_c_isCounted0
set_option maxHeartbeats 4000000 in
set_option maxRecDepth 100000 in
theorem c_corrected (l : Launch) (dC : Nat → ClassId) (dI : Nat → Nat → Nat) (x : Nat) (bk : Nat) (tp : Nat) (sh : Nat) (sc : Nat) (he : Nat) (of : Nat) (lc : Nat) (lr : Nat) (la : Nat) (le : Nat) (lw : Nat) (lp : Nat) (ltr : Nat) (stk : Nat) (ed : Nat) (a0 : Int32) (a1 : Int32) (a2 : Int32)  : Met l yX12_corrected v_c_corrected ({ frames := 3, cells := 0, slots := 0, locals := 120 }) (va_Pc [.ref x, .int a0, .int a1, .int a2] (fun U => va_P (dC, dI) vwCl [(x, .inr (13, [.ref bk, .ref tp, .ref sh, .ref sc, .ref he, .ref of])), (bk, .inr (1, [.int 0, .int 0, .int 0, .ref lc, .ref lr, .ref la, .ref le, .ref lw, .ref lp, .ref ltr, .ref stk])), (la, .inr (0, [.int 0, .ref ed, .int 0]))] U.heap ∧ va_K (dC, dI) vwCl [] U ∧ ub_NX U)) (va_Qi (S := Unit) (fun r _ => r = -1000000000) (fun _ _ => True) (fun _ => False)) 0 0 (fun _ => False) := by
  refine Met.ofW (cc := cX12_corrected) (maxL := 4) (ret := (some .int)) (by decide) rfl ?_
  intro p e s m args below meth c s₁ B hml hv
  obtain ⟨rfl, hP, hK, hN⟩ := hv
  have hx := B.exec
  have hb := B.bytes
  have hr := B.returns
  have hts := atoms_spec (ws := v_c_corrected) B.pre
  have hown : s.vm.findClass RX12 = some m.cls := findClass_of_methodNamed B.named
  have hlocks := B.notSynchronized
  have hS : va_S (fun _ : Nat => False) s.heap s.heap [] := va_S.rf
  have hl := lv_entry ([.ref x, .int a0, .int a1, .int a2]) (n := 4) (Nat.le_of_ble_eq_true rfl)
  rw [lg_entry_eq]
  generalize (lg_sl ([.ref x, .int a0, .int a1, .int a2]) ++ List.replicate (4 - (lg_sl ([.ref x, .int a0, .int a1, .int a2])).length) Slot.unset).toArray = ls at hl ⊢
  have hl : lv_has ls 4 [(0, .ref x), (1, .int a0), (2, .int a1), (3, .int a2)] := hl
  refine lv_aload_n hx hb dX12_corrected_0 rfl (lv_at hl 0 rfl) ?_
  refine va_get (D := (dC, dI)) (ci := 13) (v := .ref bk) (C := RX12) (T := TX12) (N := 6) hx hb hts iw_c_corrected_X12 hown hK hP 0 rfl rfl 0 (by decide) (hts (.fieldLink RX12 10 "UnlikeBoats" "book" "LUnlikeBoats$Book;") (List.mem_of_getElem? (i := 1) rfl)) (fun _ h9 => h9) rfl dX12_corrected_1 ?_
  refine lv_iload_n hx hb dX12_corrected_4 rfl (lv_at hl 1 rfl) ?_
  refine lv_iload_n hx hb dX12_corrected_5 rfl (lv_at hl 3 rfl) ?_
  have hPc := hP.sub (ws' := [(bk, .inr (1, [.int 0, .int 0, .int 0, .ref lc, .ref lr, .ref la, .ref le, .ref lw, .ref lp, .ref ltr, .ref stk])), (la, .inr (0, [.int 0, .ref ed, .int 0]))]) [1, 2] rfl
  have hKc := hK.sub (tys' := []) [] rfl
  refine va_calli (va_runV (As := [.int a0, .int a2]) (rest := []) ⟨hx, hb, hml, hown, hts⟩ (c_isCounted0 l dC dI bk lc lr la le lw lp ltr stk ed a0 a2) (cwV 2 hts g_c_corrected_c_isCounted0_162 rfl rfl rfl (by decide +kernel) ⟨Nat.le_of_ble_eq_true rfl, Nat.le_of_ble_eq_true rfl⟩) ⟨fun a U g mk q => by obtain ⟨e0, qP, qK, qN⟩ := q; exact ⟨e0, qP, va_K.moved (u := U) (U := U.calling g mk a) (Vm.Alike.refl U.vm) qK, ub_NX_c qN⟩, va_recv hK hP (ci := 1) (q0 := 1) rfl rfl, fun U hU hW => ⟨rfl, by rw [hU]; exact hPc, va_K.moved hW.alike hKc, ub_NX_w hW hN⟩⟩ rfl rfl hl.1 rfl (lv_room (Nat.le_of_ble_eq_true rfl)) dX12_corrected_6 ⟨Nat.le_of_ble_eq_true rfl, Nat.le_of_ble_eq_true rfl⟩) hS (fun _ _ h => h.elim) (fun _ h => h.elim) (fun r1 u2 t H1 locs ht hvm hw hB hz1 hk1 hS => ?_)
  have hP := ub_keep hP hk1
  generalize H1 = H at hP hS ⊢
  obtain rfl : (0 : Int32) = r1 := hw.symm
  refine lv_if_eq (tgt := 23) hx hb dX12_corrected_9 (by decide) (fun c3 => ?_) (fun c3 => by first | exact absurd c3 (by decide) | exact absurd (by decide) c3)
  refine lv_ldc hx hb hown (hts (.constant RX12 172 (-1000000000)) (List.mem_of_getElem? (i := 6) rfl)) dX12_corrected_23 ?_
  exact W.iret (v := (-1000000000)) hx hb hr (fun t ht hW => ⟨⟨(-1000000000), (), rfl, rfl, trivial⟩, hS.F ht⟩) hS.2.2 dX12_corrected_25
def A_c_placed : List Cond := [.fieldLink RX12 10 "UnlikeBoats" "book" "LUnlikeBoats$Book;", .methodLink RX12 162 yX0_isCounted, .instanceMethod yX0_isCounted, .selects RX0 yX0_isCounted yX0_isCounted, .initialized RX0, .code yX0_isCounted cX0_isCounted 3 (some .boolean), .methodLink RX0 62 yX0_isKnown, .instanceMethod yX0_isKnown, .selects RX0 yX0_isKnown yX0_isKnown, .methodLink RX0 66 yX0_isRace, .instanceMethod yX0_isRace, .selects RX0 yX0_isRace yX0_isRace, .code yX0_isKnown cX0_isKnown 2 (some .boolean), .fieldLink RX0 59 "UnlikeBoats$Book" "now" "I", .initialized RX12, .static yX12_within, .code yX12_within cX12_within 3 (some .boolean), .code yX0_isRace cX0_isRace 2 (some .boolean), .fieldLink RX0 21 "UnlikeBoats$Book" "races" "Ljava/util/ArrayList;", .methodLink RX0 56 yJx4a65c_size_8abf5, .instanceMethod yJx4a65c_size_8abf5, .selects RJx4a65c yJx4a65c_size_8abf5 yJx4a65c_size_8abf5, .initialized RJx4a65c, .code yJx4a65c_size_8abf5 cJx4a65c_size_8abf5 1 (some .int), .fieldLink RJx4a65c 48 "java/util/ArrayList" "size" "I"]
def v_c_placed : List Cond := .code yX12_placed cX12_placed 4 (some .int) :: (A_c_placed ++ wsX120 ++ wsX00 ++ wsJx4a65c0)
theorem iw_c_placed_X12 : ∀ w ∈ wsX120, w ∈ v_c_placed := fun _ h => List.mem_cons_of_mem _ (List.mem_append_left _ (List.mem_append_left _ (List.mem_append_right _ (h))))
theorem iw_c_placed_X0 : ∀ w ∈ wsX00, w ∈ v_c_placed := fun _ h => List.mem_cons_of_mem _ (List.mem_append_left _ (List.mem_append_right _ (h)))
theorem iw_c_placed_Jx4a65c : ∀ w ∈ wsJx4a65c0, w ∈ v_c_placed := fun _ h => List.mem_cons_of_mem _ (List.mem_append_right _ (h))
theorem gb_c_placed_c_isCounted00 : GoodIn v_c_placed (.code yX0_isCounted cX0_isCounted 3 (some .boolean) :: A_c_isCounted0) := (List.forall_mem_cons.mpr ⟨⟨List.mem_of_getElem? (i := 6) rfl, good_of_word rfl⟩, (List.forall_mem_cons.mpr ⟨⟨List.mem_of_getElem? (i := 7) rfl, good_of_word rfl⟩, (List.forall_mem_cons.mpr ⟨⟨List.mem_of_getElem? (i := 8) rfl, good_of_word rfl⟩, (List.forall_mem_cons.mpr ⟨⟨List.mem_of_getElem? (i := 9) rfl, good_of_word rfl⟩, (List.forall_mem_cons.mpr ⟨⟨List.mem_of_getElem? (i := 5) rfl, good_of_word rfl⟩, (List.forall_mem_cons.mpr ⟨⟨List.mem_of_getElem? (i := 10) rfl, good_of_word rfl⟩, (List.forall_mem_cons.mpr ⟨⟨List.mem_of_getElem? (i := 11) rfl, good_of_word rfl⟩, (List.forall_mem_cons.mpr ⟨⟨List.mem_of_getElem? (i := 12) rfl, good_of_word rfl⟩, (List.forall_mem_cons.mpr ⟨⟨List.mem_of_getElem? (i := 13) rfl, good_of_word rfl⟩, (List.forall_mem_cons.mpr ⟨⟨List.mem_of_getElem? (i := 14) rfl, good_of_word rfl⟩, (List.forall_mem_cons.mpr ⟨⟨List.mem_of_getElem? (i := 15) rfl, good_of_word rfl⟩, (List.forall_mem_cons.mpr ⟨⟨List.mem_of_getElem? (i := 16) rfl, good_of_word rfl⟩, (List.forall_mem_cons.mpr ⟨⟨List.mem_of_getElem? (i := 17) rfl, good_of_word rfl⟩, (List.forall_mem_cons.mpr ⟨⟨List.mem_of_getElem? (i := 18) rfl, good_of_word rfl⟩, (List.forall_mem_cons.mpr ⟨⟨List.mem_of_getElem? (i := 19) rfl, good_of_word rfl⟩, (List.forall_mem_cons.mpr ⟨⟨List.mem_of_getElem? (i := 20) rfl, good_of_word rfl⟩, (List.forall_mem_cons.mpr ⟨⟨List.mem_of_getElem? (i := 21) rfl, good_of_word rfl⟩, (List.forall_mem_cons.mpr ⟨⟨List.mem_of_getElem? (i := 22) rfl, good_of_word rfl⟩, (List.forall_mem_cons.mpr ⟨⟨List.mem_of_getElem? (i := 23) rfl, good_of_word rfl⟩, (List.forall_mem_cons.mpr ⟨⟨List.mem_of_getElem? (i := 24) rfl, good_of_word rfl⟩, (List.forall_mem_cons.mpr ⟨⟨List.mem_of_getElem? (i := 25) rfl, good_of_word rfl⟩, (fun _ h => nomatch h)⟩)⟩)⟩)⟩)⟩)⟩)⟩)⟩)⟩)⟩)⟩)⟩)⟩)⟩)⟩)⟩)⟩)⟩)⟩)⟩)⟩)
theorem gb_c_placed_c_isCounted0 : GoodIn v_c_placed v_c_isCounted0 := (goodIn_ca (goodIn_ca gb_c_placed_c_isCounted00 (goodIn_sub iw_c_placed_X0 gw_X0)) (goodIn_sub iw_c_placed_Jx4a65c gw_Jx4a65c))
theorem g_c_placed_c_isCounted0_162 : GoodIn v_c_placed (wsV RX12 162 RX0 yX0_isCounted v_c_isCounted0) := goodIn_app (List.forall_mem_cons.mpr ⟨⟨List.mem_of_getElem? (i := 2) rfl, good_of_word rfl⟩, (List.forall_mem_cons.mpr ⟨⟨List.mem_of_getElem? (i := 3) rfl, good_of_word rfl⟩, (List.forall_mem_cons.mpr ⟨⟨List.mem_of_getElem? (i := 4) rfl, good_of_word rfl⟩, (List.forall_mem_cons.mpr ⟨⟨List.mem_of_getElem? (i := 5) rfl, good_of_word rfl⟩, (fun _ h => nomatch h)⟩)⟩)⟩)⟩) gb_c_placed_c_isCounted0
set_option maxHeartbeats 4000000 in
set_option maxRecDepth 100000 in
theorem c_placed (l : Launch) (dC : Nat → ClassId) (dI : Nat → Nat → Nat) (x : Nat) (bk : Nat) (tp : Nat) (sh : Nat) (sc : Nat) (he : Nat) (of : Nat) (lc : Nat) (lr : Nat) (la : Nat) (le : Nat) (lw : Nat) (lp : Nat) (ltr : Nat) (stk : Nat) (ed : Nat) (a0 : Int32) (a1 : Int32) (a2 : Int32)  : Met l yX12_placed v_c_placed ({ frames := 3, cells := 0, slots := 0, locals := 120 }) (va_Pc [.ref x, .int a0, .int a1, .int a2] (fun U => va_P (dC, dI) vwCl [(x, .inr (13, [.ref bk, .ref tp, .ref sh, .ref sc, .ref he, .ref of])), (bk, .inr (1, [.int 0, .int 0, .int 0, .ref lc, .ref lr, .ref la, .ref le, .ref lw, .ref lp, .ref ltr, .ref stk])), (la, .inr (0, [.int 0, .ref ed, .int 0]))] U.heap ∧ va_K (dC, dI) vwCl [] U ∧ ub_NX U)) (va_Qi (S := Unit) (fun r _ => r = -1) (fun _ _ => True) (fun _ => False)) 0 0 (fun _ => False) := by
  refine Met.ofW (cc := cX12_placed) (maxL := 4) (ret := (some .int)) (by decide) rfl ?_
  intro p e s m args below meth c s₁ B hml hv
  obtain ⟨rfl, hP, hK, hN⟩ := hv
  have hx := B.exec
  have hb := B.bytes
  have hr := B.returns
  have hts := atoms_spec (ws := v_c_placed) B.pre
  have hown : s.vm.findClass RX12 = some m.cls := findClass_of_methodNamed B.named
  have hlocks := B.notSynchronized
  have hS : va_S (fun _ : Nat => False) s.heap s.heap [] := va_S.rf
  have hl := lv_entry ([.ref x, .int a0, .int a1, .int a2]) (n := 4) (Nat.le_of_ble_eq_true rfl)
  rw [lg_entry_eq]
  generalize (lg_sl ([.ref x, .int a0, .int a1, .int a2]) ++ List.replicate (4 - (lg_sl ([.ref x, .int a0, .int a1, .int a2])).length) Slot.unset).toArray = ls at hl ⊢
  have hl : lv_has ls 4 [(0, .ref x), (1, .int a0), (2, .int a1), (3, .int a2)] := hl
  refine lv_aload_n hx hb dX12_placed_0 rfl (lv_at hl 0 rfl) ?_
  refine va_get (D := (dC, dI)) (ci := 13) (v := .ref bk) (C := RX12) (T := TX12) (N := 6) hx hb hts iw_c_placed_X12 hown hK hP 0 rfl rfl 0 (by decide) (hts (.fieldLink RX12 10 "UnlikeBoats" "book" "LUnlikeBoats$Book;") (List.mem_of_getElem? (i := 1) rfl)) (fun _ h9 => h9) rfl dX12_placed_1 ?_
  refine lv_iload_n hx hb dX12_placed_4 rfl (lv_at hl 1 rfl) ?_
  refine lv_iload_n hx hb dX12_placed_5 rfl (lv_at hl 3 rfl) ?_
  have hPc := hP.sub (ws' := [(bk, .inr (1, [.int 0, .int 0, .int 0, .ref lc, .ref lr, .ref la, .ref le, .ref lw, .ref lp, .ref ltr, .ref stk])), (la, .inr (0, [.int 0, .ref ed, .int 0]))]) [1, 2] rfl
  have hKc := hK.sub (tys' := []) [] rfl
  refine va_calli (va_runV (As := [.int a0, .int a2]) (rest := []) ⟨hx, hb, hml, hown, hts⟩ (c_isCounted0 l dC dI bk lc lr la le lw lp ltr stk ed a0 a2) (cwV 2 hts g_c_placed_c_isCounted0_162 rfl rfl rfl (by decide +kernel) ⟨Nat.le_of_ble_eq_true rfl, Nat.le_of_ble_eq_true rfl⟩) ⟨fun a U g mk q => by obtain ⟨e0, qP, qK, qN⟩ := q; exact ⟨e0, qP, va_K.moved (u := U) (U := U.calling g mk a) (Vm.Alike.refl U.vm) qK, ub_NX_c qN⟩, va_recv hK hP (ci := 1) (q0 := 1) rfl rfl, fun U hU hW => ⟨rfl, by rw [hU]; exact hPc, va_K.moved hW.alike hKc, ub_NX_w hW hN⟩⟩ rfl rfl hl.1 rfl (lv_room (Nat.le_of_ble_eq_true rfl)) dX12_placed_6 ⟨Nat.le_of_ble_eq_true rfl, Nat.le_of_ble_eq_true rfl⟩) hS (fun _ _ h => h.elim) (fun _ h => h.elim) (fun r1 u2 t H1 locs ht hvm hw hB hz1 hk1 hS => ?_)
  have hP := ub_keep hP hk1
  generalize H1 = H at hP hS ⊢
  obtain rfl : (0 : Int32) = r1 := hw.symm
  refine lv_if_eq (tgt := 23) hx hb dX12_placed_9 (by decide) (fun c3 => ?_) (fun c3 => by first | exact absurd c3 (by decide) | exact absurd (by decide) c3)
  refine lv_iconst (v := -1) hx hb dX12_placed_23 (by decide) ?_
  exact W.iret (v := (-1)) hx hb hr (fun t ht hW => ⟨⟨(-1), (), rfl, rfl, trivial⟩, hS.F ht⟩) hS.2.2 dX12_placed_24
def A_c_redress : List Cond := [.fieldLink RX12 10 "UnlikeBoats" "book" "LUnlikeBoats$Book;", .methodLink RX12 146 yX0_isEntered, .instanceMethod yX0_isEntered, .selects RX0 yX0_isEntered yX0_isEntered, .initialized RX0, .code yX0_isEntered cX0_isEntered 3 (some .boolean), .methodLink RX0 66 yX0_isRace, .instanceMethod yX0_isRace, .selects RX0 yX0_isRace yX0_isRace, .code yX0_isRace cX0_isRace 2 (some .boolean), .fieldLink RX0 21 "UnlikeBoats$Book" "races" "Ljava/util/ArrayList;", .methodLink RX0 56 yJx4a65c_size_8abf5, .instanceMethod yJx4a65c_size_8abf5, .selects RJx4a65c yJx4a65c_size_8abf5 yJx4a65c_size_8abf5, .initialized RJx4a65c, .initialized RX12, .static yX12_within, .code yJx4a65c_size_8abf5 cJx4a65c_size_8abf5 1 (some .int), .fieldLink RJx4a65c 48 "java/util/ArrayList" "size" "I", .code yX12_within cX12_within 3 (some .boolean)]
def v_c_redress : List Cond := .code yX12_redress cX12_redress 4 (some .boolean) :: (A_c_redress ++ wsX120 ++ wsX00 ++ wsJx4a65c0)
theorem iw_c_redress_X12 : ∀ w ∈ wsX120, w ∈ v_c_redress := fun _ h => List.mem_cons_of_mem _ (List.mem_append_left _ (List.mem_append_left _ (List.mem_append_right _ (h))))
theorem iw_c_redress_X0 : ∀ w ∈ wsX00, w ∈ v_c_redress := fun _ h => List.mem_cons_of_mem _ (List.mem_append_left _ (List.mem_append_right _ (h)))
theorem iw_c_redress_Jx4a65c : ∀ w ∈ wsJx4a65c0, w ∈ v_c_redress := fun _ h => List.mem_cons_of_mem _ (List.mem_append_right _ (h))
theorem gb_c_redress_c_isEntered00 : GoodIn v_c_redress (.code yX0_isEntered cX0_isEntered 3 (some .boolean) :: A_c_isEntered0) := (List.forall_mem_cons.mpr ⟨⟨List.mem_of_getElem? (i := 6) rfl, good_of_word rfl⟩, (List.forall_mem_cons.mpr ⟨⟨List.mem_of_getElem? (i := 7) rfl, good_of_word rfl⟩, (List.forall_mem_cons.mpr ⟨⟨List.mem_of_getElem? (i := 8) rfl, good_of_word rfl⟩, (List.forall_mem_cons.mpr ⟨⟨List.mem_of_getElem? (i := 9) rfl, good_of_word rfl⟩, (List.forall_mem_cons.mpr ⟨⟨List.mem_of_getElem? (i := 5) rfl, good_of_word rfl⟩, (List.forall_mem_cons.mpr ⟨⟨List.mem_of_getElem? (i := 10) rfl, good_of_word rfl⟩, (List.forall_mem_cons.mpr ⟨⟨List.mem_of_getElem? (i := 11) rfl, good_of_word rfl⟩, (List.forall_mem_cons.mpr ⟨⟨List.mem_of_getElem? (i := 12) rfl, good_of_word rfl⟩, (List.forall_mem_cons.mpr ⟨⟨List.mem_of_getElem? (i := 13) rfl, good_of_word rfl⟩, (List.forall_mem_cons.mpr ⟨⟨List.mem_of_getElem? (i := 14) rfl, good_of_word rfl⟩, (List.forall_mem_cons.mpr ⟨⟨List.mem_of_getElem? (i := 15) rfl, good_of_word rfl⟩, (List.forall_mem_cons.mpr ⟨⟨List.mem_of_getElem? (i := 16) rfl, good_of_word rfl⟩, (List.forall_mem_cons.mpr ⟨⟨List.mem_of_getElem? (i := 17) rfl, good_of_word rfl⟩, (List.forall_mem_cons.mpr ⟨⟨List.mem_of_getElem? (i := 18) rfl, good_of_word rfl⟩, (List.forall_mem_cons.mpr ⟨⟨List.mem_of_getElem? (i := 19) rfl, good_of_word rfl⟩, (List.forall_mem_cons.mpr ⟨⟨List.mem_of_getElem? (i := 20) rfl, good_of_word rfl⟩, (fun _ h => nomatch h)⟩)⟩)⟩)⟩)⟩)⟩)⟩)⟩)⟩)⟩)⟩)⟩)⟩)⟩)⟩)⟩)
theorem gb_c_redress_c_isEntered0 : GoodIn v_c_redress v_c_isEntered0 := (goodIn_ca (goodIn_ca gb_c_redress_c_isEntered00 (goodIn_sub iw_c_redress_X0 gw_X0)) (goodIn_sub iw_c_redress_Jx4a65c gw_Jx4a65c))
theorem g_c_redress_c_isEntered0_146 : GoodIn v_c_redress (wsV RX12 146 RX0 yX0_isEntered v_c_isEntered0) := goodIn_app (List.forall_mem_cons.mpr ⟨⟨List.mem_of_getElem? (i := 2) rfl, good_of_word rfl⟩, (List.forall_mem_cons.mpr ⟨⟨List.mem_of_getElem? (i := 3) rfl, good_of_word rfl⟩, (List.forall_mem_cons.mpr ⟨⟨List.mem_of_getElem? (i := 4) rfl, good_of_word rfl⟩, (List.forall_mem_cons.mpr ⟨⟨List.mem_of_getElem? (i := 5) rfl, good_of_word rfl⟩, (fun _ h => nomatch h)⟩)⟩)⟩)⟩) gb_c_redress_c_isEntered0
set_option maxHeartbeats 4000000 in
set_option maxRecDepth 100000 in
theorem c_redress (l : Launch) (dC : Nat → ClassId) (dI : Nat → Nat → Nat) (x : Nat) (bk : Nat) (tp : Nat) (sh : Nat) (sc : Nat) (he : Nat) (of : Nat) (lc : Nat) (lr : Nat) (la : Nat) (le : Nat) (lw : Nat) (lp : Nat) (ltr : Nat) (stk : Nat) (ed : Nat) (a0 : Int32) (a1 : Int32)  : Met l yX12_redress v_c_redress ({ frames := 3, cells := 0, slots := 0, locals := 120 }) (va_Pc [.ref x, .int a0, .int a1] (fun U => va_P (dC, dI) vwCl [(x, .inr (13, [.ref bk, .ref tp, .ref sh, .ref sc, .ref he, .ref of])), (bk, .inr (1, [.int 0, .int 0, .int 0, .ref lc, .ref lr, .ref la, .ref le, .ref lw, .ref lp, .ref ltr, .ref stk])), (la, .inr (0, [.int 0, .ref ed, .int 0]))] U.heap ∧ va_K (dC, dI) vwCl [] U ∧ ub_NX U)) (va_Qi (S := Unit) (fun r _ => r = 0) (fun _ _ => True) (fun _ => False)) 0 0 (fun _ => False) := by
  refine Met.ofW (cc := cX12_redress) (maxL := 4) (ret := (some .boolean)) (by decide) rfl ?_
  intro p e s m args below meth c s₁ B hml hv
  obtain ⟨rfl, hP, hK, hN⟩ := hv
  have hx := B.exec
  have hb := B.bytes
  have hr := B.returns
  have hts := atoms_spec (ws := v_c_redress) B.pre
  have hown : s.vm.findClass RX12 = some m.cls := findClass_of_methodNamed B.named
  have hlocks := B.notSynchronized
  have hS : va_S (fun _ : Nat => False) s.heap s.heap [] := va_S.rf
  have hl := lv_entry ([.ref x, .int a0, .int a1]) (n := 4) (Nat.le_of_ble_eq_true rfl)
  rw [lg_entry_eq]
  generalize (lg_sl ([.ref x, .int a0, .int a1]) ++ List.replicate (4 - (lg_sl ([.ref x, .int a0, .int a1])).length) Slot.unset).toArray = ls at hl ⊢
  have hl : lv_has ls 4 [(0, .ref x), (1, .int a0), (2, .int a1)] := hl
  refine lv_aload_n hx hb dX12_redress_0 rfl (lv_at hl 0 rfl) ?_
  refine va_get (D := (dC, dI)) (ci := 13) (v := .ref bk) (C := RX12) (T := TX12) (N := 6) hx hb hts iw_c_redress_X12 hown hK hP 0 rfl rfl 0 (by decide) (hts (.fieldLink RX12 10 "UnlikeBoats" "book" "LUnlikeBoats$Book;") (List.mem_of_getElem? (i := 1) rfl)) (fun _ h9 => h9) rfl dX12_redress_1 ?_
  refine lv_iload_n hx hb dX12_redress_4 rfl (lv_at hl 1 rfl) ?_
  refine lv_iload_n hx hb dX12_redress_5 rfl (lv_at hl 2 rfl) ?_
  have hPc := hP.sub (ws' := [(bk, .inr (1, [.int 0, .int 0, .int 0, .ref lc, .ref lr, .ref la, .ref le, .ref lw, .ref lp, .ref ltr, .ref stk])), (la, .inr (0, [.int 0, .ref ed, .int 0]))]) [1, 2] rfl
  have hKc := hK.sub (tys' := []) [] rfl
  refine va_calli (va_runV (As := [.int a0, .int a1]) (rest := []) ⟨hx, hb, hml, hown, hts⟩ (c_isEntered0 l dC dI bk lc lr la le lw lp ltr stk ed a0 a1) (cwV 2 hts g_c_redress_c_isEntered0_146 rfl rfl rfl (by decide +kernel) ⟨Nat.le_of_ble_eq_true rfl, Nat.le_of_ble_eq_true rfl⟩) ⟨fun a U g mk q => by obtain ⟨e0, qP, qK, qN⟩ := q; exact ⟨e0, qP, va_K.moved (u := U) (U := U.calling g mk a) (Vm.Alike.refl U.vm) qK, ub_NX_c qN⟩, va_recv hK hP (ci := 1) (q0 := 1) rfl rfl, fun U hU hW => ⟨rfl, by rw [hU]; exact hPc, va_K.moved hW.alike hKc, ub_NX_w hW hN⟩⟩ rfl rfl hl.1 rfl (lv_room (Nat.le_of_ble_eq_true rfl)) dX12_redress_6 ⟨Nat.le_of_ble_eq_true rfl, Nat.le_of_ble_eq_true rfl⟩) hS (fun _ _ h => h.elim) (fun _ h => h.elim) (fun r1 u2 t H1 locs ht hvm hw hB hz1 hk1 hS => ?_)
  have hP := ub_keep hP hk1
  generalize H1 = H at hP hS ⊢
  obtain rfl : (0 : Int32) = r1 := hw.symm
  refine lv_if_eq (tgt := 24) hx hb dX12_redress_9 (by decide) (fun c3 => ?_) (fun c3 => by first | exact absurd c3 (by decide) | exact absurd (by decide) c3)
  refine lv_iconst (v := 0) hx hb dX12_redress_24 (by decide) ?_
  exact W.zret (v := (0)) hx hb hr rfl (fun t ht hW => ⟨⟨(0), (), rfl, rfl, trivial⟩, hS.F ht⟩) hS.2.2 dX12_redress_25
def A_c_points : List Cond := [.fieldLink RX12 10 "UnlikeBoats" "book" "LUnlikeBoats$Book;", .methodLink RX12 162 yX0_isCounted, .instanceMethod yX0_isCounted, .selects RX0 yX0_isCounted yX0_isCounted, .initialized RX0, .code yX0_isCounted cX0_isCounted 3 (some .boolean), .methodLink RX0 62 yX0_isKnown, .instanceMethod yX0_isKnown, .selects RX0 yX0_isKnown yX0_isKnown, .methodLink RX0 66 yX0_isRace, .instanceMethod yX0_isRace, .selects RX0 yX0_isRace yX0_isRace, .code yX0_isKnown cX0_isKnown 2 (some .boolean), .fieldLink RX0 59 "UnlikeBoats$Book" "now" "I", .initialized RX12, .static yX12_within, .code yX12_within cX12_within 3 (some .boolean), .code yX0_isRace cX0_isRace 2 (some .boolean), .fieldLink RX0 21 "UnlikeBoats$Book" "races" "Ljava/util/ArrayList;", .methodLink RX0 56 yJx4a65c_size_8abf5, .instanceMethod yJx4a65c_size_8abf5, .selects RJx4a65c yJx4a65c_size_8abf5 yJx4a65c_size_8abf5, .initialized RJx4a65c, .code yJx4a65c_size_8abf5 cJx4a65c_size_8abf5 1 (some .int), .fieldLink RJx4a65c 48 "java/util/ArrayList" "size" "I"]
def v_c_points : List Cond := .code yX12_points cX12_points 4 (some .int) :: (A_c_points ++ wsX120 ++ wsX00 ++ wsJx4a65c0)
theorem iw_c_points_X12 : ∀ w ∈ wsX120, w ∈ v_c_points := fun _ h => List.mem_cons_of_mem _ (List.mem_append_left _ (List.mem_append_left _ (List.mem_append_right _ (h))))
theorem iw_c_points_X0 : ∀ w ∈ wsX00, w ∈ v_c_points := fun _ h => List.mem_cons_of_mem _ (List.mem_append_left _ (List.mem_append_right _ (h)))
theorem iw_c_points_Jx4a65c : ∀ w ∈ wsJx4a65c0, w ∈ v_c_points := fun _ h => List.mem_cons_of_mem _ (List.mem_append_right _ (h))
theorem gb_c_points_c_isCounted00 : GoodIn v_c_points (.code yX0_isCounted cX0_isCounted 3 (some .boolean) :: A_c_isCounted0) := (List.forall_mem_cons.mpr ⟨⟨List.mem_of_getElem? (i := 6) rfl, good_of_word rfl⟩, (List.forall_mem_cons.mpr ⟨⟨List.mem_of_getElem? (i := 7) rfl, good_of_word rfl⟩, (List.forall_mem_cons.mpr ⟨⟨List.mem_of_getElem? (i := 8) rfl, good_of_word rfl⟩, (List.forall_mem_cons.mpr ⟨⟨List.mem_of_getElem? (i := 9) rfl, good_of_word rfl⟩, (List.forall_mem_cons.mpr ⟨⟨List.mem_of_getElem? (i := 5) rfl, good_of_word rfl⟩, (List.forall_mem_cons.mpr ⟨⟨List.mem_of_getElem? (i := 10) rfl, good_of_word rfl⟩, (List.forall_mem_cons.mpr ⟨⟨List.mem_of_getElem? (i := 11) rfl, good_of_word rfl⟩, (List.forall_mem_cons.mpr ⟨⟨List.mem_of_getElem? (i := 12) rfl, good_of_word rfl⟩, (List.forall_mem_cons.mpr ⟨⟨List.mem_of_getElem? (i := 13) rfl, good_of_word rfl⟩, (List.forall_mem_cons.mpr ⟨⟨List.mem_of_getElem? (i := 14) rfl, good_of_word rfl⟩, (List.forall_mem_cons.mpr ⟨⟨List.mem_of_getElem? (i := 15) rfl, good_of_word rfl⟩, (List.forall_mem_cons.mpr ⟨⟨List.mem_of_getElem? (i := 16) rfl, good_of_word rfl⟩, (List.forall_mem_cons.mpr ⟨⟨List.mem_of_getElem? (i := 17) rfl, good_of_word rfl⟩, (List.forall_mem_cons.mpr ⟨⟨List.mem_of_getElem? (i := 18) rfl, good_of_word rfl⟩, (List.forall_mem_cons.mpr ⟨⟨List.mem_of_getElem? (i := 19) rfl, good_of_word rfl⟩, (List.forall_mem_cons.mpr ⟨⟨List.mem_of_getElem? (i := 20) rfl, good_of_word rfl⟩, (List.forall_mem_cons.mpr ⟨⟨List.mem_of_getElem? (i := 21) rfl, good_of_word rfl⟩, (List.forall_mem_cons.mpr ⟨⟨List.mem_of_getElem? (i := 22) rfl, good_of_word rfl⟩, (List.forall_mem_cons.mpr ⟨⟨List.mem_of_getElem? (i := 23) rfl, good_of_word rfl⟩, (List.forall_mem_cons.mpr ⟨⟨List.mem_of_getElem? (i := 24) rfl, good_of_word rfl⟩, (List.forall_mem_cons.mpr ⟨⟨List.mem_of_getElem? (i := 25) rfl, good_of_word rfl⟩, (fun _ h => nomatch h)⟩)⟩)⟩)⟩)⟩)⟩)⟩)⟩)⟩)⟩)⟩)⟩)⟩)⟩)⟩)⟩)⟩)⟩)⟩)⟩)⟩)
theorem gb_c_points_c_isCounted0 : GoodIn v_c_points v_c_isCounted0 := (goodIn_ca (goodIn_ca gb_c_points_c_isCounted00 (goodIn_sub iw_c_points_X0 gw_X0)) (goodIn_sub iw_c_points_Jx4a65c gw_Jx4a65c))
theorem g_c_points_c_isCounted0_162 : GoodIn v_c_points (wsV RX12 162 RX0 yX0_isCounted v_c_isCounted0) := goodIn_app (List.forall_mem_cons.mpr ⟨⟨List.mem_of_getElem? (i := 2) rfl, good_of_word rfl⟩, (List.forall_mem_cons.mpr ⟨⟨List.mem_of_getElem? (i := 3) rfl, good_of_word rfl⟩, (List.forall_mem_cons.mpr ⟨⟨List.mem_of_getElem? (i := 4) rfl, good_of_word rfl⟩, (List.forall_mem_cons.mpr ⟨⟨List.mem_of_getElem? (i := 5) rfl, good_of_word rfl⟩, (fun _ h => nomatch h)⟩)⟩)⟩)⟩) gb_c_points_c_isCounted0
set_option maxHeartbeats 4000000 in
set_option maxRecDepth 100000 in
theorem c_points (l : Launch) (dC : Nat → ClassId) (dI : Nat → Nat → Nat) (x : Nat) (bk : Nat) (tp : Nat) (sh : Nat) (sc : Nat) (he : Nat) (of : Nat) (lc : Nat) (lr : Nat) (la : Nat) (le : Nat) (lw : Nat) (lp : Nat) (ltr : Nat) (stk : Nat) (ed : Nat) (a0 : Int32) (a1 : Int32) (a2 : Int32)  : Met l yX12_points v_c_points ({ frames := 3, cells := 0, slots := 0, locals := 120 }) (va_Pc [.ref x, .int a0, .int a1, .int a2] (fun U => va_P (dC, dI) vwCl [(x, .inr (13, [.ref bk, .ref tp, .ref sh, .ref sc, .ref he, .ref of])), (bk, .inr (1, [.int 0, .int 0, .int 0, .ref lc, .ref lr, .ref la, .ref le, .ref lw, .ref lp, .ref ltr, .ref stk])), (la, .inr (0, [.int 0, .ref ed, .int 0]))] U.heap ∧ va_K (dC, dI) vwCl [] U ∧ ub_NX U)) (va_Qi (S := Unit) (fun r _ => r = -1) (fun _ _ => True) (fun _ => False)) 0 0 (fun _ => False) := by
  refine Met.ofW (cc := cX12_points) (maxL := 4) (ret := (some .int)) (by decide) rfl ?_
  intro p e s m args below meth c s₁ B hml hv
  obtain ⟨rfl, hP, hK, hN⟩ := hv
  have hx := B.exec
  have hb := B.bytes
  have hr := B.returns
  have hts := atoms_spec (ws := v_c_points) B.pre
  have hown : s.vm.findClass RX12 = some m.cls := findClass_of_methodNamed B.named
  have hlocks := B.notSynchronized
  have hS : va_S (fun _ : Nat => False) s.heap s.heap [] := va_S.rf
  have hl := lv_entry ([.ref x, .int a0, .int a1, .int a2]) (n := 4) (Nat.le_of_ble_eq_true rfl)
  rw [lg_entry_eq]
  generalize (lg_sl ([.ref x, .int a0, .int a1, .int a2]) ++ List.replicate (4 - (lg_sl ([.ref x, .int a0, .int a1, .int a2])).length) Slot.unset).toArray = ls at hl ⊢
  have hl : lv_has ls 4 [(0, .ref x), (1, .int a0), (2, .int a1), (3, .int a2)] := hl
  refine lv_aload_n hx hb dX12_points_0 rfl (lv_at hl 0 rfl) ?_
  refine va_get (D := (dC, dI)) (ci := 13) (v := .ref bk) (C := RX12) (T := TX12) (N := 6) hx hb hts iw_c_points_X12 hown hK hP 0 rfl rfl 0 (by decide) (hts (.fieldLink RX12 10 "UnlikeBoats" "book" "LUnlikeBoats$Book;") (List.mem_of_getElem? (i := 1) rfl)) (fun _ h9 => h9) rfl dX12_points_1 ?_
  refine lv_iload_n hx hb dX12_points_4 rfl (lv_at hl 1 rfl) ?_
  refine lv_iload_n hx hb dX12_points_5 rfl (lv_at hl 3 rfl) ?_
  have hPc := hP.sub (ws' := [(bk, .inr (1, [.int 0, .int 0, .int 0, .ref lc, .ref lr, .ref la, .ref le, .ref lw, .ref lp, .ref ltr, .ref stk])), (la, .inr (0, [.int 0, .ref ed, .int 0]))]) [1, 2] rfl
  have hKc := hK.sub (tys' := []) [] rfl
  refine va_calli (va_runV (As := [.int a0, .int a2]) (rest := []) ⟨hx, hb, hml, hown, hts⟩ (c_isCounted0 l dC dI bk lc lr la le lw lp ltr stk ed a0 a2) (cwV 2 hts g_c_points_c_isCounted0_162 rfl rfl rfl (by decide +kernel) ⟨Nat.le_of_ble_eq_true rfl, Nat.le_of_ble_eq_true rfl⟩) ⟨fun a U g mk q => by obtain ⟨e0, qP, qK, qN⟩ := q; exact ⟨e0, qP, va_K.moved (u := U) (U := U.calling g mk a) (Vm.Alike.refl U.vm) qK, ub_NX_c qN⟩, va_recv hK hP (ci := 1) (q0 := 1) rfl rfl, fun U hU hW => ⟨rfl, by rw [hU]; exact hPc, va_K.moved hW.alike hKc, ub_NX_w hW hN⟩⟩ rfl rfl hl.1 rfl (lv_room (Nat.le_of_ble_eq_true rfl)) dX12_points_6 ⟨Nat.le_of_ble_eq_true rfl, Nat.le_of_ble_eq_true rfl⟩) hS (fun _ _ h => h.elim) (fun _ h => h.elim) (fun r1 u2 t H1 locs ht hvm hw hB hz1 hk1 hS => ?_)
  have hP := ub_keep hP hk1
  generalize H1 = H at hP hS ⊢
  obtain rfl : (0 : Int32) = r1 := hw.symm
  refine lv_if_eq (tgt := 23) hx hb dX12_points_9 (by decide) (fun c3 => ?_) (fun c3 => by first | exact absurd c3 (by decide) | exact absurd (by decide) c3)
  refine lv_iconst (v := -1) hx hb dX12_points_23 (by decide) ?_
  exact W.iret (v := (-1)) hx hb hr (fun t ht hW => ⟨⟨(-1), (), rfl, rfl, trivial⟩, hS.F ht⟩) hS.2.2 dX12_points_24
def A_c_thrown : List Cond := [.fieldLink RX12 10 "UnlikeBoats" "book" "LUnlikeBoats$Book;", .methodLink RX12 162 yX0_isCounted, .instanceMethod yX0_isCounted, .selects RX0 yX0_isCounted yX0_isCounted, .initialized RX0, .code yX0_isCounted cX0_isCounted 3 (some .boolean), .methodLink RX0 62 yX0_isKnown, .instanceMethod yX0_isKnown, .selects RX0 yX0_isKnown yX0_isKnown, .methodLink RX0 66 yX0_isRace, .instanceMethod yX0_isRace, .selects RX0 yX0_isRace yX0_isRace, .code yX0_isKnown cX0_isKnown 2 (some .boolean), .fieldLink RX0 59 "UnlikeBoats$Book" "now" "I", .initialized RX12, .static yX12_within, .code yX12_within cX12_within 3 (some .boolean), .code yX0_isRace cX0_isRace 2 (some .boolean), .fieldLink RX0 21 "UnlikeBoats$Book" "races" "Ljava/util/ArrayList;", .methodLink RX0 56 yJx4a65c_size_8abf5, .instanceMethod yJx4a65c_size_8abf5, .selects RJx4a65c yJx4a65c_size_8abf5 yJx4a65c_size_8abf5, .initialized RJx4a65c, .code yJx4a65c_size_8abf5 cJx4a65c_size_8abf5 1 (some .int), .fieldLink RJx4a65c 48 "java/util/ArrayList" "size" "I"]
def v_c_thrown : List Cond := .code yX12_thrown cX12_thrown 4 (some .int) :: (A_c_thrown ++ wsX120 ++ wsX00 ++ wsJx4a65c0)
theorem iw_c_thrown_X12 : ∀ w ∈ wsX120, w ∈ v_c_thrown := fun _ h => List.mem_cons_of_mem _ (List.mem_append_left _ (List.mem_append_left _ (List.mem_append_right _ (h))))
theorem iw_c_thrown_X0 : ∀ w ∈ wsX00, w ∈ v_c_thrown := fun _ h => List.mem_cons_of_mem _ (List.mem_append_left _ (List.mem_append_right _ (h)))
theorem iw_c_thrown_Jx4a65c : ∀ w ∈ wsJx4a65c0, w ∈ v_c_thrown := fun _ h => List.mem_cons_of_mem _ (List.mem_append_right _ (h))
theorem gb_c_thrown_c_isCounted00 : GoodIn v_c_thrown (.code yX0_isCounted cX0_isCounted 3 (some .boolean) :: A_c_isCounted0) := (List.forall_mem_cons.mpr ⟨⟨List.mem_of_getElem? (i := 6) rfl, good_of_word rfl⟩, (List.forall_mem_cons.mpr ⟨⟨List.mem_of_getElem? (i := 7) rfl, good_of_word rfl⟩, (List.forall_mem_cons.mpr ⟨⟨List.mem_of_getElem? (i := 8) rfl, good_of_word rfl⟩, (List.forall_mem_cons.mpr ⟨⟨List.mem_of_getElem? (i := 9) rfl, good_of_word rfl⟩, (List.forall_mem_cons.mpr ⟨⟨List.mem_of_getElem? (i := 5) rfl, good_of_word rfl⟩, (List.forall_mem_cons.mpr ⟨⟨List.mem_of_getElem? (i := 10) rfl, good_of_word rfl⟩, (List.forall_mem_cons.mpr ⟨⟨List.mem_of_getElem? (i := 11) rfl, good_of_word rfl⟩, (List.forall_mem_cons.mpr ⟨⟨List.mem_of_getElem? (i := 12) rfl, good_of_word rfl⟩, (List.forall_mem_cons.mpr ⟨⟨List.mem_of_getElem? (i := 13) rfl, good_of_word rfl⟩, (List.forall_mem_cons.mpr ⟨⟨List.mem_of_getElem? (i := 14) rfl, good_of_word rfl⟩, (List.forall_mem_cons.mpr ⟨⟨List.mem_of_getElem? (i := 15) rfl, good_of_word rfl⟩, (List.forall_mem_cons.mpr ⟨⟨List.mem_of_getElem? (i := 16) rfl, good_of_word rfl⟩, (List.forall_mem_cons.mpr ⟨⟨List.mem_of_getElem? (i := 17) rfl, good_of_word rfl⟩, (List.forall_mem_cons.mpr ⟨⟨List.mem_of_getElem? (i := 18) rfl, good_of_word rfl⟩, (List.forall_mem_cons.mpr ⟨⟨List.mem_of_getElem? (i := 19) rfl, good_of_word rfl⟩, (List.forall_mem_cons.mpr ⟨⟨List.mem_of_getElem? (i := 20) rfl, good_of_word rfl⟩, (List.forall_mem_cons.mpr ⟨⟨List.mem_of_getElem? (i := 21) rfl, good_of_word rfl⟩, (List.forall_mem_cons.mpr ⟨⟨List.mem_of_getElem? (i := 22) rfl, good_of_word rfl⟩, (List.forall_mem_cons.mpr ⟨⟨List.mem_of_getElem? (i := 23) rfl, good_of_word rfl⟩, (List.forall_mem_cons.mpr ⟨⟨List.mem_of_getElem? (i := 24) rfl, good_of_word rfl⟩, (List.forall_mem_cons.mpr ⟨⟨List.mem_of_getElem? (i := 25) rfl, good_of_word rfl⟩, (fun _ h => nomatch h)⟩)⟩)⟩)⟩)⟩)⟩)⟩)⟩)⟩)⟩)⟩)⟩)⟩)⟩)⟩)⟩)⟩)⟩)⟩)⟩)⟩)
theorem gb_c_thrown_c_isCounted0 : GoodIn v_c_thrown v_c_isCounted0 := (goodIn_ca (goodIn_ca gb_c_thrown_c_isCounted00 (goodIn_sub iw_c_thrown_X0 gw_X0)) (goodIn_sub iw_c_thrown_Jx4a65c gw_Jx4a65c))
theorem g_c_thrown_c_isCounted0_162 : GoodIn v_c_thrown (wsV RX12 162 RX0 yX0_isCounted v_c_isCounted0) := goodIn_app (List.forall_mem_cons.mpr ⟨⟨List.mem_of_getElem? (i := 2) rfl, good_of_word rfl⟩, (List.forall_mem_cons.mpr ⟨⟨List.mem_of_getElem? (i := 3) rfl, good_of_word rfl⟩, (List.forall_mem_cons.mpr ⟨⟨List.mem_of_getElem? (i := 4) rfl, good_of_word rfl⟩, (List.forall_mem_cons.mpr ⟨⟨List.mem_of_getElem? (i := 5) rfl, good_of_word rfl⟩, (fun _ h => nomatch h)⟩)⟩)⟩)⟩) gb_c_thrown_c_isCounted0
set_option maxHeartbeats 4000000 in
set_option maxRecDepth 100000 in
theorem c_thrown (l : Launch) (dC : Nat → ClassId) (dI : Nat → Nat → Nat) (x : Nat) (bk : Nat) (tp : Nat) (sh : Nat) (sc : Nat) (he : Nat) (of : Nat) (lc : Nat) (lr : Nat) (la : Nat) (le : Nat) (lw : Nat) (lp : Nat) (ltr : Nat) (stk : Nat) (ed : Nat) (a0 : Int32) (a1 : Int32) (a2 : Int32)  : Met l yX12_thrown v_c_thrown ({ frames := 3, cells := 0, slots := 0, locals := 120 }) (va_Pc [.ref x, .int a0, .int a1, .int a2] (fun U => va_P (dC, dI) vwCl [(x, .inr (13, [.ref bk, .ref tp, .ref sh, .ref sc, .ref he, .ref of])), (bk, .inr (1, [.int 0, .int 0, .int 0, .ref lc, .ref lr, .ref la, .ref le, .ref lw, .ref lp, .ref ltr, .ref stk])), (la, .inr (0, [.int 0, .ref ed, .int 0]))] U.heap ∧ va_K (dC, dI) vwCl [] U ∧ ub_NX U)) (va_Qi (S := Unit) (fun r _ => r = -1) (fun _ _ => True) (fun _ => False)) 0 0 (fun _ => False) := by
  refine Met.ofW (cc := cX12_thrown) (maxL := 4) (ret := (some .int)) (by decide) rfl ?_
  intro p e s m args below meth c s₁ B hml hv
  obtain ⟨rfl, hP, hK, hN⟩ := hv
  have hx := B.exec
  have hb := B.bytes
  have hr := B.returns
  have hts := atoms_spec (ws := v_c_thrown) B.pre
  have hown : s.vm.findClass RX12 = some m.cls := findClass_of_methodNamed B.named
  have hlocks := B.notSynchronized
  have hS : va_S (fun _ : Nat => False) s.heap s.heap [] := va_S.rf
  have hl := lv_entry ([.ref x, .int a0, .int a1, .int a2]) (n := 4) (Nat.le_of_ble_eq_true rfl)
  rw [lg_entry_eq]
  generalize (lg_sl ([.ref x, .int a0, .int a1, .int a2]) ++ List.replicate (4 - (lg_sl ([.ref x, .int a0, .int a1, .int a2])).length) Slot.unset).toArray = ls at hl ⊢
  have hl : lv_has ls 4 [(0, .ref x), (1, .int a0), (2, .int a1), (3, .int a2)] := hl
  refine lv_aload_n hx hb dX12_thrown_0 rfl (lv_at hl 0 rfl) ?_
  refine va_get (D := (dC, dI)) (ci := 13) (v := .ref bk) (C := RX12) (T := TX12) (N := 6) hx hb hts iw_c_thrown_X12 hown hK hP 0 rfl rfl 0 (by decide) (hts (.fieldLink RX12 10 "UnlikeBoats" "book" "LUnlikeBoats$Book;") (List.mem_of_getElem? (i := 1) rfl)) (fun _ h9 => h9) rfl dX12_thrown_1 ?_
  refine lv_iload_n hx hb dX12_thrown_4 rfl (lv_at hl 1 rfl) ?_
  refine lv_iload_n hx hb dX12_thrown_5 rfl (lv_at hl 3 rfl) ?_
  have hPc := hP.sub (ws' := [(bk, .inr (1, [.int 0, .int 0, .int 0, .ref lc, .ref lr, .ref la, .ref le, .ref lw, .ref lp, .ref ltr, .ref stk])), (la, .inr (0, [.int 0, .ref ed, .int 0]))]) [1, 2] rfl
  have hKc := hK.sub (tys' := []) [] rfl
  refine va_calli (va_runV (As := [.int a0, .int a2]) (rest := []) ⟨hx, hb, hml, hown, hts⟩ (c_isCounted0 l dC dI bk lc lr la le lw lp ltr stk ed a0 a2) (cwV 2 hts g_c_thrown_c_isCounted0_162 rfl rfl rfl (by decide +kernel) ⟨Nat.le_of_ble_eq_true rfl, Nat.le_of_ble_eq_true rfl⟩) ⟨fun a U g mk q => by obtain ⟨e0, qP, qK, qN⟩ := q; exact ⟨e0, qP, va_K.moved (u := U) (U := U.calling g mk a) (Vm.Alike.refl U.vm) qK, ub_NX_c qN⟩, va_recv hK hP (ci := 1) (q0 := 1) rfl rfl, fun U hU hW => ⟨rfl, by rw [hU]; exact hPc, va_K.moved hW.alike hKc, ub_NX_w hW hN⟩⟩ rfl rfl hl.1 rfl (lv_room (Nat.le_of_ble_eq_true rfl)) dX12_thrown_6 ⟨Nat.le_of_ble_eq_true rfl, Nat.le_of_ble_eq_true rfl⟩) hS (fun _ _ h => h.elim) (fun _ h => h.elim) (fun r1 u2 t H1 locs ht hvm hw hB hz1 hk1 hS => ?_)
  have hP := ub_keep hP hk1
  generalize H1 = H at hP hS ⊢
  obtain rfl : (0 : Int32) = r1 := hw.symm
  refine lv_if_eq (tgt := 23) hx hb dX12_thrown_9 (by decide) (fun c3 => ?_) (fun c3 => by first | exact absurd c3 (by decide) | exact absurd (by decide) c3)
  refine lv_iconst (v := -1) hx hb dX12_thrown_23 (by decide) ?_
  exact W.iret (v := (-1)) hx hb hr (fun t ht hW => ⟨⟨(-1), (), rfl, rfl, trivial⟩, hS.F ht⟩) hS.2.2 dX12_thrown_24
def A_c_total : List Cond := [.fieldLink RX12 10 "UnlikeBoats" "book" "LUnlikeBoats$Book;", .methodLink RX12 66 yX0_isBoat, .instanceMethod yX0_isBoat, .selects RX0 yX0_isBoat yX0_isBoat, .initialized RX0, .code yX0_isBoat cX0_isBoat 2 (some .boolean), .fieldLink RX0 48 "UnlikeBoats$Book" "boats" "I", .initialized RX12, .static yX12_within, .code yX12_within cX12_within 3 (some .boolean)]
def v_c_total : List Cond := .code yX12_total cX12_total 3 (some .int) :: (A_c_total ++ wsX120 ++ wsX00)
theorem iw_c_total_X12 : ∀ w ∈ wsX120, w ∈ v_c_total := fun _ h => List.mem_cons_of_mem _ (List.mem_append_left _ (List.mem_append_right _ (h)))
theorem iw_c_total_X0 : ∀ w ∈ wsX00, w ∈ v_c_total := fun _ h => List.mem_cons_of_mem _ (List.mem_append_right _ (h))
theorem gb_c_total_c_isBoat00 : GoodIn v_c_total (.code yX0_isBoat cX0_isBoat 2 (some .boolean) :: A_c_isBoat0) := (List.forall_mem_cons.mpr ⟨⟨List.mem_of_getElem? (i := 6) rfl, good_of_word rfl⟩, (List.forall_mem_cons.mpr ⟨⟨List.mem_of_getElem? (i := 7) rfl, good_of_word rfl⟩, (List.forall_mem_cons.mpr ⟨⟨List.mem_of_getElem? (i := 8) rfl, good_of_word rfl⟩, (List.forall_mem_cons.mpr ⟨⟨List.mem_of_getElem? (i := 9) rfl, good_of_word rfl⟩, (List.forall_mem_cons.mpr ⟨⟨List.mem_of_getElem? (i := 10) rfl, good_of_word rfl⟩, (fun _ h => nomatch h)⟩)⟩)⟩)⟩)⟩)
theorem gb_c_total_c_isBoat0 : GoodIn v_c_total v_c_isBoat0 := (goodIn_ca gb_c_total_c_isBoat00 (goodIn_sub iw_c_total_X0 gw_X0))
theorem g_c_total_c_isBoat0_66 : GoodIn v_c_total (wsV RX12 66 RX0 yX0_isBoat v_c_isBoat0) := goodIn_app (List.forall_mem_cons.mpr ⟨⟨List.mem_of_getElem? (i := 2) rfl, good_of_word rfl⟩, (List.forall_mem_cons.mpr ⟨⟨List.mem_of_getElem? (i := 3) rfl, good_of_word rfl⟩, (List.forall_mem_cons.mpr ⟨⟨List.mem_of_getElem? (i := 4) rfl, good_of_word rfl⟩, (List.forall_mem_cons.mpr ⟨⟨List.mem_of_getElem? (i := 5) rfl, good_of_word rfl⟩, (fun _ h => nomatch h)⟩)⟩)⟩)⟩) gb_c_total_c_isBoat0
set_option maxHeartbeats 4000000 in
set_option maxRecDepth 100000 in
theorem c_total (l : Launch) (dC : Nat → ClassId) (dI : Nat → Nat → Nat) (x : Nat) (bk : Nat) (tp : Nat) (sh : Nat) (sc : Nat) (he : Nat) (of : Nat) (lc : Nat) (lr : Nat) (la : Nat) (le : Nat) (lw : Nat) (lp : Nat) (ltr : Nat) (stk : Nat) (a0 : Int32) (a1 : Int32)  : Met l yX12_total v_c_total ({ frames := 2, cells := 0, slots := 0, locals := 80 }) (va_Pc [.ref x, .int a0, .int a1] (fun U => va_P (dC, dI) vwCl [(x, .inr (13, [.ref bk, .ref tp, .ref sh, .ref sc, .ref he, .ref of])), (bk, .inr (1, [.int 0, .int 0, .int 0, .ref lc, .ref lr, .ref la, .ref le, .ref lw, .ref lp, .ref ltr, .ref stk]))] U.heap ∧ va_K (dC, dI) vwCl [] U ∧ ub_NX U)) (va_Qi (S := Unit) (fun r _ => r = -1) (fun _ _ => True) (fun _ => False)) 0 0 (fun _ => False) := by
  refine Met.ofW (cc := cX12_total) (maxL := 3) (ret := (some .int)) (by decide) rfl ?_
  intro p e s m args below meth c s₁ B hml hv
  obtain ⟨rfl, hP, hK, hN⟩ := hv
  have hx := B.exec
  have hb := B.bytes
  have hr := B.returns
  have hts := atoms_spec (ws := v_c_total) B.pre
  have hown : s.vm.findClass RX12 = some m.cls := findClass_of_methodNamed B.named
  have hlocks := B.notSynchronized
  have hS : va_S (fun _ : Nat => False) s.heap s.heap [] := va_S.rf
  have hl := lv_entry ([.ref x, .int a0, .int a1]) (n := 3) (Nat.le_of_ble_eq_true rfl)
  rw [lg_entry_eq]
  generalize (lg_sl ([.ref x, .int a0, .int a1]) ++ List.replicate (3 - (lg_sl ([.ref x, .int a0, .int a1])).length) Slot.unset).toArray = ls at hl ⊢
  have hl : lv_has ls 3 [(0, .ref x), (1, .int a0), (2, .int a1)] := hl
  refine lv_aload_n hx hb dX12_total_0 rfl (lv_at hl 0 rfl) ?_
  refine va_get (D := (dC, dI)) (ci := 13) (v := .ref bk) (C := RX12) (T := TX12) (N := 6) hx hb hts iw_c_total_X12 hown hK hP 0 rfl rfl 0 (by decide) (hts (.fieldLink RX12 10 "UnlikeBoats" "book" "LUnlikeBoats$Book;") (List.mem_of_getElem? (i := 1) rfl)) (fun _ h9 => h9) rfl dX12_total_1 ?_
  refine lv_iload_n hx hb dX12_total_4 rfl (lv_at hl 1 rfl) ?_
  have hPc := hP.sub (ws' := [(bk, .inr (1, [.int 0, .int 0, .int 0, .ref lc, .ref lr, .ref la, .ref le, .ref lw, .ref lp, .ref ltr, .ref stk]))]) [1] rfl
  have hKc := hK.sub (tys' := []) [] rfl
  refine va_calli (va_runV (As := [.int a0]) (rest := []) ⟨hx, hb, hml, hown, hts⟩ (c_isBoat0 l dC dI bk lc lr la le lw lp ltr stk a0) (cwV 1 hts g_c_total_c_isBoat0_66 rfl rfl rfl (by decide +kernel) ⟨Nat.le_of_ble_eq_true rfl, Nat.le_of_ble_eq_true rfl⟩) ⟨fun a U g mk q => by obtain ⟨e0, qP, qK, qN⟩ := q; exact ⟨e0, qP, va_K.moved (u := U) (U := U.calling g mk a) (Vm.Alike.refl U.vm) qK, ub_NX_c qN⟩, va_recv hK hP (ci := 1) (q0 := 1) rfl rfl, fun U hU hW => ⟨rfl, by rw [hU]; exact hPc, va_K.moved hW.alike hKc, ub_NX_w hW hN⟩⟩ rfl rfl hl.1 rfl (lv_room (Nat.le_of_ble_eq_true rfl)) dX12_total_5 ⟨Nat.le_of_ble_eq_true rfl, Nat.le_of_ble_eq_true rfl⟩) hS (fun _ _ h => h.elim) (fun _ h => h.elim) (fun r1 u2 t H1 locs ht hvm hw hB hz1 hk1 hS => ?_)
  have hP := ub_keep hP hk1
  generalize H1 = H at hP hS ⊢
  obtain rfl : (0 : Int32) = r1 := hw.symm
  refine lv_if_eq (tgt := 22) hx hb dX12_total_8 (by decide) (fun c3 => ?_) (fun c3 => by first | exact absurd c3 (by decide) | exact absurd (by decide) c3)
  refine lv_iconst (v := -1) hx hb dX12_total_22 (by decide) ?_
  exact W.iret (v := (-1)) hx hb hr (fun t ht hW => ⟨⟨(-1), (), rfl, rfl, trivial⟩, hS.F ht⟩) hS.2.2 dX12_total_23
def A_c_word : List Cond := [.fieldLink RX12 10 "UnlikeBoats" "book" "LUnlikeBoats$Book;", .methodLink RX12 146 yX0_isEntered, .instanceMethod yX0_isEntered, .selects RX0 yX0_isEntered yX0_isEntered, .initialized RX0, .code yX0_isEntered cX0_isEntered 3 (some .boolean), .methodLink RX0 66 yX0_isRace, .instanceMethod yX0_isRace, .selects RX0 yX0_isRace yX0_isRace, .code yX0_isRace cX0_isRace 2 (some .boolean), .fieldLink RX0 21 "UnlikeBoats$Book" "races" "Ljava/util/ArrayList;", .methodLink RX0 56 yJx4a65c_size_8abf5, .instanceMethod yJx4a65c_size_8abf5, .selects RJx4a65c yJx4a65c_size_8abf5 yJx4a65c_size_8abf5, .initialized RJx4a65c, .initialized RX12, .static yX12_within, .code yJx4a65c_size_8abf5 cJx4a65c_size_8abf5 1 (some .int), .fieldLink RJx4a65c 48 "java/util/ArrayList" "size" "I", .code yX12_within cX12_within 3 (some .boolean)]
def v_c_word : List Cond := .code yX12_word cX12_word 9 (some .int) :: (A_c_word ++ wsX120 ++ wsX00 ++ wsJx4a65c0)
theorem iw_c_word_X12 : ∀ w ∈ wsX120, w ∈ v_c_word := fun _ h => List.mem_cons_of_mem _ (List.mem_append_left _ (List.mem_append_left _ (List.mem_append_right _ (h))))
theorem iw_c_word_X0 : ∀ w ∈ wsX00, w ∈ v_c_word := fun _ h => List.mem_cons_of_mem _ (List.mem_append_left _ (List.mem_append_right _ (h)))
theorem iw_c_word_Jx4a65c : ∀ w ∈ wsJx4a65c0, w ∈ v_c_word := fun _ h => List.mem_cons_of_mem _ (List.mem_append_right _ (h))
theorem gb_c_word_c_isEntered00 : GoodIn v_c_word (.code yX0_isEntered cX0_isEntered 3 (some .boolean) :: A_c_isEntered0) := (List.forall_mem_cons.mpr ⟨⟨List.mem_of_getElem? (i := 6) rfl, good_of_word rfl⟩, (List.forall_mem_cons.mpr ⟨⟨List.mem_of_getElem? (i := 7) rfl, good_of_word rfl⟩, (List.forall_mem_cons.mpr ⟨⟨List.mem_of_getElem? (i := 8) rfl, good_of_word rfl⟩, (List.forall_mem_cons.mpr ⟨⟨List.mem_of_getElem? (i := 9) rfl, good_of_word rfl⟩, (List.forall_mem_cons.mpr ⟨⟨List.mem_of_getElem? (i := 5) rfl, good_of_word rfl⟩, (List.forall_mem_cons.mpr ⟨⟨List.mem_of_getElem? (i := 10) rfl, good_of_word rfl⟩, (List.forall_mem_cons.mpr ⟨⟨List.mem_of_getElem? (i := 11) rfl, good_of_word rfl⟩, (List.forall_mem_cons.mpr ⟨⟨List.mem_of_getElem? (i := 12) rfl, good_of_word rfl⟩, (List.forall_mem_cons.mpr ⟨⟨List.mem_of_getElem? (i := 13) rfl, good_of_word rfl⟩, (List.forall_mem_cons.mpr ⟨⟨List.mem_of_getElem? (i := 14) rfl, good_of_word rfl⟩, (List.forall_mem_cons.mpr ⟨⟨List.mem_of_getElem? (i := 15) rfl, good_of_word rfl⟩, (List.forall_mem_cons.mpr ⟨⟨List.mem_of_getElem? (i := 16) rfl, good_of_word rfl⟩, (List.forall_mem_cons.mpr ⟨⟨List.mem_of_getElem? (i := 17) rfl, good_of_word rfl⟩, (List.forall_mem_cons.mpr ⟨⟨List.mem_of_getElem? (i := 18) rfl, good_of_word rfl⟩, (List.forall_mem_cons.mpr ⟨⟨List.mem_of_getElem? (i := 19) rfl, good_of_word rfl⟩, (List.forall_mem_cons.mpr ⟨⟨List.mem_of_getElem? (i := 20) rfl, good_of_word rfl⟩, (fun _ h => nomatch h)⟩)⟩)⟩)⟩)⟩)⟩)⟩)⟩)⟩)⟩)⟩)⟩)⟩)⟩)⟩)⟩)
theorem gb_c_word_c_isEntered0 : GoodIn v_c_word v_c_isEntered0 := (goodIn_ca (goodIn_ca gb_c_word_c_isEntered00 (goodIn_sub iw_c_word_X0 gw_X0)) (goodIn_sub iw_c_word_Jx4a65c gw_Jx4a65c))
theorem g_c_word_c_isEntered0_146 : GoodIn v_c_word (wsV RX12 146 RX0 yX0_isEntered v_c_isEntered0) := goodIn_app (List.forall_mem_cons.mpr ⟨⟨List.mem_of_getElem? (i := 2) rfl, good_of_word rfl⟩, (List.forall_mem_cons.mpr ⟨⟨List.mem_of_getElem? (i := 3) rfl, good_of_word rfl⟩, (List.forall_mem_cons.mpr ⟨⟨List.mem_of_getElem? (i := 4) rfl, good_of_word rfl⟩, (List.forall_mem_cons.mpr ⟨⟨List.mem_of_getElem? (i := 5) rfl, good_of_word rfl⟩, (fun _ h => nomatch h)⟩)⟩)⟩)⟩) gb_c_word_c_isEntered0
set_option maxHeartbeats 4000000 in
set_option maxRecDepth 100000 in
theorem c_word (l : Launch) (dC : Nat → ClassId) (dI : Nat → Nat → Nat) (x : Nat) (bk : Nat) (tp : Nat) (sh : Nat) (sc : Nat) (he : Nat) (of : Nat) (lc : Nat) (lr : Nat) (la : Nat) (le : Nat) (lw : Nat) (lp : Nat) (ltr : Nat) (stk : Nat) (ed : Nat) (a0 : Int32) (a1 : Int32) (a2 : Int32) (a3 : Int32) (a4 : Int32) (a5 : Int32) (a6 : Int32)  : Met l yX12_word v_c_word ({ frames := 3, cells := 0, slots := 0, locals := 120 }) (va_Pc [.ref x, .int a0, .int a1, .int a2, .int a3, .int a4, .int a5, .int a6] (fun U => va_P (dC, dI) vwCl [(x, .inr (13, [.ref bk, .ref tp, .ref sh, .ref sc, .ref he, .ref of])), (bk, .inr (1, [.int 0, .int 0, .int 0, .ref lc, .ref lr, .ref la, .ref le, .ref lw, .ref lp, .ref ltr, .ref stk])), (la, .inr (0, [.int 0, .ref ed, .int 0]))] U.heap ∧ va_K (dC, dI) vwCl [] U ∧ ub_NX U)) (va_Qi (S := Unit) (fun r _ => r = -1) (fun _ _ => True) (fun _ => False)) 0 0 (fun _ => False) := by
  refine Met.ofW (cc := cX12_word) (maxL := 9) (ret := (some .int)) (by decide) rfl ?_
  intro p e s m args below meth c s₁ B hml hv
  obtain ⟨rfl, hP, hK, hN⟩ := hv
  have hx := B.exec
  have hb := B.bytes
  have hr := B.returns
  have hts := atoms_spec (ws := v_c_word) B.pre
  have hown : s.vm.findClass RX12 = some m.cls := findClass_of_methodNamed B.named
  have hlocks := B.notSynchronized
  have hS : va_S (fun _ : Nat => False) s.heap s.heap [] := va_S.rf
  have hl := lv_entry ([.ref x, .int a0, .int a1, .int a2, .int a3, .int a4, .int a5, .int a6]) (n := 9) (Nat.le_of_ble_eq_true rfl)
  rw [lg_entry_eq]
  generalize (lg_sl ([.ref x, .int a0, .int a1, .int a2, .int a3, .int a4, .int a5, .int a6]) ++ List.replicate (9 - (lg_sl ([.ref x, .int a0, .int a1, .int a2, .int a3, .int a4, .int a5, .int a6])).length) Slot.unset).toArray = ls at hl ⊢
  have hl : lv_has ls 9 [(0, .ref x), (1, .int a0), (2, .int a1), (3, .int a2), (4, .int a3), (5, .int a4), (6, .int a5), (7, .int a6)] := hl
  refine lv_aload_n hx hb dX12_word_0 rfl (lv_at hl 0 rfl) ?_
  refine va_get (D := (dC, dI)) (ci := 13) (v := .ref bk) (C := RX12) (T := TX12) (N := 6) hx hb hts iw_c_word_X12 hown hK hP 0 rfl rfl 0 (by decide) (hts (.fieldLink RX12 10 "UnlikeBoats" "book" "LUnlikeBoats$Book;") (List.mem_of_getElem? (i := 1) rfl)) (fun _ h9 => h9) rfl dX12_word_1 ?_
  refine lv_iload_n hx hb dX12_word_4 rfl (lv_at hl 1 rfl) ?_
  refine lv_iload_n hx hb dX12_word_5 rfl (lv_at hl 2 rfl) ?_
  have hPc := hP.sub (ws' := [(bk, .inr (1, [.int 0, .int 0, .int 0, .ref lc, .ref lr, .ref la, .ref le, .ref lw, .ref lp, .ref ltr, .ref stk])), (la, .inr (0, [.int 0, .ref ed, .int 0]))]) [1, 2] rfl
  have hKc := hK.sub (tys' := []) [] rfl
  refine va_calli (va_runV (As := [.int a0, .int a1]) (rest := []) ⟨hx, hb, hml, hown, hts⟩ (c_isEntered0 l dC dI bk lc lr la le lw lp ltr stk ed a0 a1) (cwV 2 hts g_c_word_c_isEntered0_146 rfl rfl rfl (by decide +kernel) ⟨Nat.le_of_ble_eq_true rfl, Nat.le_of_ble_eq_true rfl⟩) ⟨fun a U g mk q => by obtain ⟨e0, qP, qK, qN⟩ := q; exact ⟨e0, qP, va_K.moved (u := U) (U := U.calling g mk a) (Vm.Alike.refl U.vm) qK, ub_NX_c qN⟩, va_recv hK hP (ci := 1) (q0 := 1) rfl rfl, fun U hU hW => ⟨rfl, by rw [hU]; exact hPc, va_K.moved hW.alike hKc, ub_NX_w hW hN⟩⟩ rfl rfl hl.1 rfl (lv_room (Nat.le_of_ble_eq_true rfl)) dX12_word_6 ⟨Nat.le_of_ble_eq_true rfl, Nat.le_of_ble_eq_true rfl⟩) hS (fun _ _ h => h.elim) (fun _ h => h.elim) (fun r1 u2 t H1 locs ht hvm hw hB hz1 hk1 hS => ?_)
  have hP := ub_keep hP hk1
  generalize H1 = H at hP hS ⊢
  obtain rfl : (0 : Int32) = r1 := hw.symm
  refine lv_if_eq (tgt := 22) hx hb dX12_word_9 (by decide) (fun c3 => ?_) (fun c3 => by first | exact absurd c3 (by decide) | exact absurd (by decide) c3)
  refine lv_iconst (v := -1) hx hb dX12_word_22 (by decide) ?_
  exact W.iret (v := (-1)) hx hb hr (fun t ht hW => ⟨⟨(-1), (), rfl, rfl, trivial⟩, hS.F ht⟩) hS.2.2 dX12_word_23
def A_c_protest : List Cond := [.fieldLink RX12 10 "UnlikeBoats" "book" "LUnlikeBoats$Book;", .methodLink RX12 146 yX0_isEntered, .instanceMethod yX0_isEntered, .selects RX0 yX0_isEntered yX0_isEntered, .initialized RX0, .code yX0_isEntered cX0_isEntered 3 (some .boolean), .methodLink RX0 66 yX0_isRace, .instanceMethod yX0_isRace, .selects RX0 yX0_isRace yX0_isRace, .code yX0_isRace cX0_isRace 2 (some .boolean), .fieldLink RX0 21 "UnlikeBoats$Book" "races" "Ljava/util/ArrayList;", .methodLink RX0 56 yJx4a65c_size_8abf5, .instanceMethod yJx4a65c_size_8abf5, .selects RJx4a65c yJx4a65c_size_8abf5 yJx4a65c_size_8abf5, .initialized RJx4a65c, .initialized RX12, .static yX12_within, .code yJx4a65c_size_8abf5 cJx4a65c_size_8abf5 1 (some .int), .fieldLink RJx4a65c 48 "java/util/ArrayList" "size" "I", .code yX12_within cX12_within 3 (some .boolean)]
def v_c_protest : List Cond := .code yX12_protest cX12_protest 5 (some .int) :: (A_c_protest ++ wsX120 ++ wsX00 ++ wsJx4a65c0)
theorem iw_c_protest_X12 : ∀ w ∈ wsX120, w ∈ v_c_protest := fun _ h => List.mem_cons_of_mem _ (List.mem_append_left _ (List.mem_append_left _ (List.mem_append_right _ (h))))
theorem iw_c_protest_X0 : ∀ w ∈ wsX00, w ∈ v_c_protest := fun _ h => List.mem_cons_of_mem _ (List.mem_append_left _ (List.mem_append_right _ (h)))
theorem iw_c_protest_Jx4a65c : ∀ w ∈ wsJx4a65c0, w ∈ v_c_protest := fun _ h => List.mem_cons_of_mem _ (List.mem_append_right _ (h))
theorem gb_c_protest_c_isEntered00 : GoodIn v_c_protest (.code yX0_isEntered cX0_isEntered 3 (some .boolean) :: A_c_isEntered0) := (List.forall_mem_cons.mpr ⟨⟨List.mem_of_getElem? (i := 6) rfl, good_of_word rfl⟩, (List.forall_mem_cons.mpr ⟨⟨List.mem_of_getElem? (i := 7) rfl, good_of_word rfl⟩, (List.forall_mem_cons.mpr ⟨⟨List.mem_of_getElem? (i := 8) rfl, good_of_word rfl⟩, (List.forall_mem_cons.mpr ⟨⟨List.mem_of_getElem? (i := 9) rfl, good_of_word rfl⟩, (List.forall_mem_cons.mpr ⟨⟨List.mem_of_getElem? (i := 5) rfl, good_of_word rfl⟩, (List.forall_mem_cons.mpr ⟨⟨List.mem_of_getElem? (i := 10) rfl, good_of_word rfl⟩, (List.forall_mem_cons.mpr ⟨⟨List.mem_of_getElem? (i := 11) rfl, good_of_word rfl⟩, (List.forall_mem_cons.mpr ⟨⟨List.mem_of_getElem? (i := 12) rfl, good_of_word rfl⟩, (List.forall_mem_cons.mpr ⟨⟨List.mem_of_getElem? (i := 13) rfl, good_of_word rfl⟩, (List.forall_mem_cons.mpr ⟨⟨List.mem_of_getElem? (i := 14) rfl, good_of_word rfl⟩, (List.forall_mem_cons.mpr ⟨⟨List.mem_of_getElem? (i := 15) rfl, good_of_word rfl⟩, (List.forall_mem_cons.mpr ⟨⟨List.mem_of_getElem? (i := 16) rfl, good_of_word rfl⟩, (List.forall_mem_cons.mpr ⟨⟨List.mem_of_getElem? (i := 17) rfl, good_of_word rfl⟩, (List.forall_mem_cons.mpr ⟨⟨List.mem_of_getElem? (i := 18) rfl, good_of_word rfl⟩, (List.forall_mem_cons.mpr ⟨⟨List.mem_of_getElem? (i := 19) rfl, good_of_word rfl⟩, (List.forall_mem_cons.mpr ⟨⟨List.mem_of_getElem? (i := 20) rfl, good_of_word rfl⟩, (fun _ h => nomatch h)⟩)⟩)⟩)⟩)⟩)⟩)⟩)⟩)⟩)⟩)⟩)⟩)⟩)⟩)⟩)⟩)
theorem gb_c_protest_c_isEntered0 : GoodIn v_c_protest v_c_isEntered0 := (goodIn_ca (goodIn_ca gb_c_protest_c_isEntered00 (goodIn_sub iw_c_protest_X0 gw_X0)) (goodIn_sub iw_c_protest_Jx4a65c gw_Jx4a65c))
theorem g_c_protest_c_isEntered0_146 : GoodIn v_c_protest (wsV RX12 146 RX0 yX0_isEntered v_c_isEntered0) := goodIn_app (List.forall_mem_cons.mpr ⟨⟨List.mem_of_getElem? (i := 2) rfl, good_of_word rfl⟩, (List.forall_mem_cons.mpr ⟨⟨List.mem_of_getElem? (i := 3) rfl, good_of_word rfl⟩, (List.forall_mem_cons.mpr ⟨⟨List.mem_of_getElem? (i := 4) rfl, good_of_word rfl⟩, (List.forall_mem_cons.mpr ⟨⟨List.mem_of_getElem? (i := 5) rfl, good_of_word rfl⟩, (fun _ h => nomatch h)⟩)⟩)⟩)⟩) gb_c_protest_c_isEntered0
set_option maxHeartbeats 4000000 in
set_option maxRecDepth 100000 in
theorem c_protest (l : Launch) (dC : Nat → ClassId) (dI : Nat → Nat → Nat) (x : Nat) (bk : Nat) (tp : Nat) (sh : Nat) (sc : Nat) (he : Nat) (of : Nat) (lc : Nat) (lr : Nat) (la : Nat) (le : Nat) (lw : Nat) (lp : Nat) (ltr : Nat) (stk : Nat) (ed : Nat) (a0 : Int32) (a1 : Int32) (a2 : Int32) (a3 : Int32)  : Met l yX12_protest v_c_protest ({ frames := 3, cells := 0, slots := 0, locals := 120 }) (va_Pc [.ref x, .int a0, .int a1, .int a2, .int a3] (fun U => va_P (dC, dI) vwCl [(x, .inr (13, [.ref bk, .ref tp, .ref sh, .ref sc, .ref he, .ref of])), (bk, .inr (1, [.int 0, .int 0, .int 0, .ref lc, .ref lr, .ref la, .ref le, .ref lw, .ref lp, .ref ltr, .ref stk])), (la, .inr (0, [.int 0, .ref ed, .int 0]))] U.heap ∧ va_K (dC, dI) vwCl [] U ∧ ub_NX U)) (va_Qi (S := Unit) (fun r _ => r = -1) (fun _ _ => True) (fun _ => False)) 0 0 (fun _ => False) := by
  refine Met.ofW (cc := cX12_protest) (maxL := 5) (ret := (some .int)) (by decide) rfl ?_
  intro p e s m args below meth c s₁ B hml hv
  obtain ⟨rfl, hP, hK, hN⟩ := hv
  have hx := B.exec
  have hb := B.bytes
  have hr := B.returns
  have hts := atoms_spec (ws := v_c_protest) B.pre
  have hown : s.vm.findClass RX12 = some m.cls := findClass_of_methodNamed B.named
  have hlocks := B.notSynchronized
  have hS : va_S (fun _ : Nat => False) s.heap s.heap [] := va_S.rf
  have hl := lv_entry ([.ref x, .int a0, .int a1, .int a2, .int a3]) (n := 5) (Nat.le_of_ble_eq_true rfl)
  rw [lg_entry_eq]
  generalize (lg_sl ([.ref x, .int a0, .int a1, .int a2, .int a3]) ++ List.replicate (5 - (lg_sl ([.ref x, .int a0, .int a1, .int a2, .int a3])).length) Slot.unset).toArray = ls at hl ⊢
  have hl : lv_has ls 5 [(0, .ref x), (1, .int a0), (2, .int a1), (3, .int a2), (4, .int a3)] := hl
  refine lv_aload_n hx hb dX12_protest_0 rfl (lv_at hl 0 rfl) ?_
  refine va_get (D := (dC, dI)) (ci := 13) (v := .ref bk) (C := RX12) (T := TX12) (N := 6) hx hb hts iw_c_protest_X12 hown hK hP 0 rfl rfl 0 (by decide) (hts (.fieldLink RX12 10 "UnlikeBoats" "book" "LUnlikeBoats$Book;") (List.mem_of_getElem? (i := 1) rfl)) (fun _ h9 => h9) rfl dX12_protest_1 ?_
  refine lv_iload_n hx hb dX12_protest_4 rfl (lv_at hl 1 rfl) ?_
  refine lv_iload_n hx hb dX12_protest_5 rfl (lv_at hl 2 rfl) ?_
  have hPc := hP.sub (ws' := [(bk, .inr (1, [.int 0, .int 0, .int 0, .ref lc, .ref lr, .ref la, .ref le, .ref lw, .ref lp, .ref ltr, .ref stk])), (la, .inr (0, [.int 0, .ref ed, .int 0]))]) [1, 2] rfl
  have hKc := hK.sub (tys' := []) [] rfl
  refine va_calli (va_runV (As := [.int a0, .int a1]) (rest := []) ⟨hx, hb, hml, hown, hts⟩ (c_isEntered0 l dC dI bk lc lr la le lw lp ltr stk ed a0 a1) (cwV 2 hts g_c_protest_c_isEntered0_146 rfl rfl rfl (by decide +kernel) ⟨Nat.le_of_ble_eq_true rfl, Nat.le_of_ble_eq_true rfl⟩) ⟨fun a U g mk q => by obtain ⟨e0, qP, qK, qN⟩ := q; exact ⟨e0, qP, va_K.moved (u := U) (U := U.calling g mk a) (Vm.Alike.refl U.vm) qK, ub_NX_c qN⟩, va_recv hK hP (ci := 1) (q0 := 1) rfl rfl, fun U hU hW => ⟨rfl, by rw [hU]; exact hPc, va_K.moved hW.alike hKc, ub_NX_w hW hN⟩⟩ rfl rfl hl.1 rfl (lv_room (Nat.le_of_ble_eq_true rfl)) dX12_protest_6 ⟨Nat.le_of_ble_eq_true rfl, Nat.le_of_ble_eq_true rfl⟩) hS (fun _ _ h => h.elim) (fun _ h => h.elim) (fun r1 u2 t H1 locs ht hvm hw hB hz1 hk1 hS => ?_)
  have hP := ub_keep hP hk1
  generalize H1 = H at hP hS ⊢
  obtain rfl : (0 : Int32) = r1 := hw.symm
  refine lv_if_eq (tgt := 29) hx hb dX12_protest_9 (by decide) (fun c3 => ?_) (fun c3 => by first | exact absurd c3 (by decide) | exact absurd (by decide) c3)
  refine lv_iconst (v := -1) hx hb dX12_protest_29 (by decide) ?_
  exact W.iret (v := (-1)) hx hb hr (fun t ht hW => ⟨⟨(-1), (), rfl, rfl, trivial⟩, hS.F ht⟩) hS.2.2 dX12_protest_30
def A_c_states : List Cond := [.fieldLink RX12 10 "UnlikeBoats" "book" "LUnlikeBoats$Book;", .methodLink RX12 226 yX0_isProtested, .instanceMethod yX0_isProtested, .selects RX0 yX0_isProtested yX0_isProtested, .initialized RX0, .code yX0_isProtested cX0_isProtested 3 (some .boolean), .methodLink RX0 62 yX0_isKnown, .instanceMethod yX0_isKnown, .selects RX0 yX0_isKnown yX0_isKnown, .fieldLink RX0 30 "UnlikeBoats$Book" "protests" "Ljava/util/ArrayList;", .methodLink RX0 56 yJx4a65c_size_8abf5, .instanceMethod yJx4a65c_size_8abf5, .selects RJx4a65c yJx4a65c_size_8abf5 yJx4a65c_size_8abf5, .initialized RJx4a65c, .initialized RX12, .static yX12_within, .code yX0_isKnown cX0_isKnown 2 (some .boolean), .fieldLink RX0 59 "UnlikeBoats$Book" "now" "I", .code yX12_within cX12_within 3 (some .boolean), .code yJx4a65c_size_8abf5 cJx4a65c_size_8abf5 1 (some .int), .fieldLink RJx4a65c 48 "java/util/ArrayList" "size" "I"]
def v_c_states : List Cond := .code yX12_states cX12_states 4 (some .int) :: (A_c_states ++ wsX120 ++ wsX00 ++ wsJx4a65c0)
theorem iw_c_states_X12 : ∀ w ∈ wsX120, w ∈ v_c_states := fun _ h => List.mem_cons_of_mem _ (List.mem_append_left _ (List.mem_append_left _ (List.mem_append_right _ (h))))
theorem iw_c_states_X0 : ∀ w ∈ wsX00, w ∈ v_c_states := fun _ h => List.mem_cons_of_mem _ (List.mem_append_left _ (List.mem_append_right _ (h)))
theorem iw_c_states_Jx4a65c : ∀ w ∈ wsJx4a65c0, w ∈ v_c_states := fun _ h => List.mem_cons_of_mem _ (List.mem_append_right _ (h))
theorem gb_c_states_c_isProtested00 : GoodIn v_c_states (.code yX0_isProtested cX0_isProtested 3 (some .boolean) :: A_c_isProtested0) := (List.forall_mem_cons.mpr ⟨⟨List.mem_of_getElem? (i := 6) rfl, good_of_word rfl⟩, (List.forall_mem_cons.mpr ⟨⟨List.mem_of_getElem? (i := 7) rfl, good_of_word rfl⟩, (List.forall_mem_cons.mpr ⟨⟨List.mem_of_getElem? (i := 8) rfl, good_of_word rfl⟩, (List.forall_mem_cons.mpr ⟨⟨List.mem_of_getElem? (i := 9) rfl, good_of_word rfl⟩, (List.forall_mem_cons.mpr ⟨⟨List.mem_of_getElem? (i := 5) rfl, good_of_word rfl⟩, (List.forall_mem_cons.mpr ⟨⟨List.mem_of_getElem? (i := 10) rfl, good_of_word rfl⟩, (List.forall_mem_cons.mpr ⟨⟨List.mem_of_getElem? (i := 11) rfl, good_of_word rfl⟩, (List.forall_mem_cons.mpr ⟨⟨List.mem_of_getElem? (i := 12) rfl, good_of_word rfl⟩, (List.forall_mem_cons.mpr ⟨⟨List.mem_of_getElem? (i := 13) rfl, good_of_word rfl⟩, (List.forall_mem_cons.mpr ⟨⟨List.mem_of_getElem? (i := 14) rfl, good_of_word rfl⟩, (List.forall_mem_cons.mpr ⟨⟨List.mem_of_getElem? (i := 15) rfl, good_of_word rfl⟩, (List.forall_mem_cons.mpr ⟨⟨List.mem_of_getElem? (i := 16) rfl, good_of_word rfl⟩, (List.forall_mem_cons.mpr ⟨⟨List.mem_of_getElem? (i := 17) rfl, good_of_word rfl⟩, (List.forall_mem_cons.mpr ⟨⟨List.mem_of_getElem? (i := 18) rfl, good_of_word rfl⟩, (List.forall_mem_cons.mpr ⟨⟨List.mem_of_getElem? (i := 19) rfl, good_of_word rfl⟩, (List.forall_mem_cons.mpr ⟨⟨List.mem_of_getElem? (i := 20) rfl, good_of_word rfl⟩, (List.forall_mem_cons.mpr ⟨⟨List.mem_of_getElem? (i := 21) rfl, good_of_word rfl⟩, (fun _ h => nomatch h)⟩)⟩)⟩)⟩)⟩)⟩)⟩)⟩)⟩)⟩)⟩)⟩)⟩)⟩)⟩)⟩)⟩)
theorem gb_c_states_c_isProtested0 : GoodIn v_c_states v_c_isProtested0 := (goodIn_ca (goodIn_ca gb_c_states_c_isProtested00 (goodIn_sub iw_c_states_X0 gw_X0)) (goodIn_sub iw_c_states_Jx4a65c gw_Jx4a65c))
theorem g_c_states_c_isProtested0_226 : GoodIn v_c_states (wsV RX12 226 RX0 yX0_isProtested v_c_isProtested0) := goodIn_app (List.forall_mem_cons.mpr ⟨⟨List.mem_of_getElem? (i := 2) rfl, good_of_word rfl⟩, (List.forall_mem_cons.mpr ⟨⟨List.mem_of_getElem? (i := 3) rfl, good_of_word rfl⟩, (List.forall_mem_cons.mpr ⟨⟨List.mem_of_getElem? (i := 4) rfl, good_of_word rfl⟩, (List.forall_mem_cons.mpr ⟨⟨List.mem_of_getElem? (i := 5) rfl, good_of_word rfl⟩, (fun _ h => nomatch h)⟩)⟩)⟩)⟩) gb_c_states_c_isProtested0
set_option maxHeartbeats 4000000 in
set_option maxRecDepth 100000 in
theorem c_states (l : Launch) (dC : Nat → ClassId) (dI : Nat → Nat → Nat) (x : Nat) (bk : Nat) (tp : Nat) (sh : Nat) (sc : Nat) (he : Nat) (of : Nat) (lc : Nat) (lr : Nat) (la : Nat) (le : Nat) (lw : Nat) (lp : Nat) (ltr : Nat) (stk : Nat) (ed : Nat) (a0 : Int32) (a1 : Int32) (a2 : Int32)  : Met l yX12_states v_c_states ({ frames := 3, cells := 0, slots := 0, locals := 120 }) (va_Pc [.ref x, .int a0, .int a1, .int a2] (fun U => va_P (dC, dI) vwCl [(x, .inr (13, [.ref bk, .ref tp, .ref sh, .ref sc, .ref he, .ref of])), (bk, .inr (1, [.int 0, .int 0, .int 0, .ref lc, .ref lr, .ref la, .ref le, .ref lw, .ref lp, .ref ltr, .ref stk])), (lp, .inr (0, [.int 0, .ref ed, .int 0]))] U.heap ∧ va_K (dC, dI) vwCl [] U ∧ ub_NX U)) (va_Qi (S := Unit) (fun r _ => r = -1) (fun _ _ => True) (fun _ => False)) 0 0 (fun _ => False) := by
  refine Met.ofW (cc := cX12_states) (maxL := 4) (ret := (some .int)) (by decide) rfl ?_
  intro p e s m args below meth c s₁ B hml hv
  obtain ⟨rfl, hP, hK, hN⟩ := hv
  have hx := B.exec
  have hb := B.bytes
  have hr := B.returns
  have hts := atoms_spec (ws := v_c_states) B.pre
  have hown : s.vm.findClass RX12 = some m.cls := findClass_of_methodNamed B.named
  have hlocks := B.notSynchronized
  have hS : va_S (fun _ : Nat => False) s.heap s.heap [] := va_S.rf
  have hl := lv_entry ([.ref x, .int a0, .int a1, .int a2]) (n := 4) (Nat.le_of_ble_eq_true rfl)
  rw [lg_entry_eq]
  generalize (lg_sl ([.ref x, .int a0, .int a1, .int a2]) ++ List.replicate (4 - (lg_sl ([.ref x, .int a0, .int a1, .int a2])).length) Slot.unset).toArray = ls at hl ⊢
  have hl : lv_has ls 4 [(0, .ref x), (1, .int a0), (2, .int a1), (3, .int a2)] := hl
  refine lv_aload_n hx hb dX12_states_0 rfl (lv_at hl 0 rfl) ?_
  refine va_get (D := (dC, dI)) (ci := 13) (v := .ref bk) (C := RX12) (T := TX12) (N := 6) hx hb hts iw_c_states_X12 hown hK hP 0 rfl rfl 0 (by decide) (hts (.fieldLink RX12 10 "UnlikeBoats" "book" "LUnlikeBoats$Book;") (List.mem_of_getElem? (i := 1) rfl)) (fun _ h9 => h9) rfl dX12_states_1 ?_
  refine lv_iload_n hx hb dX12_states_4 rfl (lv_at hl 1 rfl) ?_
  refine lv_iload_n hx hb dX12_states_5 rfl (lv_at hl 3 rfl) ?_
  have hPc := hP.sub (ws' := [(bk, .inr (1, [.int 0, .int 0, .int 0, .ref lc, .ref lr, .ref la, .ref le, .ref lw, .ref lp, .ref ltr, .ref stk])), (lp, .inr (0, [.int 0, .ref ed, .int 0]))]) [1, 2] rfl
  have hKc := hK.sub (tys' := []) [] rfl
  refine va_calli (va_runV (As := [.int a0, .int a2]) (rest := []) ⟨hx, hb, hml, hown, hts⟩ (c_isProtested0 l dC dI bk lc lr la le lw lp ltr stk ed a0 a2) (cwV 2 hts g_c_states_c_isProtested0_226 rfl rfl rfl (by decide +kernel) ⟨Nat.le_of_ble_eq_true rfl, Nat.le_of_ble_eq_true rfl⟩) ⟨fun a U g mk q => by obtain ⟨e0, qP, qK, qN⟩ := q; exact ⟨e0, qP, va_K.moved (u := U) (U := U.calling g mk a) (Vm.Alike.refl U.vm) qK, ub_NX_c qN⟩, va_recv hK hP (ci := 1) (q0 := 1) rfl rfl, fun U hU hW => ⟨rfl, by rw [hU]; exact hPc, va_K.moved hW.alike hKc, ub_NX_w hW hN⟩⟩ rfl rfl hl.1 rfl (lv_room (Nat.le_of_ble_eq_true rfl)) dX12_states_6 ⟨Nat.le_of_ble_eq_true rfl, Nat.le_of_ble_eq_true rfl⟩) hS (fun _ _ h => h.elim) (fun _ h => h.elim) (fun r1 u2 t H1 locs ht hvm hw hB hz1 hk1 hS => ?_)
  have hP := ub_keep hP hk1
  generalize H1 = H at hP hS ⊢
  obtain rfl : (0 : Int32) = r1 := hw.symm
  refine lv_if_eq (tgt := 21) hx hb dX12_states_9 (by decide) (fun c3 => ?_) (fun c3 => by first | exact absurd c3 (by decide) | exact absurd (by decide) c3)
  refine lv_iconst (v := -1) hx hb dX12_states_21 (by decide) ?_
  exact W.iret (v := (-1)) hx hb hr (fun t ht hW => ⟨⟨(-1), (), rfl, rfl, trivial⟩, hS.F ht⟩) hS.2.2 dX12_states_22
def A_c_finding : List Cond := [.fieldLink RX12 10 "UnlikeBoats" "book" "LUnlikeBoats$Book;", .methodLink RX12 226 yX0_isProtested, .instanceMethod yX0_isProtested, .selects RX0 yX0_isProtested yX0_isProtested, .initialized RX0, .code yX0_isProtested cX0_isProtested 3 (some .boolean), .methodLink RX0 62 yX0_isKnown, .instanceMethod yX0_isKnown, .selects RX0 yX0_isKnown yX0_isKnown, .fieldLink RX0 30 "UnlikeBoats$Book" "protests" "Ljava/util/ArrayList;", .methodLink RX0 56 yJx4a65c_size_8abf5, .instanceMethod yJx4a65c_size_8abf5, .selects RJx4a65c yJx4a65c_size_8abf5 yJx4a65c_size_8abf5, .initialized RJx4a65c, .initialized RX12, .static yX12_within, .code yX0_isKnown cX0_isKnown 2 (some .boolean), .fieldLink RX0 59 "UnlikeBoats$Book" "now" "I", .code yX12_within cX12_within 3 (some .boolean), .code yJx4a65c_size_8abf5 cJx4a65c_size_8abf5 1 (some .int), .fieldLink RJx4a65c 48 "java/util/ArrayList" "size" "I"]
def v_c_finding : List Cond := .code yX12_finding cX12_finding 4 (some .int) :: (A_c_finding ++ wsX120 ++ wsX00 ++ wsJx4a65c0)
theorem iw_c_finding_X12 : ∀ w ∈ wsX120, w ∈ v_c_finding := fun _ h => List.mem_cons_of_mem _ (List.mem_append_left _ (List.mem_append_left _ (List.mem_append_right _ (h))))
theorem iw_c_finding_X0 : ∀ w ∈ wsX00, w ∈ v_c_finding := fun _ h => List.mem_cons_of_mem _ (List.mem_append_left _ (List.mem_append_right _ (h)))
theorem iw_c_finding_Jx4a65c : ∀ w ∈ wsJx4a65c0, w ∈ v_c_finding := fun _ h => List.mem_cons_of_mem _ (List.mem_append_right _ (h))
theorem gb_c_finding_c_isProtested00 : GoodIn v_c_finding (.code yX0_isProtested cX0_isProtested 3 (some .boolean) :: A_c_isProtested0) := (List.forall_mem_cons.mpr ⟨⟨List.mem_of_getElem? (i := 6) rfl, good_of_word rfl⟩, (List.forall_mem_cons.mpr ⟨⟨List.mem_of_getElem? (i := 7) rfl, good_of_word rfl⟩, (List.forall_mem_cons.mpr ⟨⟨List.mem_of_getElem? (i := 8) rfl, good_of_word rfl⟩, (List.forall_mem_cons.mpr ⟨⟨List.mem_of_getElem? (i := 9) rfl, good_of_word rfl⟩, (List.forall_mem_cons.mpr ⟨⟨List.mem_of_getElem? (i := 5) rfl, good_of_word rfl⟩, (List.forall_mem_cons.mpr ⟨⟨List.mem_of_getElem? (i := 10) rfl, good_of_word rfl⟩, (List.forall_mem_cons.mpr ⟨⟨List.mem_of_getElem? (i := 11) rfl, good_of_word rfl⟩, (List.forall_mem_cons.mpr ⟨⟨List.mem_of_getElem? (i := 12) rfl, good_of_word rfl⟩, (List.forall_mem_cons.mpr ⟨⟨List.mem_of_getElem? (i := 13) rfl, good_of_word rfl⟩, (List.forall_mem_cons.mpr ⟨⟨List.mem_of_getElem? (i := 14) rfl, good_of_word rfl⟩, (List.forall_mem_cons.mpr ⟨⟨List.mem_of_getElem? (i := 15) rfl, good_of_word rfl⟩, (List.forall_mem_cons.mpr ⟨⟨List.mem_of_getElem? (i := 16) rfl, good_of_word rfl⟩, (List.forall_mem_cons.mpr ⟨⟨List.mem_of_getElem? (i := 17) rfl, good_of_word rfl⟩, (List.forall_mem_cons.mpr ⟨⟨List.mem_of_getElem? (i := 18) rfl, good_of_word rfl⟩, (List.forall_mem_cons.mpr ⟨⟨List.mem_of_getElem? (i := 19) rfl, good_of_word rfl⟩, (List.forall_mem_cons.mpr ⟨⟨List.mem_of_getElem? (i := 20) rfl, good_of_word rfl⟩, (List.forall_mem_cons.mpr ⟨⟨List.mem_of_getElem? (i := 21) rfl, good_of_word rfl⟩, (fun _ h => nomatch h)⟩)⟩)⟩)⟩)⟩)⟩)⟩)⟩)⟩)⟩)⟩)⟩)⟩)⟩)⟩)⟩)⟩)
theorem gb_c_finding_c_isProtested0 : GoodIn v_c_finding v_c_isProtested0 := (goodIn_ca (goodIn_ca gb_c_finding_c_isProtested00 (goodIn_sub iw_c_finding_X0 gw_X0)) (goodIn_sub iw_c_finding_Jx4a65c gw_Jx4a65c))
theorem g_c_finding_c_isProtested0_226 : GoodIn v_c_finding (wsV RX12 226 RX0 yX0_isProtested v_c_isProtested0) := goodIn_app (List.forall_mem_cons.mpr ⟨⟨List.mem_of_getElem? (i := 2) rfl, good_of_word rfl⟩, (List.forall_mem_cons.mpr ⟨⟨List.mem_of_getElem? (i := 3) rfl, good_of_word rfl⟩, (List.forall_mem_cons.mpr ⟨⟨List.mem_of_getElem? (i := 4) rfl, good_of_word rfl⟩, (List.forall_mem_cons.mpr ⟨⟨List.mem_of_getElem? (i := 5) rfl, good_of_word rfl⟩, (fun _ h => nomatch h)⟩)⟩)⟩)⟩) gb_c_finding_c_isProtested0
set_option maxHeartbeats 4000000 in
set_option maxRecDepth 100000 in
theorem c_finding (l : Launch) (dC : Nat → ClassId) (dI : Nat → Nat → Nat) (x : Nat) (bk : Nat) (tp : Nat) (sh : Nat) (sc : Nat) (he : Nat) (of : Nat) (lc : Nat) (lr : Nat) (la : Nat) (le : Nat) (lw : Nat) (lp : Nat) (ltr : Nat) (stk : Nat) (ed : Nat) (a0 : Int32) (a1 : Int32) (a2 : Int32)  : Met l yX12_finding v_c_finding ({ frames := 3, cells := 0, slots := 0, locals := 120 }) (va_Pc [.ref x, .int a0, .int a1, .int a2] (fun U => va_P (dC, dI) vwCl [(x, .inr (13, [.ref bk, .ref tp, .ref sh, .ref sc, .ref he, .ref of])), (bk, .inr (1, [.int 0, .int 0, .int 0, .ref lc, .ref lr, .ref la, .ref le, .ref lw, .ref lp, .ref ltr, .ref stk])), (lp, .inr (0, [.int 0, .ref ed, .int 0]))] U.heap ∧ va_K (dC, dI) vwCl [] U ∧ ub_NX U)) (va_Qi (S := Unit) (fun r _ => r = -1) (fun _ _ => True) (fun _ => False)) 0 0 (fun _ => False) := by
  refine Met.ofW (cc := cX12_finding) (maxL := 4) (ret := (some .int)) (by decide) rfl ?_
  intro p e s m args below meth c s₁ B hml hv
  obtain ⟨rfl, hP, hK, hN⟩ := hv
  have hx := B.exec
  have hb := B.bytes
  have hr := B.returns
  have hts := atoms_spec (ws := v_c_finding) B.pre
  have hown : s.vm.findClass RX12 = some m.cls := findClass_of_methodNamed B.named
  have hlocks := B.notSynchronized
  have hS : va_S (fun _ : Nat => False) s.heap s.heap [] := va_S.rf
  have hl := lv_entry ([.ref x, .int a0, .int a1, .int a2]) (n := 4) (Nat.le_of_ble_eq_true rfl)
  rw [lg_entry_eq]
  generalize (lg_sl ([.ref x, .int a0, .int a1, .int a2]) ++ List.replicate (4 - (lg_sl ([.ref x, .int a0, .int a1, .int a2])).length) Slot.unset).toArray = ls at hl ⊢
  have hl : lv_has ls 4 [(0, .ref x), (1, .int a0), (2, .int a1), (3, .int a2)] := hl
  refine lv_aload_n hx hb dX12_finding_0 rfl (lv_at hl 0 rfl) ?_
  refine va_get (D := (dC, dI)) (ci := 13) (v := .ref bk) (C := RX12) (T := TX12) (N := 6) hx hb hts iw_c_finding_X12 hown hK hP 0 rfl rfl 0 (by decide) (hts (.fieldLink RX12 10 "UnlikeBoats" "book" "LUnlikeBoats$Book;") (List.mem_of_getElem? (i := 1) rfl)) (fun _ h9 => h9) rfl dX12_finding_1 ?_
  refine lv_iload_n hx hb dX12_finding_4 rfl (lv_at hl 1 rfl) ?_
  refine lv_iload_n hx hb dX12_finding_5 rfl (lv_at hl 3 rfl) ?_
  have hPc := hP.sub (ws' := [(bk, .inr (1, [.int 0, .int 0, .int 0, .ref lc, .ref lr, .ref la, .ref le, .ref lw, .ref lp, .ref ltr, .ref stk])), (lp, .inr (0, [.int 0, .ref ed, .int 0]))]) [1, 2] rfl
  have hKc := hK.sub (tys' := []) [] rfl
  refine va_calli (va_runV (As := [.int a0, .int a2]) (rest := []) ⟨hx, hb, hml, hown, hts⟩ (c_isProtested0 l dC dI bk lc lr la le lw lp ltr stk ed a0 a2) (cwV 2 hts g_c_finding_c_isProtested0_226 rfl rfl rfl (by decide +kernel) ⟨Nat.le_of_ble_eq_true rfl, Nat.le_of_ble_eq_true rfl⟩) ⟨fun a U g mk q => by obtain ⟨e0, qP, qK, qN⟩ := q; exact ⟨e0, qP, va_K.moved (u := U) (U := U.calling g mk a) (Vm.Alike.refl U.vm) qK, ub_NX_c qN⟩, va_recv hK hP (ci := 1) (q0 := 1) rfl rfl, fun U hU hW => ⟨rfl, by rw [hU]; exact hPc, va_K.moved hW.alike hKc, ub_NX_w hW hN⟩⟩ rfl rfl hl.1 rfl (lv_room (Nat.le_of_ble_eq_true rfl)) dX12_finding_6 ⟨Nat.le_of_ble_eq_true rfl, Nat.le_of_ble_eq_true rfl⟩) hS (fun _ _ h => h.elim) (fun _ h => h.elim) (fun r1 u2 t H1 locs ht hvm hw hB hz1 hk1 hS => ?_)
  have hP := ub_keep hP hk1
  generalize H1 = H at hP hS ⊢
  obtain rfl : (0 : Int32) = r1 := hw.symm
  refine lv_if_eq (tgt := 21) hx hb dX12_finding_9 (by decide) (fun c3 => ?_) (fun c3 => by first | exact absurd c3 (by decide) | exact absurd (by decide) c3)
  refine lv_iconst (v := -1) hx hb dX12_finding_21 (by decide) ?_
  exact W.iret (v := (-1)) hx hb hr (fun t ht hW => ⟨⟨(-1), (), rfl, rfl, trivial⟩, hS.F ht⟩) hS.2.2 dX12_finding_22
def A_c_decide : List Cond := [.fieldLink RX12 10 "UnlikeBoats" "book" "LUnlikeBoats$Book;", .fieldLink RX12 55 "UnlikeBoats$Book" "now" "I", .methodLink RX12 226 yX0_isProtested, .instanceMethod yX0_isProtested, .selects RX0 yX0_isProtested yX0_isProtested, .initialized RX0, .code yX0_isProtested cX0_isProtested 3 (some .boolean), .methodLink RX0 62 yX0_isKnown, .instanceMethod yX0_isKnown, .selects RX0 yX0_isKnown yX0_isKnown, .fieldLink RX0 30 "UnlikeBoats$Book" "protests" "Ljava/util/ArrayList;", .methodLink RX0 56 yJx4a65c_size_8abf5, .instanceMethod yJx4a65c_size_8abf5, .selects RJx4a65c yJx4a65c_size_8abf5 yJx4a65c_size_8abf5, .initialized RJx4a65c, .initialized RX12, .static yX12_within, .code yX0_isKnown cX0_isKnown 2 (some .boolean), .fieldLink RX0 59 "UnlikeBoats$Book" "now" "I", .code yX12_within cX12_within 3 (some .boolean), .code yJx4a65c_size_8abf5 cJx4a65c_size_8abf5 1 (some .int), .fieldLink RJx4a65c 48 "java/util/ArrayList" "size" "I"]
def v_c_decide : List Cond := .code yX12_decide cX12_decide 4 (some .int) :: (A_c_decide ++ wsX120 ++ wsX00 ++ wsJx4a65c0)
theorem iw_c_decide_X12 : ∀ w ∈ wsX120, w ∈ v_c_decide := fun _ h => List.mem_cons_of_mem _ (List.mem_append_left _ (List.mem_append_left _ (List.mem_append_right _ (h))))
theorem iw_c_decide_X0 : ∀ w ∈ wsX00, w ∈ v_c_decide := fun _ h => List.mem_cons_of_mem _ (List.mem_append_left _ (List.mem_append_right _ (h)))
theorem iw_c_decide_Jx4a65c : ∀ w ∈ wsJx4a65c0, w ∈ v_c_decide := fun _ h => List.mem_cons_of_mem _ (List.mem_append_right _ (h))
theorem gb_c_decide_c_isProtested00 : GoodIn v_c_decide (.code yX0_isProtested cX0_isProtested 3 (some .boolean) :: A_c_isProtested0) := (List.forall_mem_cons.mpr ⟨⟨List.mem_of_getElem? (i := 7) rfl, good_of_word rfl⟩, (List.forall_mem_cons.mpr ⟨⟨List.mem_of_getElem? (i := 8) rfl, good_of_word rfl⟩, (List.forall_mem_cons.mpr ⟨⟨List.mem_of_getElem? (i := 9) rfl, good_of_word rfl⟩, (List.forall_mem_cons.mpr ⟨⟨List.mem_of_getElem? (i := 10) rfl, good_of_word rfl⟩, (List.forall_mem_cons.mpr ⟨⟨List.mem_of_getElem? (i := 6) rfl, good_of_word rfl⟩, (List.forall_mem_cons.mpr ⟨⟨List.mem_of_getElem? (i := 11) rfl, good_of_word rfl⟩, (List.forall_mem_cons.mpr ⟨⟨List.mem_of_getElem? (i := 12) rfl, good_of_word rfl⟩, (List.forall_mem_cons.mpr ⟨⟨List.mem_of_getElem? (i := 13) rfl, good_of_word rfl⟩, (List.forall_mem_cons.mpr ⟨⟨List.mem_of_getElem? (i := 14) rfl, good_of_word rfl⟩, (List.forall_mem_cons.mpr ⟨⟨List.mem_of_getElem? (i := 15) rfl, good_of_word rfl⟩, (List.forall_mem_cons.mpr ⟨⟨List.mem_of_getElem? (i := 16) rfl, good_of_word rfl⟩, (List.forall_mem_cons.mpr ⟨⟨List.mem_of_getElem? (i := 17) rfl, good_of_word rfl⟩, (List.forall_mem_cons.mpr ⟨⟨List.mem_of_getElem? (i := 18) rfl, good_of_word rfl⟩, (List.forall_mem_cons.mpr ⟨⟨List.mem_of_getElem? (i := 19) rfl, good_of_word rfl⟩, (List.forall_mem_cons.mpr ⟨⟨List.mem_of_getElem? (i := 20) rfl, good_of_word rfl⟩, (List.forall_mem_cons.mpr ⟨⟨List.mem_of_getElem? (i := 21) rfl, good_of_word rfl⟩, (List.forall_mem_cons.mpr ⟨⟨List.mem_of_getElem? (i := 22) rfl, good_of_word rfl⟩, (fun _ h => nomatch h)⟩)⟩)⟩)⟩)⟩)⟩)⟩)⟩)⟩)⟩)⟩)⟩)⟩)⟩)⟩)⟩)⟩)
theorem gb_c_decide_c_isProtested0 : GoodIn v_c_decide v_c_isProtested0 := (goodIn_ca (goodIn_ca gb_c_decide_c_isProtested00 (goodIn_sub iw_c_decide_X0 gw_X0)) (goodIn_sub iw_c_decide_Jx4a65c gw_Jx4a65c))
theorem g_c_decide_c_isProtested0_226 : GoodIn v_c_decide (wsV RX12 226 RX0 yX0_isProtested v_c_isProtested0) := goodIn_app (List.forall_mem_cons.mpr ⟨⟨List.mem_of_getElem? (i := 3) rfl, good_of_word rfl⟩, (List.forall_mem_cons.mpr ⟨⟨List.mem_of_getElem? (i := 4) rfl, good_of_word rfl⟩, (List.forall_mem_cons.mpr ⟨⟨List.mem_of_getElem? (i := 5) rfl, good_of_word rfl⟩, (List.forall_mem_cons.mpr ⟨⟨List.mem_of_getElem? (i := 6) rfl, good_of_word rfl⟩, (fun _ h => nomatch h)⟩)⟩)⟩)⟩) gb_c_decide_c_isProtested0
set_option maxHeartbeats 4000000 in
set_option maxRecDepth 100000 in
theorem c_decide (l : Launch) (dC : Nat → ClassId) (dI : Nat → Nat → Nat) (x : Nat) (bk : Nat) (tp : Nat) (sh : Nat) (sc : Nat) (he : Nat) (of : Nat) (lc : Nat) (lr : Nat) (la : Nat) (le : Nat) (lw : Nat) (lp : Nat) (ltr : Nat) (stk : Nat) (ed : Nat) (a0 : Int32)  : Met l yX12_decide v_c_decide ({ frames := 3, cells := 0, slots := 0, locals := 120 }) (va_Pc [.ref x, .int a0] (fun U => va_P (dC, dI) vwCl [(x, .inr (13, [.ref bk, .ref tp, .ref sh, .ref sc, .ref he, .ref of])), (bk, .inr (1, [.int 0, .int 0, .int 0, .ref lc, .ref lr, .ref la, .ref le, .ref lw, .ref lp, .ref ltr, .ref stk])), (lp, .inr (0, [.int 0, .ref ed, .int 0]))] U.heap ∧ va_K (dC, dI) vwCl [] U ∧ ub_NX U)) (va_Qi (S := Unit) (fun r _ => r = -1) (fun _ _ => True) (fun _ => False)) 0 0 (fun _ => False) := by
  refine Met.ofW (cc := cX12_decide) (maxL := 4) (ret := (some .int)) (by decide) rfl ?_
  intro p e s m args below meth c s₁ B hml hv
  obtain ⟨rfl, hP, hK, hN⟩ := hv
  have hx := B.exec
  have hb := B.bytes
  have hr := B.returns
  have hts := atoms_spec (ws := v_c_decide) B.pre
  have hown : s.vm.findClass RX12 = some m.cls := findClass_of_methodNamed B.named
  have hlocks := B.notSynchronized
  have hS : va_S (fun _ : Nat => False) s.heap s.heap [] := va_S.rf
  have hl := lv_entry ([.ref x, .int a0]) (n := 4) (Nat.le_of_ble_eq_true rfl)
  rw [lg_entry_eq]
  generalize (lg_sl ([.ref x, .int a0]) ++ List.replicate (4 - (lg_sl ([.ref x, .int a0])).length) Slot.unset).toArray = ls at hl ⊢
  have hl : lv_has ls 4 [(0, .ref x), (1, .int a0)] := hl
  refine lv_aload_n hx hb dX12_decide_0 rfl (lv_at hl 0 rfl) ?_
  refine va_get (D := (dC, dI)) (ci := 13) (v := .ref bk) (C := RX12) (T := TX12) (N := 6) hx hb hts iw_c_decide_X12 hown hK hP 0 rfl rfl 0 (by decide) (hts (.fieldLink RX12 10 "UnlikeBoats" "book" "LUnlikeBoats$Book;") (List.mem_of_getElem? (i := 1) rfl)) (fun _ h9 => h9) rfl dX12_decide_1 ?_
  refine lv_iload_n hx hb dX12_decide_4 rfl (lv_at hl 1 rfl) ?_
  refine lv_aload_n hx hb dX12_decide_5 rfl (lv_at hl 0 rfl) ?_
  refine va_get (D := (dC, dI)) (ci := 13) (v := .ref bk) (C := RX12) (T := TX12) (N := 6) hx hb hts iw_c_decide_X12 hown hK hP 0 rfl rfl 0 (by decide) (hts (.fieldLink RX12 10 "UnlikeBoats" "book" "LUnlikeBoats$Book;") (List.mem_of_getElem? (i := 1) rfl)) (fun _ h9 => h9) rfl dX12_decide_6 ?_
  refine va_get (D := (dC, dI)) (ci := 1) (v := .int 0) (C := RX0) (T := TX0) (N := 11) hx hb hts iw_c_decide_X0 hown hK hP 1 rfl rfl 0 (by decide) (hts (.fieldLink RX12 55 "UnlikeBoats$Book" "now" "I") (List.mem_of_getElem? (i := 2) rfl)) (fun _ h9 => h9) rfl dX12_decide_9 ?_
  have hPc := hP.sub (ws' := [(bk, .inr (1, [.int 0, .int 0, .int 0, .ref lc, .ref lr, .ref la, .ref le, .ref lw, .ref lp, .ref ltr, .ref stk])), (lp, .inr (0, [.int 0, .ref ed, .int 0]))]) [1, 2] rfl
  have hKc := hK.sub (tys' := []) [] rfl
  refine va_calli (va_runV (As := [.int a0, .int 0]) (rest := []) ⟨hx, hb, hml, hown, hts⟩ (c_isProtested0 l dC dI bk lc lr la le lw lp ltr stk ed a0 (0)) (cwV 2 hts g_c_decide_c_isProtested0_226 rfl rfl rfl (by decide +kernel) ⟨Nat.le_of_ble_eq_true rfl, Nat.le_of_ble_eq_true rfl⟩) ⟨fun a U g mk q => by obtain ⟨e0, qP, qK, qN⟩ := q; exact ⟨e0, qP, va_K.moved (u := U) (U := U.calling g mk a) (Vm.Alike.refl U.vm) qK, ub_NX_c qN⟩, va_recv hK hP (ci := 1) (q0 := 1) rfl rfl, fun U hU hW => ⟨rfl, by rw [hU]; exact hPc, va_K.moved hW.alike hKc, ub_NX_w hW hN⟩⟩ rfl rfl hl.1 rfl (lv_room (Nat.le_of_ble_eq_true rfl)) dX12_decide_12 ⟨Nat.le_of_ble_eq_true rfl, Nat.le_of_ble_eq_true rfl⟩) hS (fun _ _ h => h.elim) (fun _ h => h.elim) (fun r1 u2 t H1 locs ht hvm hw hB hz1 hk1 hS => ?_)
  have hP := ub_keep hP hk1
  generalize H1 = H at hP hS ⊢
  obtain rfl : (0 : Int32) = r1 := hw.symm
  refine lv_if_ne (tgt := 20) hx hb dX12_decide_15 (by decide) (fun c3 => by first | exact absurd c3 (by decide) | exact absurd (by decide) c3) (fun c3 => ?_)
  refine lv_iconst (v := -1) hx hb dX12_decide_18 (by decide) ?_
  exact W.iret (v := (-1)) hx hb hr (fun t ht hW => ⟨⟨(-1), (), rfl, rfl, trivial⟩, hS.F ht⟩) hS.2.2 dX12_decide_19
def A_c_reopen : List Cond := [.fieldLink RX12 10 "UnlikeBoats" "book" "LUnlikeBoats$Book;", .fieldLink RX12 55 "UnlikeBoats$Book" "now" "I", .methodLink RX12 226 yX0_isProtested, .instanceMethod yX0_isProtested, .selects RX0 yX0_isProtested yX0_isProtested, .initialized RX0, .code yX0_isProtested cX0_isProtested 3 (some .boolean), .methodLink RX0 62 yX0_isKnown, .instanceMethod yX0_isKnown, .selects RX0 yX0_isKnown yX0_isKnown, .fieldLink RX0 30 "UnlikeBoats$Book" "protests" "Ljava/util/ArrayList;", .methodLink RX0 56 yJx4a65c_size_8abf5, .instanceMethod yJx4a65c_size_8abf5, .selects RJx4a65c yJx4a65c_size_8abf5 yJx4a65c_size_8abf5, .initialized RJx4a65c, .initialized RX12, .static yX12_within, .code yX0_isKnown cX0_isKnown 2 (some .boolean), .fieldLink RX0 59 "UnlikeBoats$Book" "now" "I", .code yX12_within cX12_within 3 (some .boolean), .code yJx4a65c_size_8abf5 cJx4a65c_size_8abf5 1 (some .int), .fieldLink RJx4a65c 48 "java/util/ArrayList" "size" "I"]
def v_c_reopen : List Cond := .code yX12_reopen cX12_reopen 3 (some .boolean) :: (A_c_reopen ++ wsX120 ++ wsX00 ++ wsJx4a65c0)
theorem iw_c_reopen_X12 : ∀ w ∈ wsX120, w ∈ v_c_reopen := fun _ h => List.mem_cons_of_mem _ (List.mem_append_left _ (List.mem_append_left _ (List.mem_append_right _ (h))))
theorem iw_c_reopen_X0 : ∀ w ∈ wsX00, w ∈ v_c_reopen := fun _ h => List.mem_cons_of_mem _ (List.mem_append_left _ (List.mem_append_right _ (h)))
theorem iw_c_reopen_Jx4a65c : ∀ w ∈ wsJx4a65c0, w ∈ v_c_reopen := fun _ h => List.mem_cons_of_mem _ (List.mem_append_right _ (h))
theorem gb_c_reopen_c_isProtested00 : GoodIn v_c_reopen (.code yX0_isProtested cX0_isProtested 3 (some .boolean) :: A_c_isProtested0) := (List.forall_mem_cons.mpr ⟨⟨List.mem_of_getElem? (i := 7) rfl, good_of_word rfl⟩, (List.forall_mem_cons.mpr ⟨⟨List.mem_of_getElem? (i := 8) rfl, good_of_word rfl⟩, (List.forall_mem_cons.mpr ⟨⟨List.mem_of_getElem? (i := 9) rfl, good_of_word rfl⟩, (List.forall_mem_cons.mpr ⟨⟨List.mem_of_getElem? (i := 10) rfl, good_of_word rfl⟩, (List.forall_mem_cons.mpr ⟨⟨List.mem_of_getElem? (i := 6) rfl, good_of_word rfl⟩, (List.forall_mem_cons.mpr ⟨⟨List.mem_of_getElem? (i := 11) rfl, good_of_word rfl⟩, (List.forall_mem_cons.mpr ⟨⟨List.mem_of_getElem? (i := 12) rfl, good_of_word rfl⟩, (List.forall_mem_cons.mpr ⟨⟨List.mem_of_getElem? (i := 13) rfl, good_of_word rfl⟩, (List.forall_mem_cons.mpr ⟨⟨List.mem_of_getElem? (i := 14) rfl, good_of_word rfl⟩, (List.forall_mem_cons.mpr ⟨⟨List.mem_of_getElem? (i := 15) rfl, good_of_word rfl⟩, (List.forall_mem_cons.mpr ⟨⟨List.mem_of_getElem? (i := 16) rfl, good_of_word rfl⟩, (List.forall_mem_cons.mpr ⟨⟨List.mem_of_getElem? (i := 17) rfl, good_of_word rfl⟩, (List.forall_mem_cons.mpr ⟨⟨List.mem_of_getElem? (i := 18) rfl, good_of_word rfl⟩, (List.forall_mem_cons.mpr ⟨⟨List.mem_of_getElem? (i := 19) rfl, good_of_word rfl⟩, (List.forall_mem_cons.mpr ⟨⟨List.mem_of_getElem? (i := 20) rfl, good_of_word rfl⟩, (List.forall_mem_cons.mpr ⟨⟨List.mem_of_getElem? (i := 21) rfl, good_of_word rfl⟩, (List.forall_mem_cons.mpr ⟨⟨List.mem_of_getElem? (i := 22) rfl, good_of_word rfl⟩, (fun _ h => nomatch h)⟩)⟩)⟩)⟩)⟩)⟩)⟩)⟩)⟩)⟩)⟩)⟩)⟩)⟩)⟩)⟩)⟩)
theorem gb_c_reopen_c_isProtested0 : GoodIn v_c_reopen v_c_isProtested0 := (goodIn_ca (goodIn_ca gb_c_reopen_c_isProtested00 (goodIn_sub iw_c_reopen_X0 gw_X0)) (goodIn_sub iw_c_reopen_Jx4a65c gw_Jx4a65c))
theorem g_c_reopen_c_isProtested0_226 : GoodIn v_c_reopen (wsV RX12 226 RX0 yX0_isProtested v_c_isProtested0) := goodIn_app (List.forall_mem_cons.mpr ⟨⟨List.mem_of_getElem? (i := 3) rfl, good_of_word rfl⟩, (List.forall_mem_cons.mpr ⟨⟨List.mem_of_getElem? (i := 4) rfl, good_of_word rfl⟩, (List.forall_mem_cons.mpr ⟨⟨List.mem_of_getElem? (i := 5) rfl, good_of_word rfl⟩, (List.forall_mem_cons.mpr ⟨⟨List.mem_of_getElem? (i := 6) rfl, good_of_word rfl⟩, (fun _ h => nomatch h)⟩)⟩)⟩)⟩) gb_c_reopen_c_isProtested0
set_option maxHeartbeats 4000000 in
set_option maxRecDepth 100000 in
theorem c_reopen (l : Launch) (dC : Nat → ClassId) (dI : Nat → Nat → Nat) (x : Nat) (bk : Nat) (tp : Nat) (sh : Nat) (sc : Nat) (he : Nat) (of : Nat) (lc : Nat) (lr : Nat) (la : Nat) (le : Nat) (lw : Nat) (lp : Nat) (ltr : Nat) (stk : Nat) (ed : Nat) (a0 : Int32)  : Met l yX12_reopen v_c_reopen ({ frames := 3, cells := 0, slots := 0, locals := 120 }) (va_Pc [.ref x, .int a0] (fun U => va_P (dC, dI) vwCl [(x, .inr (13, [.ref bk, .ref tp, .ref sh, .ref sc, .ref he, .ref of])), (bk, .inr (1, [.int 0, .int 0, .int 0, .ref lc, .ref lr, .ref la, .ref le, .ref lw, .ref lp, .ref ltr, .ref stk])), (lp, .inr (0, [.int 0, .ref ed, .int 0]))] U.heap ∧ va_K (dC, dI) vwCl [] U ∧ ub_NX U)) (va_Qi (S := Unit) (fun r _ => r = 0) (fun _ _ => True) (fun _ => False)) 0 0 (fun _ => False) := by
  refine Met.ofW (cc := cX12_reopen) (maxL := 3) (ret := (some .boolean)) (by decide) rfl ?_
  intro p e s m args below meth c s₁ B hml hv
  obtain ⟨rfl, hP, hK, hN⟩ := hv
  have hx := B.exec
  have hb := B.bytes
  have hr := B.returns
  have hts := atoms_spec (ws := v_c_reopen) B.pre
  have hown : s.vm.findClass RX12 = some m.cls := findClass_of_methodNamed B.named
  have hlocks := B.notSynchronized
  have hS : va_S (fun _ : Nat => False) s.heap s.heap [] := va_S.rf
  have hl := lv_entry ([.ref x, .int a0]) (n := 3) (Nat.le_of_ble_eq_true rfl)
  rw [lg_entry_eq]
  generalize (lg_sl ([.ref x, .int a0]) ++ List.replicate (3 - (lg_sl ([.ref x, .int a0])).length) Slot.unset).toArray = ls at hl ⊢
  have hl : lv_has ls 3 [(0, .ref x), (1, .int a0)] := hl
  refine lv_aload_n hx hb dX12_reopen_0 rfl (lv_at hl 0 rfl) ?_
  refine va_get (D := (dC, dI)) (ci := 13) (v := .ref bk) (C := RX12) (T := TX12) (N := 6) hx hb hts iw_c_reopen_X12 hown hK hP 0 rfl rfl 0 (by decide) (hts (.fieldLink RX12 10 "UnlikeBoats" "book" "LUnlikeBoats$Book;") (List.mem_of_getElem? (i := 1) rfl)) (fun _ h9 => h9) rfl dX12_reopen_1 ?_
  refine lv_iload_n hx hb dX12_reopen_4 rfl (lv_at hl 1 rfl) ?_
  refine lv_aload_n hx hb dX12_reopen_5 rfl (lv_at hl 0 rfl) ?_
  refine va_get (D := (dC, dI)) (ci := 13) (v := .ref bk) (C := RX12) (T := TX12) (N := 6) hx hb hts iw_c_reopen_X12 hown hK hP 0 rfl rfl 0 (by decide) (hts (.fieldLink RX12 10 "UnlikeBoats" "book" "LUnlikeBoats$Book;") (List.mem_of_getElem? (i := 1) rfl)) (fun _ h9 => h9) rfl dX12_reopen_6 ?_
  refine va_get (D := (dC, dI)) (ci := 1) (v := .int 0) (C := RX0) (T := TX0) (N := 11) hx hb hts iw_c_reopen_X0 hown hK hP 1 rfl rfl 0 (by decide) (hts (.fieldLink RX12 55 "UnlikeBoats$Book" "now" "I") (List.mem_of_getElem? (i := 2) rfl)) (fun _ h9 => h9) rfl dX12_reopen_9 ?_
  have hPc := hP.sub (ws' := [(bk, .inr (1, [.int 0, .int 0, .int 0, .ref lc, .ref lr, .ref la, .ref le, .ref lw, .ref lp, .ref ltr, .ref stk])), (lp, .inr (0, [.int 0, .ref ed, .int 0]))]) [1, 2] rfl
  have hKc := hK.sub (tys' := []) [] rfl
  refine va_calli (va_runV (As := [.int a0, .int 0]) (rest := []) ⟨hx, hb, hml, hown, hts⟩ (c_isProtested0 l dC dI bk lc lr la le lw lp ltr stk ed a0 (0)) (cwV 2 hts g_c_reopen_c_isProtested0_226 rfl rfl rfl (by decide +kernel) ⟨Nat.le_of_ble_eq_true rfl, Nat.le_of_ble_eq_true rfl⟩) ⟨fun a U g mk q => by obtain ⟨e0, qP, qK, qN⟩ := q; exact ⟨e0, qP, va_K.moved (u := U) (U := U.calling g mk a) (Vm.Alike.refl U.vm) qK, ub_NX_c qN⟩, va_recv hK hP (ci := 1) (q0 := 1) rfl rfl, fun U hU hW => ⟨rfl, by rw [hU]; exact hPc, va_K.moved hW.alike hKc, ub_NX_w hW hN⟩⟩ rfl rfl hl.1 rfl (lv_room (Nat.le_of_ble_eq_true rfl)) dX12_reopen_12 ⟨Nat.le_of_ble_eq_true rfl, Nat.le_of_ble_eq_true rfl⟩) hS (fun _ _ h => h.elim) (fun _ h => h.elim) (fun r1 u2 t H1 locs ht hvm hw hB hz1 hk1 hS => ?_)
  have hP := ub_keep hP hk1
  generalize H1 = H at hP hS ⊢
  obtain rfl : (0 : Int32) = r1 := hw.symm
  refine lv_if_ne (tgt := 20) hx hb dX12_reopen_15 (by decide) (fun c3 => by first | exact absurd c3 (by decide) | exact absurd (by decide) c3) (fun c3 => ?_)
  refine lv_iconst (v := 0) hx hb dX12_reopen_18 (by decide) ?_
  exact W.zret (v := (0)) hx hb hr rfl (fun t ht hW => ⟨⟨(0), (), rfl, rfl, trivial⟩, hS.F ht⟩) hS.2.2 dX12_reopen_19
def A_c_even : List Cond := [.fieldLink RX12 10 "UnlikeBoats" "book" "LUnlikeBoats$Book;", .methodLink RX12 246 yX0_areSome, .instanceMethod yX0_areSome, .selects RX0 yX0_areSome yX0_areSome, .initialized RX0, .code yX0_areSome cX0_areSome 2 (some .boolean), .fieldLink RX0 48 "UnlikeBoats$Book" "boats" "I", .initialized RX12, .static yX12_within, .methodLink RX0 88 yJ6_bitCount_0f7a4, .static yJ6_bitCount_0f7a4, .initialized RJ6, .code yX12_within cX12_within 3 (some .boolean), .code yJ6_bitCount_0f7a4 cJ6_bitCount_0f7a4 1 (some .int), .constant RJ6 265 (1431655765), .constant RJ6 266 (858993459), .constant RJ6 267 (252645135)]
def v_c_even : List Cond := .code yX12_even cX12_even 2 (some .int) :: (A_c_even ++ wsX120 ++ wsX00)
theorem iw_c_even_X12 : ∀ w ∈ wsX120, w ∈ v_c_even := fun _ h => List.mem_cons_of_mem _ (List.mem_append_left _ (List.mem_append_right _ (h)))
theorem iw_c_even_X0 : ∀ w ∈ wsX00, w ∈ v_c_even := fun _ h => List.mem_cons_of_mem _ (List.mem_append_right _ (h))
theorem gb_c_even_c_areSome00 : GoodIn v_c_even (.code yX0_areSome cX0_areSome 2 (some .boolean) :: A_c_areSome0) := (List.forall_mem_cons.mpr ⟨⟨List.mem_of_getElem? (i := 6) rfl, good_of_word rfl⟩, (List.forall_mem_cons.mpr ⟨⟨List.mem_of_getElem? (i := 7) rfl, good_of_word rfl⟩, (List.forall_mem_cons.mpr ⟨⟨List.mem_of_getElem? (i := 8) rfl, good_of_word rfl⟩, (List.forall_mem_cons.mpr ⟨⟨List.mem_of_getElem? (i := 9) rfl, good_of_word rfl⟩, (List.forall_mem_cons.mpr ⟨⟨List.mem_of_getElem? (i := 10) rfl, good_of_word rfl⟩, (List.forall_mem_cons.mpr ⟨⟨List.mem_of_getElem? (i := 11) rfl, good_of_word rfl⟩, (List.forall_mem_cons.mpr ⟨⟨List.mem_of_getElem? (i := 12) rfl, good_of_word rfl⟩, (List.forall_mem_cons.mpr ⟨⟨List.mem_of_getElem? (i := 13) rfl, good_of_word rfl⟩, (List.forall_mem_cons.mpr ⟨⟨List.mem_of_getElem? (i := 14) rfl, good_of_word rfl⟩, (List.forall_mem_cons.mpr ⟨⟨List.mem_of_getElem? (i := 15) rfl, good_of_word rfl⟩, (List.forall_mem_cons.mpr ⟨⟨List.mem_of_getElem? (i := 16) rfl, good_of_word rfl⟩, (List.forall_mem_cons.mpr ⟨⟨List.mem_of_getElem? (i := 17) rfl, good_of_word rfl⟩, (fun _ h => nomatch h)⟩)⟩)⟩)⟩)⟩)⟩)⟩)⟩)⟩)⟩)⟩)⟩)
theorem gb_c_even_c_areSome0 : GoodIn v_c_even v_c_areSome0 := (goodIn_ca gb_c_even_c_areSome00 (goodIn_sub iw_c_even_X0 gw_X0))
theorem g_c_even_c_areSome0_246 : GoodIn v_c_even (wsV RX12 246 RX0 yX0_areSome v_c_areSome0) := goodIn_app (List.forall_mem_cons.mpr ⟨⟨List.mem_of_getElem? (i := 2) rfl, good_of_word rfl⟩, (List.forall_mem_cons.mpr ⟨⟨List.mem_of_getElem? (i := 3) rfl, good_of_word rfl⟩, (List.forall_mem_cons.mpr ⟨⟨List.mem_of_getElem? (i := 4) rfl, good_of_word rfl⟩, (List.forall_mem_cons.mpr ⟨⟨List.mem_of_getElem? (i := 5) rfl, good_of_word rfl⟩, (fun _ h => nomatch h)⟩)⟩)⟩)⟩) gb_c_even_c_areSome0
set_option maxHeartbeats 4000000 in
set_option maxRecDepth 100000 in
theorem c_even (l : Launch) (dC : Nat → ClassId) (dI : Nat → Nat → Nat) (x : Nat) (bk : Nat) (tp : Nat) (sh : Nat) (sc : Nat) (he : Nat) (of : Nat) (lc : Nat) (lr : Nat) (la : Nat) (le : Nat) (lw : Nat) (lp : Nat) (ltr : Nat) (stk : Nat) (a0 : Int32)  : Met l yX12_even v_c_even ({ frames := 2, cells := 0, slots := 0, locals := 80 }) (va_Pc [.ref x, .int a0] (fun U => va_P (dC, dI) vwCl [(x, .inr (13, [.ref bk, .ref tp, .ref sh, .ref sc, .ref he, .ref of])), (bk, .inr (1, [.int 0, .int 0, .int 0, .ref lc, .ref lr, .ref la, .ref le, .ref lw, .ref lp, .ref ltr, .ref stk]))] U.heap ∧ va_K (dC, dI) vwCl [] U ∧ ub_NX U)) (va_Qi (S := Unit) (fun r _ => r = -1) (fun _ _ => True) (fun _ => False)) 0 0 (fun _ => False) := by
  refine Met.ofW (cc := cX12_even) (maxL := 2) (ret := (some .int)) (by decide) rfl ?_
  intro p e s m args below meth c s₁ B hml hv
  obtain ⟨rfl, hP, hK, hN⟩ := hv
  have hx := B.exec
  have hb := B.bytes
  have hr := B.returns
  have hts := atoms_spec (ws := v_c_even) B.pre
  have hown : s.vm.findClass RX12 = some m.cls := findClass_of_methodNamed B.named
  have hlocks := B.notSynchronized
  have hS : va_S (fun _ : Nat => False) s.heap s.heap [] := va_S.rf
  have hl := lv_entry ([.ref x, .int a0]) (n := 2) (Nat.le_of_ble_eq_true rfl)
  rw [lg_entry_eq]
  generalize (lg_sl ([.ref x, .int a0]) ++ List.replicate (2 - (lg_sl ([.ref x, .int a0])).length) Slot.unset).toArray = ls at hl ⊢
  have hl : lv_has ls 2 [(0, .ref x), (1, .int a0)] := hl
  refine lv_aload_n hx hb dX12_even_0 rfl (lv_at hl 0 rfl) ?_
  refine va_get (D := (dC, dI)) (ci := 13) (v := .ref bk) (C := RX12) (T := TX12) (N := 6) hx hb hts iw_c_even_X12 hown hK hP 0 rfl rfl 0 (by decide) (hts (.fieldLink RX12 10 "UnlikeBoats" "book" "LUnlikeBoats$Book;") (List.mem_of_getElem? (i := 1) rfl)) (fun _ h9 => h9) rfl dX12_even_1 ?_
  refine lv_iload_n hx hb dX12_even_4 rfl (lv_at hl 1 rfl) ?_
  have hPc := hP.sub (ws' := [(bk, .inr (1, [.int 0, .int 0, .int 0, .ref lc, .ref lr, .ref la, .ref le, .ref lw, .ref lp, .ref ltr, .ref stk]))]) [1] rfl
  have hKc := hK.sub (tys' := []) [] rfl
  refine va_calli (va_runV (As := [.int a0]) (rest := []) ⟨hx, hb, hml, hown, hts⟩ (c_areSome0 l dC dI bk lc lr la le lw lp ltr stk a0) (cwV 1 hts g_c_even_c_areSome0_246 rfl rfl rfl (by decide +kernel) ⟨Nat.le_of_ble_eq_true rfl, Nat.le_of_ble_eq_true rfl⟩) ⟨fun a U g mk q => by obtain ⟨e0, qP, qK, qN⟩ := q; exact ⟨e0, qP, va_K.moved (u := U) (U := U.calling g mk a) (Vm.Alike.refl U.vm) qK, ub_NX_c qN⟩, va_recv hK hP (ci := 1) (q0 := 1) rfl rfl, fun U hU hW => ⟨rfl, by rw [hU]; exact hPc, va_K.moved hW.alike hKc, ub_NX_w hW hN⟩⟩ rfl rfl hl.1 rfl (lv_room (Nat.le_of_ble_eq_true rfl)) dX12_even_5 ⟨Nat.le_of_ble_eq_true rfl, Nat.le_of_ble_eq_true rfl⟩) hS (fun _ _ h => h.elim) (fun _ h => h.elim) (fun r1 u2 t H1 locs ht hvm hw hB hz1 hk1 hS => ?_)
  have hP := ub_keep hP hk1
  generalize H1 = H at hP hS ⊢
  obtain rfl : (0 : Int32) = r1 := hw.symm
  refine lv_if_ne (tgt := 13) hx hb dX12_even_8 (by decide) (fun c3 => by first | exact absurd c3 (by decide) | exact absurd (by decide) c3) (fun c3 => ?_)
  refine lv_iconst (v := -1) hx hb dX12_even_11 (by decide) ?_
  exact W.iret (v := (-1)) hx hb hr (fun t ht hW => ⟨⟨(-1), (), rfl, rfl, trivial⟩, hS.F ht⟩) hS.2.2 dX12_even_12
def A_c_change : List Cond := [.fieldLink RX12 10 "UnlikeBoats" "book" "LUnlikeBoats$Book;", .methodLink RX12 246 yX0_areSome, .instanceMethod yX0_areSome, .selects RX0 yX0_areSome yX0_areSome, .initialized RX0, .constant RX12 172 (-1000000000), .code yX0_areSome cX0_areSome 2 (some .boolean), .fieldLink RX0 48 "UnlikeBoats$Book" "boats" "I", .initialized RX12, .static yX12_within, .methodLink RX0 88 yJ6_bitCount_0f7a4, .static yJ6_bitCount_0f7a4, .initialized RJ6, .code yX12_within cX12_within 3 (some .boolean), .code yJ6_bitCount_0f7a4 cJ6_bitCount_0f7a4 1 (some .int), .constant RJ6 265 (1431655765), .constant RJ6 266 (858993459), .constant RJ6 267 (252645135)]
def v_c_change : List Cond := .code yX12_change cX12_change 3 (some .int) :: (A_c_change ++ wsX120 ++ wsX00)
theorem iw_c_change_X12 : ∀ w ∈ wsX120, w ∈ v_c_change := fun _ h => List.mem_cons_of_mem _ (List.mem_append_left _ (List.mem_append_right _ (h)))
theorem iw_c_change_X0 : ∀ w ∈ wsX00, w ∈ v_c_change := fun _ h => List.mem_cons_of_mem _ (List.mem_append_right _ (h))
theorem gb_c_change_c_areSome00 : GoodIn v_c_change (.code yX0_areSome cX0_areSome 2 (some .boolean) :: A_c_areSome0) := (List.forall_mem_cons.mpr ⟨⟨List.mem_of_getElem? (i := 7) rfl, good_of_word rfl⟩, (List.forall_mem_cons.mpr ⟨⟨List.mem_of_getElem? (i := 8) rfl, good_of_word rfl⟩, (List.forall_mem_cons.mpr ⟨⟨List.mem_of_getElem? (i := 9) rfl, good_of_word rfl⟩, (List.forall_mem_cons.mpr ⟨⟨List.mem_of_getElem? (i := 10) rfl, good_of_word rfl⟩, (List.forall_mem_cons.mpr ⟨⟨List.mem_of_getElem? (i := 11) rfl, good_of_word rfl⟩, (List.forall_mem_cons.mpr ⟨⟨List.mem_of_getElem? (i := 12) rfl, good_of_word rfl⟩, (List.forall_mem_cons.mpr ⟨⟨List.mem_of_getElem? (i := 13) rfl, good_of_word rfl⟩, (List.forall_mem_cons.mpr ⟨⟨List.mem_of_getElem? (i := 14) rfl, good_of_word rfl⟩, (List.forall_mem_cons.mpr ⟨⟨List.mem_of_getElem? (i := 15) rfl, good_of_word rfl⟩, (List.forall_mem_cons.mpr ⟨⟨List.mem_of_getElem? (i := 16) rfl, good_of_word rfl⟩, (List.forall_mem_cons.mpr ⟨⟨List.mem_of_getElem? (i := 17) rfl, good_of_word rfl⟩, (List.forall_mem_cons.mpr ⟨⟨List.mem_of_getElem? (i := 18) rfl, good_of_word rfl⟩, (fun _ h => nomatch h)⟩)⟩)⟩)⟩)⟩)⟩)⟩)⟩)⟩)⟩)⟩)⟩)
theorem gb_c_change_c_areSome0 : GoodIn v_c_change v_c_areSome0 := (goodIn_ca gb_c_change_c_areSome00 (goodIn_sub iw_c_change_X0 gw_X0))
theorem g_c_change_c_areSome0_246 : GoodIn v_c_change (wsV RX12 246 RX0 yX0_areSome v_c_areSome0) := goodIn_app (List.forall_mem_cons.mpr ⟨⟨List.mem_of_getElem? (i := 2) rfl, good_of_word rfl⟩, (List.forall_mem_cons.mpr ⟨⟨List.mem_of_getElem? (i := 3) rfl, good_of_word rfl⟩, (List.forall_mem_cons.mpr ⟨⟨List.mem_of_getElem? (i := 4) rfl, good_of_word rfl⟩, (List.forall_mem_cons.mpr ⟨⟨List.mem_of_getElem? (i := 5) rfl, good_of_word rfl⟩, (fun _ h => nomatch h)⟩)⟩)⟩)⟩) gb_c_change_c_areSome0
set_option maxHeartbeats 4000000 in
set_option maxRecDepth 100000 in
theorem c_change (l : Launch) (dC : Nat → ClassId) (dI : Nat → Nat → Nat) (x : Nat) (bk : Nat) (tp : Nat) (sh : Nat) (sc : Nat) (he : Nat) (of : Nat) (lc : Nat) (lr : Nat) (la : Nat) (le : Nat) (lw : Nat) (lp : Nat) (ltr : Nat) (stk : Nat) (a0 : Int32) (a1 : Int32)  : Met l yX12_change v_c_change ({ frames := 2, cells := 0, slots := 0, locals := 80 }) (va_Pc [.ref x, .int a0, .int a1] (fun U => va_P (dC, dI) vwCl [(x, .inr (13, [.ref bk, .ref tp, .ref sh, .ref sc, .ref he, .ref of])), (bk, .inr (1, [.int 0, .int 0, .int 0, .ref lc, .ref lr, .ref la, .ref le, .ref lw, .ref lp, .ref ltr, .ref stk]))] U.heap ∧ va_K (dC, dI) vwCl [] U ∧ ub_NX U)) (va_Qi (S := Unit) (fun r _ => r = -1000000000) (fun _ _ => True) (fun _ => False)) 0 0 (fun _ => False) := by
  refine Met.ofW (cc := cX12_change) (maxL := 3) (ret := (some .int)) (by decide) rfl ?_
  intro p e s m args below meth c s₁ B hml hv
  obtain ⟨rfl, hP, hK, hN⟩ := hv
  have hx := B.exec
  have hb := B.bytes
  have hr := B.returns
  have hts := atoms_spec (ws := v_c_change) B.pre
  have hown : s.vm.findClass RX12 = some m.cls := findClass_of_methodNamed B.named
  have hlocks := B.notSynchronized
  have hS : va_S (fun _ : Nat => False) s.heap s.heap [] := va_S.rf
  have hl := lv_entry ([.ref x, .int a0, .int a1]) (n := 3) (Nat.le_of_ble_eq_true rfl)
  rw [lg_entry_eq]
  generalize (lg_sl ([.ref x, .int a0, .int a1]) ++ List.replicate (3 - (lg_sl ([.ref x, .int a0, .int a1])).length) Slot.unset).toArray = ls at hl ⊢
  have hl : lv_has ls 3 [(0, .ref x), (1, .int a0), (2, .int a1)] := hl
  refine lv_aload_n hx hb dX12_change_0 rfl (lv_at hl 0 rfl) ?_
  refine va_get (D := (dC, dI)) (ci := 13) (v := .ref bk) (C := RX12) (T := TX12) (N := 6) hx hb hts iw_c_change_X12 hown hK hP 0 rfl rfl 0 (by decide) (hts (.fieldLink RX12 10 "UnlikeBoats" "book" "LUnlikeBoats$Book;") (List.mem_of_getElem? (i := 1) rfl)) (fun _ h9 => h9) rfl dX12_change_1 ?_
  refine lv_iload_n hx hb dX12_change_4 rfl (lv_at hl 1 rfl) ?_
  have hPc := hP.sub (ws' := [(bk, .inr (1, [.int 0, .int 0, .int 0, .ref lc, .ref lr, .ref la, .ref le, .ref lw, .ref lp, .ref ltr, .ref stk]))]) [1] rfl
  have hKc := hK.sub (tys' := []) [] rfl
  refine va_calli (va_runV (As := [.int a0]) (rest := []) ⟨hx, hb, hml, hown, hts⟩ (c_areSome0 l dC dI bk lc lr la le lw lp ltr stk a0) (cwV 1 hts g_c_change_c_areSome0_246 rfl rfl rfl (by decide +kernel) ⟨Nat.le_of_ble_eq_true rfl, Nat.le_of_ble_eq_true rfl⟩) ⟨fun a U g mk q => by obtain ⟨e0, qP, qK, qN⟩ := q; exact ⟨e0, qP, va_K.moved (u := U) (U := U.calling g mk a) (Vm.Alike.refl U.vm) qK, ub_NX_c qN⟩, va_recv hK hP (ci := 1) (q0 := 1) rfl rfl, fun U hU hW => ⟨rfl, by rw [hU]; exact hPc, va_K.moved hW.alike hKc, ub_NX_w hW hN⟩⟩ rfl rfl hl.1 rfl (lv_room (Nat.le_of_ble_eq_true rfl)) dX12_change_5 ⟨Nat.le_of_ble_eq_true rfl, Nat.le_of_ble_eq_true rfl⟩) hS (fun _ _ h => h.elim) (fun _ h => h.elim) (fun r1 u2 t H1 locs ht hvm hw hB hz1 hk1 hS => ?_)
  have hP := ub_keep hP hk1
  generalize H1 = H at hP hS ⊢
  obtain rfl : (0 : Int32) = r1 := hw.symm
  refine lv_if_eq (tgt := 30) hx hb dX12_change_8 (by decide) (fun c3 => ?_) (fun c3 => by first | exact absurd c3 (by decide) | exact absurd (by decide) c3)
  refine lv_ldc hx hb hown (hts (.constant RX12 172 (-1000000000)) (List.mem_of_getElem? (i := 6) rfl)) dX12_change_30 ?_
  exact W.iret (v := (-1000000000)) hx hb hr (fun t ht hW => ⟨⟨(-1000000000), (), rfl, rfl, trivial⟩, hS.F ht⟩) hS.2.2 dX12_change_32
def A_c_middle : List Cond := [.fieldLink RX12 10 "UnlikeBoats" "book" "LUnlikeBoats$Book;", .methodLink RX12 135 yX0_isRace, .instanceMethod yX0_isRace, .selects RX0 yX0_isRace yX0_isRace, .initialized RX0, .constant RX12 172 (-1000000000), .code yX0_isRace cX0_isRace 2 (some .boolean), .fieldLink RX0 21 "UnlikeBoats$Book" "races" "Ljava/util/ArrayList;", .methodLink RX0 56 yJx4a65c_size_8abf5, .instanceMethod yJx4a65c_size_8abf5, .selects RJx4a65c yJx4a65c_size_8abf5 yJx4a65c_size_8abf5, .initialized RJx4a65c, .initialized RX12, .static yX12_within, .code yJx4a65c_size_8abf5 cJx4a65c_size_8abf5 1 (some .int), .fieldLink RJx4a65c 48 "java/util/ArrayList" "size" "I", .code yX12_within cX12_within 3 (some .boolean)]
def v_c_middle : List Cond := .code yX12_middle cX12_middle 3 (some .int) :: (A_c_middle ++ wsX120 ++ wsX00 ++ wsJx4a65c0)
theorem iw_c_middle_X12 : ∀ w ∈ wsX120, w ∈ v_c_middle := fun _ h => List.mem_cons_of_mem _ (List.mem_append_left _ (List.mem_append_left _ (List.mem_append_right _ (h))))
theorem iw_c_middle_X0 : ∀ w ∈ wsX00, w ∈ v_c_middle := fun _ h => List.mem_cons_of_mem _ (List.mem_append_left _ (List.mem_append_right _ (h)))
theorem iw_c_middle_Jx4a65c : ∀ w ∈ wsJx4a65c0, w ∈ v_c_middle := fun _ h => List.mem_cons_of_mem _ (List.mem_append_right _ (h))
theorem gb_c_middle_c_isRace00 : GoodIn v_c_middle (.code yX0_isRace cX0_isRace 2 (some .boolean) :: A_c_isRace0) := (List.forall_mem_cons.mpr ⟨⟨List.mem_of_getElem? (i := 7) rfl, good_of_word rfl⟩, (List.forall_mem_cons.mpr ⟨⟨List.mem_of_getElem? (i := 8) rfl, good_of_word rfl⟩, (List.forall_mem_cons.mpr ⟨⟨List.mem_of_getElem? (i := 9) rfl, good_of_word rfl⟩, (List.forall_mem_cons.mpr ⟨⟨List.mem_of_getElem? (i := 10) rfl, good_of_word rfl⟩, (List.forall_mem_cons.mpr ⟨⟨List.mem_of_getElem? (i := 11) rfl, good_of_word rfl⟩, (List.forall_mem_cons.mpr ⟨⟨List.mem_of_getElem? (i := 12) rfl, good_of_word rfl⟩, (List.forall_mem_cons.mpr ⟨⟨List.mem_of_getElem? (i := 13) rfl, good_of_word rfl⟩, (List.forall_mem_cons.mpr ⟨⟨List.mem_of_getElem? (i := 14) rfl, good_of_word rfl⟩, (List.forall_mem_cons.mpr ⟨⟨List.mem_of_getElem? (i := 15) rfl, good_of_word rfl⟩, (List.forall_mem_cons.mpr ⟨⟨List.mem_of_getElem? (i := 16) rfl, good_of_word rfl⟩, (List.forall_mem_cons.mpr ⟨⟨List.mem_of_getElem? (i := 17) rfl, good_of_word rfl⟩, (fun _ h => nomatch h)⟩)⟩)⟩)⟩)⟩)⟩)⟩)⟩)⟩)⟩)⟩)
theorem gb_c_middle_c_isRace0 : GoodIn v_c_middle v_c_isRace0 := (goodIn_ca (goodIn_ca gb_c_middle_c_isRace00 (goodIn_sub iw_c_middle_X0 gw_X0)) (goodIn_sub iw_c_middle_Jx4a65c gw_Jx4a65c))
theorem g_c_middle_c_isRace0_135 : GoodIn v_c_middle (wsV RX12 135 RX0 yX0_isRace v_c_isRace0) := goodIn_app (List.forall_mem_cons.mpr ⟨⟨List.mem_of_getElem? (i := 2) rfl, good_of_word rfl⟩, (List.forall_mem_cons.mpr ⟨⟨List.mem_of_getElem? (i := 3) rfl, good_of_word rfl⟩, (List.forall_mem_cons.mpr ⟨⟨List.mem_of_getElem? (i := 4) rfl, good_of_word rfl⟩, (List.forall_mem_cons.mpr ⟨⟨List.mem_of_getElem? (i := 5) rfl, good_of_word rfl⟩, (fun _ h => nomatch h)⟩)⟩)⟩)⟩) gb_c_middle_c_isRace0
set_option maxHeartbeats 4000000 in
set_option maxRecDepth 100000 in
theorem c_middle (l : Launch) (dC : Nat → ClassId) (dI : Nat → Nat → Nat) (x : Nat) (bk : Nat) (tp : Nat) (sh : Nat) (sc : Nat) (he : Nat) (of : Nat) (lc : Nat) (lr : Nat) (la : Nat) (le : Nat) (lw : Nat) (lp : Nat) (ltr : Nat) (stk : Nat) (ed : Nat) (a0 : Int32) (a1 : Int32)  : Met l yX12_middle v_c_middle ({ frames := 2, cells := 0, slots := 0, locals := 80 }) (va_Pc [.ref x, .int a0, .int a1] (fun U => va_P (dC, dI) vwCl [(x, .inr (13, [.ref bk, .ref tp, .ref sh, .ref sc, .ref he, .ref of])), (bk, .inr (1, [.int 0, .int 0, .int 0, .ref lc, .ref lr, .ref la, .ref le, .ref lw, .ref lp, .ref ltr, .ref stk])), (la, .inr (0, [.int 0, .ref ed, .int 0]))] U.heap ∧ va_K (dC, dI) vwCl [] U ∧ ub_NX U)) (va_Qi (S := Unit) (fun r _ => r = -1000000000) (fun _ _ => True) (fun _ => False)) 0 0 (fun _ => False) := by
  refine Met.ofW (cc := cX12_middle) (maxL := 3) (ret := (some .int)) (by decide) rfl ?_
  intro p e s m args below meth c s₁ B hml hv
  obtain ⟨rfl, hP, hK, hN⟩ := hv
  have hx := B.exec
  have hb := B.bytes
  have hr := B.returns
  have hts := atoms_spec (ws := v_c_middle) B.pre
  have hown : s.vm.findClass RX12 = some m.cls := findClass_of_methodNamed B.named
  have hlocks := B.notSynchronized
  have hS : va_S (fun _ : Nat => False) s.heap s.heap [] := va_S.rf
  have hl := lv_entry ([.ref x, .int a0, .int a1]) (n := 3) (Nat.le_of_ble_eq_true rfl)
  rw [lg_entry_eq]
  generalize (lg_sl ([.ref x, .int a0, .int a1]) ++ List.replicate (3 - (lg_sl ([.ref x, .int a0, .int a1])).length) Slot.unset).toArray = ls at hl ⊢
  have hl : lv_has ls 3 [(0, .ref x), (1, .int a0), (2, .int a1)] := hl
  refine lv_aload_n hx hb dX12_middle_0 rfl (lv_at hl 0 rfl) ?_
  refine va_get (D := (dC, dI)) (ci := 13) (v := .ref bk) (C := RX12) (T := TX12) (N := 6) hx hb hts iw_c_middle_X12 hown hK hP 0 rfl rfl 0 (by decide) (hts (.fieldLink RX12 10 "UnlikeBoats" "book" "LUnlikeBoats$Book;") (List.mem_of_getElem? (i := 1) rfl)) (fun _ h9 => h9) rfl dX12_middle_1 ?_
  refine lv_iload_n hx hb dX12_middle_4 rfl (lv_at hl 1 rfl) ?_
  have hPc := hP.sub (ws' := [(bk, .inr (1, [.int 0, .int 0, .int 0, .ref lc, .ref lr, .ref la, .ref le, .ref lw, .ref lp, .ref ltr, .ref stk])), (la, .inr (0, [.int 0, .ref ed, .int 0]))]) [1, 2] rfl
  have hKc := hK.sub (tys' := []) [] rfl
  refine va_calli (va_runV (As := [.int a0]) (rest := []) ⟨hx, hb, hml, hown, hts⟩ (c_isRace0 l dC dI bk lc lr la le lw lp ltr stk ed a0) (cwV 1 hts g_c_middle_c_isRace0_135 rfl rfl rfl (by decide +kernel) ⟨Nat.le_of_ble_eq_true rfl, Nat.le_of_ble_eq_true rfl⟩) ⟨fun a U g mk q => by obtain ⟨e0, qP, qK, qN⟩ := q; exact ⟨e0, qP, va_K.moved (u := U) (U := U.calling g mk a) (Vm.Alike.refl U.vm) qK, ub_NX_c qN⟩, va_recv hK hP (ci := 1) (q0 := 1) rfl rfl, fun U hU hW => ⟨rfl, by rw [hU]; exact hPc, va_K.moved hW.alike hKc, ub_NX_w hW hN⟩⟩ rfl rfl hl.1 rfl (lv_room (Nat.le_of_ble_eq_true rfl)) dX12_middle_5 ⟨Nat.le_of_ble_eq_true rfl, Nat.le_of_ble_eq_true rfl⟩) hS (fun _ _ h => h.elim) (fun _ h => h.elim) (fun r1 u2 t H1 locs ht hvm hw hB hz1 hk1 hS => ?_)
  have hP := ub_keep hP hk1
  generalize H1 = H at hP hS ⊢
  obtain rfl : (0 : Int32) = r1 := hw.symm
  refine lv_if_eq (tgt := 22) hx hb dX12_middle_8 (by decide) (fun c3 => ?_) (fun c3 => by first | exact absurd c3 (by decide) | exact absurd (by decide) c3)
  refine lv_ldc hx hb hown (hts (.constant RX12 172 (-1000000000)) (List.mem_of_getElem? (i := 6) rfl)) dX12_middle_22 ?_
  exact W.iret (v := (-1000000000)) hx hb hr (fun t ht hW => ⟨⟨(-1000000000), (), rfl, rfl, trivial⟩, hS.F ht⟩) hS.2.2 dX12_middle_24
def A_c_fit : List Cond := [.fieldLink RX12 10 "UnlikeBoats" "book" "LUnlikeBoats$Book;", .methodLink RX12 66 yX0_isBoat, .instanceMethod yX0_isBoat, .selects RX0 yX0_isBoat yX0_isBoat, .initialized RX0, .code yX0_isBoat cX0_isBoat 2 (some .boolean), .fieldLink RX0 48 "UnlikeBoats$Book" "boats" "I", .initialized RX12, .static yX12_within, .code yX12_within cX12_within 3 (some .boolean)]
def v_c_fit : List Cond := .code yX12_fit cX12_fit 2 (some .int) :: (A_c_fit ++ wsX120 ++ wsX00)
theorem iw_c_fit_X12 : ∀ w ∈ wsX120, w ∈ v_c_fit := fun _ h => List.mem_cons_of_mem _ (List.mem_append_left _ (List.mem_append_right _ (h)))
theorem iw_c_fit_X0 : ∀ w ∈ wsX00, w ∈ v_c_fit := fun _ h => List.mem_cons_of_mem _ (List.mem_append_right _ (h))
theorem gb_c_fit_c_isBoat00 : GoodIn v_c_fit (.code yX0_isBoat cX0_isBoat 2 (some .boolean) :: A_c_isBoat0) := (List.forall_mem_cons.mpr ⟨⟨List.mem_of_getElem? (i := 6) rfl, good_of_word rfl⟩, (List.forall_mem_cons.mpr ⟨⟨List.mem_of_getElem? (i := 7) rfl, good_of_word rfl⟩, (List.forall_mem_cons.mpr ⟨⟨List.mem_of_getElem? (i := 8) rfl, good_of_word rfl⟩, (List.forall_mem_cons.mpr ⟨⟨List.mem_of_getElem? (i := 9) rfl, good_of_word rfl⟩, (List.forall_mem_cons.mpr ⟨⟨List.mem_of_getElem? (i := 10) rfl, good_of_word rfl⟩, (fun _ h => nomatch h)⟩)⟩)⟩)⟩)⟩)
theorem gb_c_fit_c_isBoat0 : GoodIn v_c_fit v_c_isBoat0 := (goodIn_ca gb_c_fit_c_isBoat00 (goodIn_sub iw_c_fit_X0 gw_X0))
theorem g_c_fit_c_isBoat0_66 : GoodIn v_c_fit (wsV RX12 66 RX0 yX0_isBoat v_c_isBoat0) := goodIn_app (List.forall_mem_cons.mpr ⟨⟨List.mem_of_getElem? (i := 2) rfl, good_of_word rfl⟩, (List.forall_mem_cons.mpr ⟨⟨List.mem_of_getElem? (i := 3) rfl, good_of_word rfl⟩, (List.forall_mem_cons.mpr ⟨⟨List.mem_of_getElem? (i := 4) rfl, good_of_word rfl⟩, (List.forall_mem_cons.mpr ⟨⟨List.mem_of_getElem? (i := 5) rfl, good_of_word rfl⟩, (fun _ h => nomatch h)⟩)⟩)⟩)⟩) gb_c_fit_c_isBoat0
set_option maxHeartbeats 4000000 in
set_option maxRecDepth 100000 in
theorem c_fit (l : Launch) (dC : Nat → ClassId) (dI : Nat → Nat → Nat) (x : Nat) (bk : Nat) (tp : Nat) (sh : Nat) (sc : Nat) (he : Nat) (of : Nat) (lc : Nat) (lr : Nat) (la : Nat) (le : Nat) (lw : Nat) (lp : Nat) (ltr : Nat) (stk : Nat) (a0 : Int32)  : Met l yX12_fit v_c_fit ({ frames := 2, cells := 0, slots := 0, locals := 80 }) (va_Pc [.ref x, .int a0] (fun U => va_P (dC, dI) vwCl [(x, .inr (13, [.ref bk, .ref tp, .ref sh, .ref sc, .ref he, .ref of])), (bk, .inr (1, [.int 0, .int 0, .int 0, .ref lc, .ref lr, .ref la, .ref le, .ref lw, .ref lp, .ref ltr, .ref stk]))] U.heap ∧ va_K (dC, dI) vwCl [] U ∧ ub_NX U)) (va_Qi (S := Unit) (fun r _ => r = -1) (fun _ _ => True) (fun _ => False)) 0 0 (fun _ => False) := by
  refine Met.ofW (cc := cX12_fit) (maxL := 2) (ret := (some .int)) (by decide) rfl ?_
  intro p e s m args below meth c s₁ B hml hv
  obtain ⟨rfl, hP, hK, hN⟩ := hv
  have hx := B.exec
  have hb := B.bytes
  have hr := B.returns
  have hts := atoms_spec (ws := v_c_fit) B.pre
  have hown : s.vm.findClass RX12 = some m.cls := findClass_of_methodNamed B.named
  have hlocks := B.notSynchronized
  have hS : va_S (fun _ : Nat => False) s.heap s.heap [] := va_S.rf
  have hl := lv_entry ([.ref x, .int a0]) (n := 2) (Nat.le_of_ble_eq_true rfl)
  rw [lg_entry_eq]
  generalize (lg_sl ([.ref x, .int a0]) ++ List.replicate (2 - (lg_sl ([.ref x, .int a0])).length) Slot.unset).toArray = ls at hl ⊢
  have hl : lv_has ls 2 [(0, .ref x), (1, .int a0)] := hl
  refine lv_aload_n hx hb dX12_fit_0 rfl (lv_at hl 0 rfl) ?_
  refine va_get (D := (dC, dI)) (ci := 13) (v := .ref bk) (C := RX12) (T := TX12) (N := 6) hx hb hts iw_c_fit_X12 hown hK hP 0 rfl rfl 0 (by decide) (hts (.fieldLink RX12 10 "UnlikeBoats" "book" "LUnlikeBoats$Book;") (List.mem_of_getElem? (i := 1) rfl)) (fun _ h9 => h9) rfl dX12_fit_1 ?_
  refine lv_iload_n hx hb dX12_fit_4 rfl (lv_at hl 1 rfl) ?_
  have hPc := hP.sub (ws' := [(bk, .inr (1, [.int 0, .int 0, .int 0, .ref lc, .ref lr, .ref la, .ref le, .ref lw, .ref lp, .ref ltr, .ref stk]))]) [1] rfl
  have hKc := hK.sub (tys' := []) [] rfl
  refine va_calli (va_runV (As := [.int a0]) (rest := []) ⟨hx, hb, hml, hown, hts⟩ (c_isBoat0 l dC dI bk lc lr la le lw lp ltr stk a0) (cwV 1 hts g_c_fit_c_isBoat0_66 rfl rfl rfl (by decide +kernel) ⟨Nat.le_of_ble_eq_true rfl, Nat.le_of_ble_eq_true rfl⟩) ⟨fun a U g mk q => by obtain ⟨e0, qP, qK, qN⟩ := q; exact ⟨e0, qP, va_K.moved (u := U) (U := U.calling g mk a) (Vm.Alike.refl U.vm) qK, ub_NX_c qN⟩, va_recv hK hP (ci := 1) (q0 := 1) rfl rfl, fun U hU hW => ⟨rfl, by rw [hU]; exact hPc, va_K.moved hW.alike hKc, ub_NX_w hW hN⟩⟩ rfl rfl hl.1 rfl (lv_room (Nat.le_of_ble_eq_true rfl)) dX12_fit_5 ⟨Nat.le_of_ble_eq_true rfl, Nat.le_of_ble_eq_true rfl⟩) hS (fun _ _ h => h.elim) (fun _ h => h.elim) (fun r1 u2 t H1 locs ht hvm hw hB hz1 hk1 hS => ?_)
  have hP := ub_keep hP hk1
  generalize H1 = H at hP hS ⊢
  obtain rfl : (0 : Int32) = r1 := hw.symm
  refine lv_if_ne (tgt := 13) hx hb dX12_fit_8 (by decide) (fun c3 => by first | exact absurd c3 (by decide) | exact absurd (by decide) c3) (fun c3 => ?_)
  refine lv_iconst (v := -1) hx hb dX12_fit_11 (by decide) ?_
  exact W.iret (v := (-1)) hx hb hr (fun t ht hW => ⟨⟨(-1), (), rfl, rfl, trivial⟩, hS.F ht⟩) hS.2.2 dX12_fit_12
def A_c_suspect : List Cond := [.fieldLink RX12 10 "UnlikeBoats" "book" "LUnlikeBoats$Book;", .methodLink RX12 66 yX0_isBoat, .instanceMethod yX0_isBoat, .selects RX0 yX0_isBoat yX0_isBoat, .initialized RX0, .constant RX12 172 (-1000000000), .code yX0_isBoat cX0_isBoat 2 (some .boolean), .fieldLink RX0 48 "UnlikeBoats$Book" "boats" "I", .initialized RX12, .static yX12_within, .code yX12_within cX12_within 3 (some .boolean)]
def v_c_suspect : List Cond := .code yX12_suspect cX12_suspect 3 (some .int) :: (A_c_suspect ++ wsX120 ++ wsX00)
theorem iw_c_suspect_X12 : ∀ w ∈ wsX120, w ∈ v_c_suspect := fun _ h => List.mem_cons_of_mem _ (List.mem_append_left _ (List.mem_append_right _ (h)))
theorem iw_c_suspect_X0 : ∀ w ∈ wsX00, w ∈ v_c_suspect := fun _ h => List.mem_cons_of_mem _ (List.mem_append_right _ (h))
theorem gb_c_suspect_c_isBoat00 : GoodIn v_c_suspect (.code yX0_isBoat cX0_isBoat 2 (some .boolean) :: A_c_isBoat0) := (List.forall_mem_cons.mpr ⟨⟨List.mem_of_getElem? (i := 7) rfl, good_of_word rfl⟩, (List.forall_mem_cons.mpr ⟨⟨List.mem_of_getElem? (i := 8) rfl, good_of_word rfl⟩, (List.forall_mem_cons.mpr ⟨⟨List.mem_of_getElem? (i := 9) rfl, good_of_word rfl⟩, (List.forall_mem_cons.mpr ⟨⟨List.mem_of_getElem? (i := 10) rfl, good_of_word rfl⟩, (List.forall_mem_cons.mpr ⟨⟨List.mem_of_getElem? (i := 11) rfl, good_of_word rfl⟩, (fun _ h => nomatch h)⟩)⟩)⟩)⟩)⟩)
theorem gb_c_suspect_c_isBoat0 : GoodIn v_c_suspect v_c_isBoat0 := (goodIn_ca gb_c_suspect_c_isBoat00 (goodIn_sub iw_c_suspect_X0 gw_X0))
theorem g_c_suspect_c_isBoat0_66 : GoodIn v_c_suspect (wsV RX12 66 RX0 yX0_isBoat v_c_isBoat0) := goodIn_app (List.forall_mem_cons.mpr ⟨⟨List.mem_of_getElem? (i := 2) rfl, good_of_word rfl⟩, (List.forall_mem_cons.mpr ⟨⟨List.mem_of_getElem? (i := 3) rfl, good_of_word rfl⟩, (List.forall_mem_cons.mpr ⟨⟨List.mem_of_getElem? (i := 4) rfl, good_of_word rfl⟩, (List.forall_mem_cons.mpr ⟨⟨List.mem_of_getElem? (i := 5) rfl, good_of_word rfl⟩, (fun _ h => nomatch h)⟩)⟩)⟩)⟩) gb_c_suspect_c_isBoat0
set_option maxHeartbeats 4000000 in
set_option maxRecDepth 100000 in
theorem c_suspect (l : Launch) (dC : Nat → ClassId) (dI : Nat → Nat → Nat) (x : Nat) (bk : Nat) (tp : Nat) (sh : Nat) (sc : Nat) (he : Nat) (of : Nat) (lc : Nat) (lr : Nat) (la : Nat) (le : Nat) (lw : Nat) (lp : Nat) (ltr : Nat) (stk : Nat) (a0 : Int32) (a1 : Int32)  : Met l yX12_suspect v_c_suspect ({ frames := 2, cells := 0, slots := 0, locals := 80 }) (va_Pc [.ref x, .int a0, .int a1] (fun U => va_P (dC, dI) vwCl [(x, .inr (13, [.ref bk, .ref tp, .ref sh, .ref sc, .ref he, .ref of])), (bk, .inr (1, [.int 0, .int 0, .int 0, .ref lc, .ref lr, .ref la, .ref le, .ref lw, .ref lp, .ref ltr, .ref stk]))] U.heap ∧ va_K (dC, dI) vwCl [] U ∧ ub_NX U)) (va_Qi (S := Unit) (fun r _ => r = -1000000000) (fun _ _ => True) (fun _ => False)) 0 0 (fun _ => False) := by
  refine Met.ofW (cc := cX12_suspect) (maxL := 3) (ret := (some .int)) (by decide) rfl ?_
  intro p e s m args below meth c s₁ B hml hv
  obtain ⟨rfl, hP, hK, hN⟩ := hv
  have hx := B.exec
  have hb := B.bytes
  have hr := B.returns
  have hts := atoms_spec (ws := v_c_suspect) B.pre
  have hown : s.vm.findClass RX12 = some m.cls := findClass_of_methodNamed B.named
  have hlocks := B.notSynchronized
  have hS : va_S (fun _ : Nat => False) s.heap s.heap [] := va_S.rf
  have hl := lv_entry ([.ref x, .int a0, .int a1]) (n := 3) (Nat.le_of_ble_eq_true rfl)
  rw [lg_entry_eq]
  generalize (lg_sl ([.ref x, .int a0, .int a1]) ++ List.replicate (3 - (lg_sl ([.ref x, .int a0, .int a1])).length) Slot.unset).toArray = ls at hl ⊢
  have hl : lv_has ls 3 [(0, .ref x), (1, .int a0), (2, .int a1)] := hl
  refine lv_aload_n hx hb dX12_suspect_0 rfl (lv_at hl 0 rfl) ?_
  refine va_get (D := (dC, dI)) (ci := 13) (v := .ref bk) (C := RX12) (T := TX12) (N := 6) hx hb hts iw_c_suspect_X12 hown hK hP 0 rfl rfl 0 (by decide) (hts (.fieldLink RX12 10 "UnlikeBoats" "book" "LUnlikeBoats$Book;") (List.mem_of_getElem? (i := 1) rfl)) (fun _ h9 => h9) rfl dX12_suspect_1 ?_
  refine lv_iload_n hx hb dX12_suspect_4 rfl (lv_at hl 1 rfl) ?_
  have hPc := hP.sub (ws' := [(bk, .inr (1, [.int 0, .int 0, .int 0, .ref lc, .ref lr, .ref la, .ref le, .ref lw, .ref lp, .ref ltr, .ref stk]))]) [1] rfl
  have hKc := hK.sub (tys' := []) [] rfl
  refine va_calli (va_runV (As := [.int a0]) (rest := []) ⟨hx, hb, hml, hown, hts⟩ (c_isBoat0 l dC dI bk lc lr la le lw lp ltr stk a0) (cwV 1 hts g_c_suspect_c_isBoat0_66 rfl rfl rfl (by decide +kernel) ⟨Nat.le_of_ble_eq_true rfl, Nat.le_of_ble_eq_true rfl⟩) ⟨fun a U g mk q => by obtain ⟨e0, qP, qK, qN⟩ := q; exact ⟨e0, qP, va_K.moved (u := U) (U := U.calling g mk a) (Vm.Alike.refl U.vm) qK, ub_NX_c qN⟩, va_recv hK hP (ci := 1) (q0 := 1) rfl rfl, fun U hU hW => ⟨rfl, by rw [hU]; exact hPc, va_K.moved hW.alike hKc, ub_NX_w hW hN⟩⟩ rfl rfl hl.1 rfl (lv_room (Nat.le_of_ble_eq_true rfl)) dX12_suspect_5 ⟨Nat.le_of_ble_eq_true rfl, Nat.le_of_ble_eq_true rfl⟩) hS (fun _ _ h => h.elim) (fun _ h => h.elim) (fun r1 u2 t H1 locs ht hvm hw hB hz1 hk1 hS => ?_)
  have hP := ub_keep hP hk1
  generalize H1 = H at hP hS ⊢
  obtain rfl : (0 : Int32) = r1 := hw.symm
  refine lv_if_eq (tgt := 20) hx hb dX12_suspect_8 (by decide) (fun c3 => ?_) (fun c3 => by first | exact absurd c3 (by decide) | exact absurd (by decide) c3)
  refine lv_ldc hx hb hown (hts (.constant RX12 172 (-1000000000)) (List.mem_of_getElem? (i := 6) rfl)) dX12_suspect_20 ?_
  exact W.iret (v := (-1000000000)) hx hb hr (fun t ht hW => ⟨⟨(-1000000000), (), rfl, rfl, trivial⟩, hS.F ht⟩) hS.2.2 dX12_suspect_22
def A_c_start : List Cond := [.fieldLink RX12 10 "UnlikeBoats" "book" "LUnlikeBoats$Book;", .methodLink RX12 146 yX0_isEntered, .instanceMethod yX0_isEntered, .selects RX0 yX0_isEntered yX0_isEntered, .initialized RX0, .code yX0_isEntered cX0_isEntered 3 (some .boolean), .methodLink RX0 66 yX0_isRace, .instanceMethod yX0_isRace, .selects RX0 yX0_isRace yX0_isRace, .code yX0_isRace cX0_isRace 2 (some .boolean), .fieldLink RX0 21 "UnlikeBoats$Book" "races" "Ljava/util/ArrayList;", .methodLink RX0 56 yJx4a65c_size_8abf5, .instanceMethod yJx4a65c_size_8abf5, .selects RJx4a65c yJx4a65c_size_8abf5 yJx4a65c_size_8abf5, .initialized RJx4a65c, .initialized RX12, .static yX12_within, .code yJx4a65c_size_8abf5 cJx4a65c_size_8abf5 1 (some .int), .fieldLink RJx4a65c 48 "java/util/ArrayList" "size" "I", .code yX12_within cX12_within 3 (some .boolean)]
def v_c_start : List Cond := .code yX12_start cX12_start 6 (some .boolean) :: (A_c_start ++ wsX120 ++ wsX00 ++ wsJx4a65c0)
theorem iw_c_start_X12 : ∀ w ∈ wsX120, w ∈ v_c_start := fun _ h => List.mem_cons_of_mem _ (List.mem_append_left _ (List.mem_append_left _ (List.mem_append_right _ (h))))
theorem iw_c_start_X0 : ∀ w ∈ wsX00, w ∈ v_c_start := fun _ h => List.mem_cons_of_mem _ (List.mem_append_left _ (List.mem_append_right _ (h)))
theorem iw_c_start_Jx4a65c : ∀ w ∈ wsJx4a65c0, w ∈ v_c_start := fun _ h => List.mem_cons_of_mem _ (List.mem_append_right _ (h))
theorem gb_c_start_c_isEntered00 : GoodIn v_c_start (.code yX0_isEntered cX0_isEntered 3 (some .boolean) :: A_c_isEntered0) := (List.forall_mem_cons.mpr ⟨⟨List.mem_of_getElem? (i := 6) rfl, good_of_word rfl⟩, (List.forall_mem_cons.mpr ⟨⟨List.mem_of_getElem? (i := 7) rfl, good_of_word rfl⟩, (List.forall_mem_cons.mpr ⟨⟨List.mem_of_getElem? (i := 8) rfl, good_of_word rfl⟩, (List.forall_mem_cons.mpr ⟨⟨List.mem_of_getElem? (i := 9) rfl, good_of_word rfl⟩, (List.forall_mem_cons.mpr ⟨⟨List.mem_of_getElem? (i := 5) rfl, good_of_word rfl⟩, (List.forall_mem_cons.mpr ⟨⟨List.mem_of_getElem? (i := 10) rfl, good_of_word rfl⟩, (List.forall_mem_cons.mpr ⟨⟨List.mem_of_getElem? (i := 11) rfl, good_of_word rfl⟩, (List.forall_mem_cons.mpr ⟨⟨List.mem_of_getElem? (i := 12) rfl, good_of_word rfl⟩, (List.forall_mem_cons.mpr ⟨⟨List.mem_of_getElem? (i := 13) rfl, good_of_word rfl⟩, (List.forall_mem_cons.mpr ⟨⟨List.mem_of_getElem? (i := 14) rfl, good_of_word rfl⟩, (List.forall_mem_cons.mpr ⟨⟨List.mem_of_getElem? (i := 15) rfl, good_of_word rfl⟩, (List.forall_mem_cons.mpr ⟨⟨List.mem_of_getElem? (i := 16) rfl, good_of_word rfl⟩, (List.forall_mem_cons.mpr ⟨⟨List.mem_of_getElem? (i := 17) rfl, good_of_word rfl⟩, (List.forall_mem_cons.mpr ⟨⟨List.mem_of_getElem? (i := 18) rfl, good_of_word rfl⟩, (List.forall_mem_cons.mpr ⟨⟨List.mem_of_getElem? (i := 19) rfl, good_of_word rfl⟩, (List.forall_mem_cons.mpr ⟨⟨List.mem_of_getElem? (i := 20) rfl, good_of_word rfl⟩, (fun _ h => nomatch h)⟩)⟩)⟩)⟩)⟩)⟩)⟩)⟩)⟩)⟩)⟩)⟩)⟩)⟩)⟩)⟩)
theorem gb_c_start_c_isEntered0 : GoodIn v_c_start v_c_isEntered0 := (goodIn_ca (goodIn_ca gb_c_start_c_isEntered00 (goodIn_sub iw_c_start_X0 gw_X0)) (goodIn_sub iw_c_start_Jx4a65c gw_Jx4a65c))
theorem g_c_start_c_isEntered0_146 : GoodIn v_c_start (wsV RX12 146 RX0 yX0_isEntered v_c_isEntered0) := goodIn_app (List.forall_mem_cons.mpr ⟨⟨List.mem_of_getElem? (i := 2) rfl, good_of_word rfl⟩, (List.forall_mem_cons.mpr ⟨⟨List.mem_of_getElem? (i := 3) rfl, good_of_word rfl⟩, (List.forall_mem_cons.mpr ⟨⟨List.mem_of_getElem? (i := 4) rfl, good_of_word rfl⟩, (List.forall_mem_cons.mpr ⟨⟨List.mem_of_getElem? (i := 5) rfl, good_of_word rfl⟩, (fun _ h => nomatch h)⟩)⟩)⟩)⟩) gb_c_start_c_isEntered0
set_option maxHeartbeats 4000000 in
set_option maxRecDepth 100000 in
theorem c_start (l : Launch) (dC : Nat → ClassId) (dI : Nat → Nat → Nat) (x : Nat) (bk : Nat) (tp : Nat) (sh : Nat) (sc : Nat) (he : Nat) (of : Nat) (lc : Nat) (lr : Nat) (la : Nat) (le : Nat) (lw : Nat) (lp : Nat) (ltr : Nat) (stk : Nat) (ed : Nat) (a0 : Int32) (a1 : Int32) (a2 : Int32) (a3 : Int32)  : Met l yX12_start v_c_start ({ frames := 3, cells := 0, slots := 0, locals := 120 }) (va_Pc [.ref x, .int a0, .int a1, .int a2, .int a3] (fun U => va_P (dC, dI) vwCl [(x, .inr (13, [.ref bk, .ref tp, .ref sh, .ref sc, .ref he, .ref of])), (bk, .inr (1, [.int 0, .int 0, .int 0, .ref lc, .ref lr, .ref la, .ref le, .ref lw, .ref lp, .ref ltr, .ref stk])), (la, .inr (0, [.int 0, .ref ed, .int 0]))] U.heap ∧ va_K (dC, dI) vwCl [] U ∧ ub_NX U)) (va_Qi (S := Unit) (fun r _ => r = 0) (fun _ _ => True) (fun _ => False)) 0 0 (fun _ => False) := by
  refine Met.ofW (cc := cX12_start) (maxL := 6) (ret := (some .boolean)) (by decide) rfl ?_
  intro p e s m args below meth c s₁ B hml hv
  obtain ⟨rfl, hP, hK, hN⟩ := hv
  have hx := B.exec
  have hb := B.bytes
  have hr := B.returns
  have hts := atoms_spec (ws := v_c_start) B.pre
  have hown : s.vm.findClass RX12 = some m.cls := findClass_of_methodNamed B.named
  have hlocks := B.notSynchronized
  have hS : va_S (fun _ : Nat => False) s.heap s.heap [] := va_S.rf
  have hl := lv_entry ([.ref x, .int a0, .int a1, .int a2, .int a3]) (n := 6) (Nat.le_of_ble_eq_true rfl)
  rw [lg_entry_eq]
  generalize (lg_sl ([.ref x, .int a0, .int a1, .int a2, .int a3]) ++ List.replicate (6 - (lg_sl ([.ref x, .int a0, .int a1, .int a2, .int a3])).length) Slot.unset).toArray = ls at hl ⊢
  have hl : lv_has ls 6 [(0, .ref x), (1, .int a0), (2, .int a1), (3, .int a2), (4, .int a3)] := hl
  refine lv_aload_n hx hb dX12_start_0 rfl (lv_at hl 0 rfl) ?_
  refine va_get (D := (dC, dI)) (ci := 13) (v := .ref bk) (C := RX12) (T := TX12) (N := 6) hx hb hts iw_c_start_X12 hown hK hP 0 rfl rfl 0 (by decide) (hts (.fieldLink RX12 10 "UnlikeBoats" "book" "LUnlikeBoats$Book;") (List.mem_of_getElem? (i := 1) rfl)) (fun _ h9 => h9) rfl dX12_start_1 ?_
  refine lv_iload_n hx hb dX12_start_4 rfl (lv_at hl 1 rfl) ?_
  refine lv_iload_n hx hb dX12_start_5 rfl (lv_at hl 2 rfl) ?_
  have hPc := hP.sub (ws' := [(bk, .inr (1, [.int 0, .int 0, .int 0, .ref lc, .ref lr, .ref la, .ref le, .ref lw, .ref lp, .ref ltr, .ref stk])), (la, .inr (0, [.int 0, .ref ed, .int 0]))]) [1, 2] rfl
  have hKc := hK.sub (tys' := []) [] rfl
  refine va_calli (va_runV (As := [.int a0, .int a1]) (rest := []) ⟨hx, hb, hml, hown, hts⟩ (c_isEntered0 l dC dI bk lc lr la le lw lp ltr stk ed a0 a1) (cwV 2 hts g_c_start_c_isEntered0_146 rfl rfl rfl (by decide +kernel) ⟨Nat.le_of_ble_eq_true rfl, Nat.le_of_ble_eq_true rfl⟩) ⟨fun a U g mk q => by obtain ⟨e0, qP, qK, qN⟩ := q; exact ⟨e0, qP, va_K.moved (u := U) (U := U.calling g mk a) (Vm.Alike.refl U.vm) qK, ub_NX_c qN⟩, va_recv hK hP (ci := 1) (q0 := 1) rfl rfl, fun U hU hW => ⟨rfl, by rw [hU]; exact hPc, va_K.moved hW.alike hKc, ub_NX_w hW hN⟩⟩ rfl rfl hl.1 rfl (lv_room (Nat.le_of_ble_eq_true rfl)) dX12_start_6 ⟨Nat.le_of_ble_eq_true rfl, Nat.le_of_ble_eq_true rfl⟩) hS (fun _ _ h => h.elim) (fun _ h => h.elim) (fun r1 u2 t H1 locs ht hvm hw hB hz1 hk1 hS => ?_)
  have hP := ub_keep hP hk1
  generalize H1 = H at hP hS ⊢
  obtain rfl : (0 : Int32) = r1 := hw.symm
  refine lv_if_eq (tgt := 34) hx hb dX12_start_9 (by decide) (fun c3 => ?_) (fun c3 => by first | exact absurd c3 (by decide) | exact absurd (by decide) c3)
  refine lv_iconst (v := 0) hx hb dX12_start_34 (by decide) ?_
  exact W.zret (v := (0)) hx hb hr rfl (fun t ht hW => ⟨⟨(0), (), rfl, rfl, trivial⟩, hS.F ht⟩) hS.2.2 dX12_start_35
def A_c_lean : List Cond := [.fieldLink RX12 10 "UnlikeBoats" "book" "LUnlikeBoats$Book;", .methodLink RX12 135 yX0_isRace, .instanceMethod yX0_isRace, .selects RX0 yX0_isRace yX0_isRace, .initialized RX0, .constant RX12 172 (-1000000000), .code yX0_isRace cX0_isRace 2 (some .boolean), .fieldLink RX0 21 "UnlikeBoats$Book" "races" "Ljava/util/ArrayList;", .methodLink RX0 56 yJx4a65c_size_8abf5, .instanceMethod yJx4a65c_size_8abf5, .selects RJx4a65c yJx4a65c_size_8abf5 yJx4a65c_size_8abf5, .initialized RJx4a65c, .initialized RX12, .static yX12_within, .code yJx4a65c_size_8abf5 cJx4a65c_size_8abf5 1 (some .int), .fieldLink RJx4a65c 48 "java/util/ArrayList" "size" "I", .code yX12_within cX12_within 3 (some .boolean)]
def v_c_lean : List Cond := .code yX12_lean cX12_lean 2 (some .int) :: (A_c_lean ++ wsX120 ++ wsX00 ++ wsJx4a65c0)
theorem iw_c_lean_X12 : ∀ w ∈ wsX120, w ∈ v_c_lean := fun _ h => List.mem_cons_of_mem _ (List.mem_append_left _ (List.mem_append_left _ (List.mem_append_right _ (h))))
theorem iw_c_lean_X0 : ∀ w ∈ wsX00, w ∈ v_c_lean := fun _ h => List.mem_cons_of_mem _ (List.mem_append_left _ (List.mem_append_right _ (h)))
theorem iw_c_lean_Jx4a65c : ∀ w ∈ wsJx4a65c0, w ∈ v_c_lean := fun _ h => List.mem_cons_of_mem _ (List.mem_append_right _ (h))
theorem gb_c_lean_c_isRace00 : GoodIn v_c_lean (.code yX0_isRace cX0_isRace 2 (some .boolean) :: A_c_isRace0) := (List.forall_mem_cons.mpr ⟨⟨List.mem_of_getElem? (i := 7) rfl, good_of_word rfl⟩, (List.forall_mem_cons.mpr ⟨⟨List.mem_of_getElem? (i := 8) rfl, good_of_word rfl⟩, (List.forall_mem_cons.mpr ⟨⟨List.mem_of_getElem? (i := 9) rfl, good_of_word rfl⟩, (List.forall_mem_cons.mpr ⟨⟨List.mem_of_getElem? (i := 10) rfl, good_of_word rfl⟩, (List.forall_mem_cons.mpr ⟨⟨List.mem_of_getElem? (i := 11) rfl, good_of_word rfl⟩, (List.forall_mem_cons.mpr ⟨⟨List.mem_of_getElem? (i := 12) rfl, good_of_word rfl⟩, (List.forall_mem_cons.mpr ⟨⟨List.mem_of_getElem? (i := 13) rfl, good_of_word rfl⟩, (List.forall_mem_cons.mpr ⟨⟨List.mem_of_getElem? (i := 14) rfl, good_of_word rfl⟩, (List.forall_mem_cons.mpr ⟨⟨List.mem_of_getElem? (i := 15) rfl, good_of_word rfl⟩, (List.forall_mem_cons.mpr ⟨⟨List.mem_of_getElem? (i := 16) rfl, good_of_word rfl⟩, (List.forall_mem_cons.mpr ⟨⟨List.mem_of_getElem? (i := 17) rfl, good_of_word rfl⟩, (fun _ h => nomatch h)⟩)⟩)⟩)⟩)⟩)⟩)⟩)⟩)⟩)⟩)⟩)
theorem gb_c_lean_c_isRace0 : GoodIn v_c_lean v_c_isRace0 := (goodIn_ca (goodIn_ca gb_c_lean_c_isRace00 (goodIn_sub iw_c_lean_X0 gw_X0)) (goodIn_sub iw_c_lean_Jx4a65c gw_Jx4a65c))
theorem g_c_lean_c_isRace0_135 : GoodIn v_c_lean (wsV RX12 135 RX0 yX0_isRace v_c_isRace0) := goodIn_app (List.forall_mem_cons.mpr ⟨⟨List.mem_of_getElem? (i := 2) rfl, good_of_word rfl⟩, (List.forall_mem_cons.mpr ⟨⟨List.mem_of_getElem? (i := 3) rfl, good_of_word rfl⟩, (List.forall_mem_cons.mpr ⟨⟨List.mem_of_getElem? (i := 4) rfl, good_of_word rfl⟩, (List.forall_mem_cons.mpr ⟨⟨List.mem_of_getElem? (i := 5) rfl, good_of_word rfl⟩, (fun _ h => nomatch h)⟩)⟩)⟩)⟩) gb_c_lean_c_isRace0
set_option maxHeartbeats 4000000 in
set_option maxRecDepth 100000 in
theorem c_lean (l : Launch) (dC : Nat → ClassId) (dI : Nat → Nat → Nat) (x : Nat) (bk : Nat) (tp : Nat) (sh : Nat) (sc : Nat) (he : Nat) (of : Nat) (lc : Nat) (lr : Nat) (la : Nat) (le : Nat) (lw : Nat) (lp : Nat) (ltr : Nat) (stk : Nat) (ed : Nat) (a0 : Int32)  : Met l yX12_lean v_c_lean ({ frames := 2, cells := 0, slots := 0, locals := 80 }) (va_Pc [.ref x, .int a0] (fun U => va_P (dC, dI) vwCl [(x, .inr (13, [.ref bk, .ref tp, .ref sh, .ref sc, .ref he, .ref of])), (bk, .inr (1, [.int 0, .int 0, .int 0, .ref lc, .ref lr, .ref la, .ref le, .ref lw, .ref lp, .ref ltr, .ref stk])), (la, .inr (0, [.int 0, .ref ed, .int 0]))] U.heap ∧ va_K (dC, dI) vwCl [] U ∧ ub_NX U)) (va_Qi (S := Unit) (fun r _ => r = -1000000000) (fun _ _ => True) (fun _ => False)) 0 0 (fun _ => False) := by
  refine Met.ofW (cc := cX12_lean) (maxL := 2) (ret := (some .int)) (by decide) rfl ?_
  intro p e s m args below meth c s₁ B hml hv
  obtain ⟨rfl, hP, hK, hN⟩ := hv
  have hx := B.exec
  have hb := B.bytes
  have hr := B.returns
  have hts := atoms_spec (ws := v_c_lean) B.pre
  have hown : s.vm.findClass RX12 = some m.cls := findClass_of_methodNamed B.named
  have hlocks := B.notSynchronized
  have hS : va_S (fun _ : Nat => False) s.heap s.heap [] := va_S.rf
  have hl := lv_entry ([.ref x, .int a0]) (n := 2) (Nat.le_of_ble_eq_true rfl)
  rw [lg_entry_eq]
  generalize (lg_sl ([.ref x, .int a0]) ++ List.replicate (2 - (lg_sl ([.ref x, .int a0])).length) Slot.unset).toArray = ls at hl ⊢
  have hl : lv_has ls 2 [(0, .ref x), (1, .int a0)] := hl
  refine lv_aload_n hx hb dX12_lean_0 rfl (lv_at hl 0 rfl) ?_
  refine va_get (D := (dC, dI)) (ci := 13) (v := .ref bk) (C := RX12) (T := TX12) (N := 6) hx hb hts iw_c_lean_X12 hown hK hP 0 rfl rfl 0 (by decide) (hts (.fieldLink RX12 10 "UnlikeBoats" "book" "LUnlikeBoats$Book;") (List.mem_of_getElem? (i := 1) rfl)) (fun _ h9 => h9) rfl dX12_lean_1 ?_
  refine lv_iload_n hx hb dX12_lean_4 rfl (lv_at hl 1 rfl) ?_
  have hPc := hP.sub (ws' := [(bk, .inr (1, [.int 0, .int 0, .int 0, .ref lc, .ref lr, .ref la, .ref le, .ref lw, .ref lp, .ref ltr, .ref stk])), (la, .inr (0, [.int 0, .ref ed, .int 0]))]) [1, 2] rfl
  have hKc := hK.sub (tys' := []) [] rfl
  refine va_calli (va_runV (As := [.int a0]) (rest := []) ⟨hx, hb, hml, hown, hts⟩ (c_isRace0 l dC dI bk lc lr la le lw lp ltr stk ed a0) (cwV 1 hts g_c_lean_c_isRace0_135 rfl rfl rfl (by decide +kernel) ⟨Nat.le_of_ble_eq_true rfl, Nat.le_of_ble_eq_true rfl⟩) ⟨fun a U g mk q => by obtain ⟨e0, qP, qK, qN⟩ := q; exact ⟨e0, qP, va_K.moved (u := U) (U := U.calling g mk a) (Vm.Alike.refl U.vm) qK, ub_NX_c qN⟩, va_recv hK hP (ci := 1) (q0 := 1) rfl rfl, fun U hU hW => ⟨rfl, by rw [hU]; exact hPc, va_K.moved hW.alike hKc, ub_NX_w hW hN⟩⟩ rfl rfl hl.1 rfl (lv_room (Nat.le_of_ble_eq_true rfl)) dX12_lean_5 ⟨Nat.le_of_ble_eq_true rfl, Nat.le_of_ble_eq_true rfl⟩) hS (fun _ _ h => h.elim) (fun _ h => h.elim) (fun r1 u2 t H1 locs ht hvm hw hB hz1 hk1 hS => ?_)
  have hP := ub_keep hP hk1
  generalize H1 = H at hP hS ⊢
  obtain rfl : (0 : Int32) = r1 := hw.symm
  refine lv_if_ne (tgt := 14) hx hb dX12_lean_8 (by decide) (fun c3 => by first | exact absurd c3 (by decide) | exact absurd (by decide) c3) (fun c3 => ?_)
  refine lv_ldc hx hb hown (hts (.constant RX12 172 (-1000000000)) (List.mem_of_getElem? (i := 6) rfl)) dX12_lean_11 ?_
  exact W.iret (v := (-1000000000)) hx hb hr (fun t ht hW => ⟨⟨(-1000000000), (), rfl, rfl, trivial⟩, hS.F ht⟩) hS.2.2 dX12_lean_13
def A_c_days : List Cond := [.fieldLink RX12 10 "UnlikeBoats" "book" "LUnlikeBoats$Book;", .fieldLink RX12 55 "UnlikeBoats$Book" "now" "I", .methodLink RX12 59 yX12_within, .static yX12_within, .initialized RX12, .code yX12_within cX12_within 3 (some .boolean)]
def v_c_days : List Cond := .code yX12_days cX12_days 2 (some .int) :: (A_c_days ++ wsX120 ++ wsX00)
theorem iw_c_days_X12 : ∀ w ∈ wsX120, w ∈ v_c_days := fun _ h => List.mem_cons_of_mem _ (List.mem_append_left _ (List.mem_append_right _ (h)))
theorem iw_c_days_X0 : ∀ w ∈ wsX00, w ∈ v_c_days := fun _ h => List.mem_cons_of_mem _ (List.mem_append_right _ (h))
theorem gb_c_days_c_within0 : GoodIn v_c_days (.code yX12_within cX12_within 3 (some .boolean) :: A_c_within) := (List.forall_mem_cons.mpr ⟨⟨List.mem_of_getElem? (i := 6) rfl, good_of_word rfl⟩, (fun _ h => nomatch h)⟩)
theorem gb_c_days_c_within : GoodIn v_c_days v_c_within := gb_c_days_c_within0
theorem g_c_days_c_within_59 : GoodIn v_c_days (va_wsS RX12 59 yX12_within v_c_within) := goodIn_app (List.forall_mem_cons.mpr ⟨⟨List.mem_of_getElem? (i := 3) rfl, good_of_word rfl⟩, (List.forall_mem_cons.mpr ⟨⟨List.mem_of_getElem? (i := 4) rfl, good_of_word rfl⟩, (List.forall_mem_cons.mpr ⟨⟨List.mem_of_getElem? (i := 5) rfl, good_of_word rfl⟩, (fun _ h => nomatch h)⟩)⟩)⟩) gb_c_days_c_within
set_option maxHeartbeats 4000000 in
set_option maxRecDepth 100000 in
theorem c_days (l : Launch) (dC : Nat → ClassId) (dI : Nat → Nat → Nat) (x : Nat) (bk : Nat) (tp : Nat) (sh : Nat) (sc : Nat) (he : Nat) (of : Nat) (lc : Nat) (lr : Nat) (la : Nat) (le : Nat) (lw : Nat) (lp : Nat) (ltr : Nat) (stk : Nat) (n : Int32) (sz : Nat)  : Met l yX12_days v_c_days ({ frames := 1, cells := 0, slots := 0, locals := 40 }) (va_Pc [.ref x, .int n] (fun U => U.heap.size = sz ∧ va_P (dC, dI) vwCl [(x, .inr (13, [.ref bk, .ref tp, .ref sh, .ref sc, .ref he, .ref of])), (bk, .inr (1, [.int 0, .int 0, .int 0, .ref lc, .ref lr, .ref la, .ref le, .ref lw, .ref lp, .ref ltr, .ref stk]))] U.heap ∧ va_K (dC, dI) vwCl [] U ∧ va_D (fun _ => True) [(x, .inr (13, [.ref bk, .ref tp, .ref sh, .ref sc, .ref he, .ref of])), (bk, .inr (1, [.int 0, .int 0, .int 0, .ref lc, .ref lr, .ref la, .ref le, .ref lw, .ref lp, .ref ltr, .ref stk]))] ∧ ub_NX U)) (va_Qi (S := Unit) (fun r _ => r = if n < 0 ∨ 400 < n then -1 else n) (fun _ _ => True) (va_A [(x, .inr (13, [.ref bk, .ref tp, .ref sh, .ref sc, .ref he, .ref of])), (bk, .inr (1, [.int 0, .int 0, .int 0, .ref lc, .ref lr, .ref la, .ref le, .ref lw, .ref lp, .ref ltr, .ref stk]))] sz)) 0 0 (va_A [(x, .inr (13, [.ref bk, .ref tp, .ref sh, .ref sc, .ref he, .ref of])), (bk, .inr (1, [.int 0, .int 0, .int 0, .ref lc, .ref lr, .ref la, .ref le, .ref lw, .ref lp, .ref ltr, .ref stk]))] sz) := by
  refine Met.ofW (cc := cX12_days) (maxL := 2) (ret := (some .int)) (by decide) rfl ?_
  intro p e s m args below meth c s₁ B hml hv
  obtain ⟨rfl, hsz, hP, hK, hD0, hN⟩ := hv
  have hx := B.exec
  have hb := B.bytes
  have hr := B.returns
  have hts := atoms_spec (ws := v_c_days) B.pre
  have hown : s.vm.findClass RX12 = some m.cls := findClass_of_methodNamed B.named
  have hlocks := B.notSynchronized
  subst hsz
  have hD := hD0.self (sz := s.heap.size)
  generalize hAe : va_A [(x, .inr (13, [.ref bk, .ref tp, .ref sh, .ref sc, .ref he, .ref of])), (bk, .inr (1, [.int 0, .int 0, .int 0, .ref lc, .ref lr, .ref la, .ref le, .ref lw, .ref lp, .ref ltr, .ref stk]))] s.heap.size = A at hD ⊢
  have hA : ∀ q : Nat, s.heap.size ≤ q → A q := fun q h => by rw [← hAe]; exact Or.inr h
  have hS : va_S A s.heap s.heap [] := va_S.rf
  have hP : va_P (dC, dI) vwCl [(x, .inr (13, [.ref bk, .ref tp, .ref sh, .ref sc, .ref he, .ref of])), (bk, .inr (1, [.int 0, .int 0, .int 0, .ref lc, .ref lr, .ref la, .ref le, .ref lw, .ref lp, .ref ltr, .ref stk]))] s.heap := hP
  have hl := lv_entry ([.ref x, .int n]) (n := 2) (Nat.le_of_ble_eq_true rfl)
  rw [lg_entry_eq]
  generalize (lg_sl ([.ref x, .int n]) ++ List.replicate (2 - (lg_sl ([.ref x, .int n])).length) Slot.unset).toArray = ls at hl ⊢
  have hl : lv_has ls 2 [(0, .ref x), (1, .int n)] := hl
  refine lv_iload_n hx hb dX12_days_0 rfl (lv_at hl 1 rfl) ?_
  refine lv_iconst (v := 0) hx hb dX12_days_1 (by decide) ?_
  refine lv_sipush (v := 400) hx hb dX12_days_2 (by decide) ?_
  refine lv_aload_n hx hb dX12_days_5 rfl (lv_at hl 0 rfl) ?_
  refine va_get (D := (dC, dI)) (ci := 13) (v := .ref bk) (C := RX12) (T := TX12) (N := 6) hx hb hts iw_c_days_X12 hown hK hP 0 rfl rfl 0 (by decide) (hts (.fieldLink RX12 10 "UnlikeBoats" "book" "LUnlikeBoats$Book;") (List.mem_of_getElem? (i := 1) rfl)) (fun _ h9 => h9) rfl dX12_days_6 ?_
  refine va_get (D := (dC, dI)) (ci := 1) (v := .int 0) (C := RX0) (T := TX0) (N := 11) hx hb hts iw_c_days_X0 hown hK hP 1 rfl rfl 0 (by decide) (hts (.fieldLink RX12 55 "UnlikeBoats$Book" "now" "I") (List.mem_of_getElem? (i := 2) rfl)) (fun _ h9 => h9) rfl dX12_days_9 ?_
  refine lv_isub hx hb dX12_days_12 ?_
  refine lv_topi (fun y1 ey1 => ?_)
  obtain rfl : (400 : Int32) = y1 := (ey1.trans (by decide)).symm
  refine va_calli (va_runS (As := [.int n, .int 0, .int 400]) (rest := []) ⟨hx, hb, hml, hown, hts⟩ (c_within l n (0) (400)) (va_cwS 3 hts g_c_days_c_within_59 rfl rfl rfl (by decide +kernel) ⟨Nat.le_of_ble_eq_true rfl, Nat.le_of_ble_eq_true rfl⟩) ⟨fun _ _ _ _ q => q, fun _ _ _ => ⟨rfl, trivial⟩⟩ rfl rfl hl.1 rfl (lv_room (Nat.le_of_ble_eq_true rfl)) dX12_days_13 ⟨Nat.le_of_ble_eq_true rfl, Nat.le_of_ble_eq_true rfl⟩) hS (fun _ _ h => h.elim) (fun _ h => h.elim) (fun r2 u3 t H1 locs ht hvm hw hB hz1 hk1 hS => ?_)
  have hP := ub_keep hP hk1
  generalize H1 = H at hP hS ⊢
  rcases hw with ⟨rfl, hw1, hw2⟩ | ⟨rfl, hw1⟩
  · --in
    have d4a := hw1
    have d4b := hw2
    refine lv_if_ne (tgt := 21) hx hb dX12_days_16 (by decide) (fun c5 => ?_) (fun c5 => by first | exact absurd c5 (by decide) | exact absurd (by decide) c5)
    refine lv_aload_n hx hb dX12_days_21 rfl (lv_at hl 0 rfl) ?_
    refine va_get (D := (dC, dI)) (ci := 13) (v := .ref bk) (C := RX12) (T := TX12) (N := 6) hx hb hts iw_c_days_X12 hown hK hP 0 rfl rfl 0 (by decide) (hts (.fieldLink RX12 10 "UnlikeBoats" "book" "LUnlikeBoats$Book;") (List.mem_of_getElem? (i := 1) rfl)) (fun _ h9 => h9) rfl dX12_days_22 ?_
    refine lv_dup hx hb dX12_days_25 rfl ?_
    refine va_get (D := (dC, dI)) (ci := 1) (v := .int 0) (C := RX0) (T := TX0) (N := 11) hx hb hts iw_c_days_X0 hown hK hP 1 rfl rfl 0 (by decide) (hts (.fieldLink RX12 55 "UnlikeBoats$Book" "now" "I") (List.mem_of_getElem? (i := 2) rfl)) (fun _ h9 => h9) rfl dX12_days_26 ?_
    refine lv_iload_n hx hb dX12_days_29 rfl (lv_at hl 1 rfl) ?_
    refine lv_iadd hx hb dX12_days_30 ?_
    refine lv_topi (fun y6 ey6 => ?_)
    obtain rfl : (n : Int32) = y6 := (ey6.trans (Int32.zero_add _)).symm
    refine va_put (D := (dC, dI)) (ci := 1) (v := .int n) (ty := .int) (C := RX0) (T := TX0) (N := 11) hx hb hts iw_c_days_X0 tyX0 tyX0_ok nmX0 hown hK hP hD hS 1 rfl rfl 0 (by decide) (hts (.fieldLink RX12 55 "UnlikeBoats$Book" "now" "I") (List.mem_of_getElem? (i := 2) rfl)) (fun _ h9 => h9) rfl (by decide +kernel) rfl rfl (Nat.le_of_ble_eq_true rfl) dX12_days_31 (fun H locs hP hD hS => ?_)
    have hP : va_P (dC, dI) vwCl [(x, .inr (13, [.ref bk, .ref tp, .ref sh, .ref sc, .ref he, .ref of])), (bk, .inr (1, [.int n, .int 0, .int 0, .ref lc, .ref lr, .ref la, .ref le, .ref lw, .ref lp, .ref ltr, .ref stk]))] H := hP
    have hD : va_D A [(x, .inr (13, [.ref bk, .ref tp, .ref sh, .ref sc, .ref he, .ref of])), (bk, .inr (1, [.int n, .int 0, .int 0, .ref lc, .ref lr, .ref la, .ref le, .ref lw, .ref lp, .ref ltr, .ref stk]))] := hD
    refine lv_aload_n hx hb dX12_days_34 rfl (lv_at hl 0 rfl) ?_
    refine va_get (D := (dC, dI)) (ci := 13) (v := .ref bk) (C := RX12) (T := TX12) (N := 6) hx hb hts iw_c_days_X12 hown hK hP 0 rfl rfl 0 (by decide) (hts (.fieldLink RX12 10 "UnlikeBoats" "book" "LUnlikeBoats$Book;") (List.mem_of_getElem? (i := 1) rfl)) (fun _ h9 => h9) rfl dX12_days_35 ?_
    refine va_get (D := (dC, dI)) (ci := 1) (v := .int n) (C := RX0) (T := TX0) (N := 11) hx hb hts iw_c_days_X0 hown hK hP 1 rfl rfl 0 (by decide) (hts (.fieldLink RX12 55 "UnlikeBoats$Book" "now" "I") (List.mem_of_getElem? (i := 2) rfl)) (fun _ h9 => h9) rfl dX12_days_38 ?_
    exact W.iret (v := n) hx hb hr (fun t ht hW => ⟨⟨n, (), rfl, by rw [if_neg (fun hh => hh.elim d4a d4b)], trivial⟩, hS.F ht⟩) hS.2.2 dX12_days_41
  · --out
    have d7 := hw1
    refine lv_if_ne (tgt := 21) hx hb dX12_days_16 (by decide) (fun c8 => by first | exact absurd c8 (by decide) | exact absurd (by decide) c8) (fun c8 => ?_)
    refine lv_iconst (v := -1) hx hb dX12_days_19 (by decide) ?_
    exact W.iret (v := (-1)) hx hb hr (fun t ht hW => ⟨⟨(-1), (), rfl, by rw [if_pos d7], trivial⟩, hS.F ht⟩) hS.2.2 dX12_days_20
def A_c_boat : List Cond := [.fieldLink RX12 10 "UnlikeBoats" "book" "LUnlikeBoats$Book;", .fieldLink RX12 63 "UnlikeBoats$Book" "boats" "I"]
def v_c_boat : List Cond := .code yX12_boat cX12_boat 1 (some .int) :: (A_c_boat ++ wsX120 ++ wsX00)
theorem iw_c_boat_X12 : ∀ w ∈ wsX120, w ∈ v_c_boat := fun _ h => List.mem_cons_of_mem _ (List.mem_append_left _ (List.mem_append_right _ (h)))
theorem iw_c_boat_X0 : ∀ w ∈ wsX00, w ∈ v_c_boat := fun _ h => List.mem_cons_of_mem _ (List.mem_append_right _ (h))
set_option maxHeartbeats 4000000 in
set_option maxRecDepth 100000 in
theorem c_boat (l : Launch) (dC : Nat → ClassId) (dI : Nat → Nat → Nat) (x : Nat) (bk : Nat) (tp : Nat) (sh : Nat) (sc : Nat) (he : Nat) (of : Nat) (lc : Nat) (lr : Nat) (la : Nat) (le : Nat) (lw : Nat) (lp : Nat) (ltr : Nat) (stk : Nat) (sz : Nat)  : Met l yX12_boat v_c_boat ({ frames := 0, cells := 0, slots := 0, locals := 0 }) (va_Pc [.ref x] (fun U => U.heap.size = sz ∧ va_P (dC, dI) vwCl [(x, .inr (13, [.ref bk, .ref tp, .ref sh, .ref sc, .ref he, .ref of])), (bk, .inr (1, [.int 0, .int 0, .int 0, .ref lc, .ref lr, .ref la, .ref le, .ref lw, .ref lp, .ref ltr, .ref stk]))] U.heap ∧ va_K (dC, dI) vwCl [] U ∧ va_D (fun _ => True) [(x, .inr (13, [.ref bk, .ref tp, .ref sh, .ref sc, .ref he, .ref of])), (bk, .inr (1, [.int 0, .int 0, .int 0, .ref lc, .ref lr, .ref la, .ref le, .ref lw, .ref lp, .ref ltr, .ref stk]))] ∧ ub_NX U)) (va_Qi (S := Unit) (fun r _ => r = 0) (fun _ _ => True) (va_A [(x, .inr (13, [.ref bk, .ref tp, .ref sh, .ref sc, .ref he, .ref of])), (bk, .inr (1, [.int 0, .int 0, .int 0, .ref lc, .ref lr, .ref la, .ref le, .ref lw, .ref lp, .ref ltr, .ref stk]))] sz)) 0 0 (va_A [(x, .inr (13, [.ref bk, .ref tp, .ref sh, .ref sc, .ref he, .ref of])), (bk, .inr (1, [.int 0, .int 0, .int 0, .ref lc, .ref lr, .ref la, .ref le, .ref lw, .ref lp, .ref ltr, .ref stk]))] sz) := by
  refine Met.ofW (cc := cX12_boat) (maxL := 1) (ret := (some .int)) (by decide) rfl ?_
  intro p e s m args below meth c s₁ B hml hv
  obtain ⟨rfl, hsz, hP, hK, hD0, hN⟩ := hv
  have hx := B.exec
  have hb := B.bytes
  have hr := B.returns
  have hts := atoms_spec (ws := v_c_boat) B.pre
  have hown : s.vm.findClass RX12 = some m.cls := findClass_of_methodNamed B.named
  have hlocks := B.notSynchronized
  subst hsz
  have hD := hD0.self (sz := s.heap.size)
  generalize hAe : va_A [(x, .inr (13, [.ref bk, .ref tp, .ref sh, .ref sc, .ref he, .ref of])), (bk, .inr (1, [.int 0, .int 0, .int 0, .ref lc, .ref lr, .ref la, .ref le, .ref lw, .ref lp, .ref ltr, .ref stk]))] s.heap.size = A at hD ⊢
  have hA : ∀ q : Nat, s.heap.size ≤ q → A q := fun q h => by rw [← hAe]; exact Or.inr h
  have hS : va_S A s.heap s.heap [] := va_S.rf
  have hP : va_P (dC, dI) vwCl [(x, .inr (13, [.ref bk, .ref tp, .ref sh, .ref sc, .ref he, .ref of])), (bk, .inr (1, [.int 0, .int 0, .int 0, .ref lc, .ref lr, .ref la, .ref le, .ref lw, .ref lp, .ref ltr, .ref stk]))] s.heap := hP
  have hl := lv_entry ([.ref x]) (n := 1) (Nat.le_of_ble_eq_true rfl)
  rw [lg_entry_eq]
  generalize (lg_sl ([.ref x]) ++ List.replicate (1 - (lg_sl ([.ref x])).length) Slot.unset).toArray = ls at hl ⊢
  have hl : lv_has ls 1 [(0, .ref x)] := hl
  refine lv_aload_n hx hb dX12_boat_0 rfl (lv_at hl 0 rfl) ?_
  refine va_get (D := (dC, dI)) (ci := 13) (v := .ref bk) (C := RX12) (T := TX12) (N := 6) hx hb hts iw_c_boat_X12 hown hK hP 0 rfl rfl 0 (by decide) (hts (.fieldLink RX12 10 "UnlikeBoats" "book" "LUnlikeBoats$Book;") (List.mem_of_getElem? (i := 1) rfl)) (fun _ h9 => h9) rfl dX12_boat_1 ?_
  refine va_get (D := (dC, dI)) (ci := 1) (v := .int 0) (C := RX0) (T := TX0) (N := 11) hx hb hts iw_c_boat_X0 hown hK hP 1 rfl rfl 1 (by decide) (hts (.fieldLink RX12 63 "UnlikeBoats$Book" "boats" "I") (List.mem_of_getElem? (i := 2) rfl)) (fun _ h9 => h9) rfl dX12_boat_4 ?_
  refine lv_bipush (v := 16) hx hb dX12_boat_7 (by decide) ?_
  refine lv_icmp_lt (tgt := 14) hx hb dX12_boat_9 (by decide) (fun c1 => ?_) (fun c1 => by first | exact absurd c1 (by decide) | exact absurd (by decide) c1)
  refine lv_aload_n hx hb dX12_boat_14 rfl (lv_at hl 0 rfl) ?_
  refine va_get (D := (dC, dI)) (ci := 13) (v := .ref bk) (C := RX12) (T := TX12) (N := 6) hx hb hts iw_c_boat_X12 hown hK hP 0 rfl rfl 0 (by decide) (hts (.fieldLink RX12 10 "UnlikeBoats" "book" "LUnlikeBoats$Book;") (List.mem_of_getElem? (i := 1) rfl)) (fun _ h9 => h9) rfl dX12_boat_15 ?_
  refine lv_dup hx hb dX12_boat_18 rfl ?_
  refine va_get (D := (dC, dI)) (ci := 1) (v := .int 0) (C := RX0) (T := TX0) (N := 11) hx hb hts iw_c_boat_X0 hown hK hP 1 rfl rfl 1 (by decide) (hts (.fieldLink RX12 63 "UnlikeBoats$Book" "boats" "I") (List.mem_of_getElem? (i := 2) rfl)) (fun _ h9 => h9) rfl dX12_boat_19 ?_
  refine lv_iconst (v := 1) hx hb dX12_boat_22 (by decide) ?_
  refine lv_iadd hx hb dX12_boat_23 ?_
  refine lv_topi (fun y2 ey2 => ?_)
  obtain rfl : (1 : Int32) = y2 := (ey2.trans (by decide)).symm
  refine va_put (D := (dC, dI)) (ci := 1) (v := .int 1) (ty := .int) (C := RX0) (T := TX0) (N := 11) hx hb hts iw_c_boat_X0 tyX0 tyX0_ok nmX0 hown hK hP hD hS 1 rfl rfl 1 (by decide) (hts (.fieldLink RX12 63 "UnlikeBoats$Book" "boats" "I") (List.mem_of_getElem? (i := 2) rfl)) (fun _ h9 => h9) rfl (by decide +kernel) rfl rfl (Nat.le_of_ble_eq_true rfl) dX12_boat_24 (fun H locs hP hD hS => ?_)
  have hP : va_P (dC, dI) vwCl [(x, .inr (13, [.ref bk, .ref tp, .ref sh, .ref sc, .ref he, .ref of])), (bk, .inr (1, [.int 0, .int 1, .int 0, .ref lc, .ref lr, .ref la, .ref le, .ref lw, .ref lp, .ref ltr, .ref stk]))] H := hP
  have hD : va_D A [(x, .inr (13, [.ref bk, .ref tp, .ref sh, .ref sc, .ref he, .ref of])), (bk, .inr (1, [.int 0, .int 1, .int 0, .ref lc, .ref lr, .ref la, .ref le, .ref lw, .ref lp, .ref ltr, .ref stk]))] := hD
  refine lv_aload_n hx hb dX12_boat_27 rfl (lv_at hl 0 rfl) ?_
  refine va_get (D := (dC, dI)) (ci := 13) (v := .ref bk) (C := RX12) (T := TX12) (N := 6) hx hb hts iw_c_boat_X12 hown hK hP 0 rfl rfl 0 (by decide) (hts (.fieldLink RX12 10 "UnlikeBoats" "book" "LUnlikeBoats$Book;") (List.mem_of_getElem? (i := 1) rfl)) (fun _ h9 => h9) rfl dX12_boat_28 ?_
  refine va_get (D := (dC, dI)) (ci := 1) (v := .int 1) (C := RX0) (T := TX0) (N := 11) hx hb hts iw_c_boat_X0 hown hK hP 1 rfl rfl 1 (by decide) (hts (.fieldLink RX12 63 "UnlikeBoats$Book" "boats" "I") (List.mem_of_getElem? (i := 2) rfl)) (fun _ h9 => h9) rfl dX12_boat_31 ?_
  refine lv_iconst (v := 1) hx hb dX12_boat_34 (by decide) ?_
  refine lv_isub hx hb dX12_boat_35 ?_
  refine lv_topi (fun y3 ey3 => ?_)
  obtain rfl : (0 : Int32) = y3 := (ey3.trans (by decide)).symm
  exact W.iret (v := (0)) hx hb hr (fun t ht hW => ⟨⟨(0), (), rfl, rfl, trivial⟩, hS.F ht⟩) hS.2.2 dX12_boat_36
def A_c_end : List Cond := [.fieldLink RX12 19 "UnlikeBoats" "tape" "LUnlikeBoats$Tape;", .fieldLink RX12 103 "UnlikeBoats$Tape" "length" "I", .methodLink RX12 59 yX12_within, .static yX12_within, .initialized RX12, .code yX12_within cX12_within 3 (some .boolean)]
def v_c_end : List Cond := .code yX12_end cX12_end 2 (some .boolean) :: (A_c_end ++ wsX120 ++ wsX100)
theorem iw_c_end_X12 : ∀ w ∈ wsX120, w ∈ v_c_end := fun _ h => List.mem_cons_of_mem _ (List.mem_append_left _ (List.mem_append_right _ (h)))
theorem iw_c_end_X10 : ∀ w ∈ wsX100, w ∈ v_c_end := fun _ h => List.mem_cons_of_mem _ (List.mem_append_right _ (h))
theorem gb_c_end_c_within0 : GoodIn v_c_end (.code yX12_within cX12_within 3 (some .boolean) :: A_c_within) := (List.forall_mem_cons.mpr ⟨⟨List.mem_of_getElem? (i := 6) rfl, good_of_word rfl⟩, (fun _ h => nomatch h)⟩)
theorem gb_c_end_c_within : GoodIn v_c_end v_c_within := gb_c_end_c_within0
theorem g_c_end_c_within_59 : GoodIn v_c_end (va_wsS RX12 59 yX12_within v_c_within) := goodIn_app (List.forall_mem_cons.mpr ⟨⟨List.mem_of_getElem? (i := 3) rfl, good_of_word rfl⟩, (List.forall_mem_cons.mpr ⟨⟨List.mem_of_getElem? (i := 4) rfl, good_of_word rfl⟩, (List.forall_mem_cons.mpr ⟨⟨List.mem_of_getElem? (i := 5) rfl, good_of_word rfl⟩, (fun _ h => nomatch h)⟩)⟩)⟩) gb_c_end_c_within
set_option maxHeartbeats 4000000 in
set_option maxRecDepth 100000 in
theorem c_end (l : Launch) (dC : Nat → ClassId) (dI : Nat → Nat → Nat) (x : Nat) (bk : Nat) (tp : Nat) (sh : Nat) (sc : Nat) (he : Nat) (of : Nat) (tby : Nat) (tst : Nat) (tla : Nat) (tbe : Nat) (tsu : Nat) (n : Int32) (sz : Nat)  : Met l yX12_end v_c_end ({ frames := 1, cells := 0, slots := 0, locals := 40 }) (va_Pc [.ref x, .int n] (fun U => U.heap.size = sz ∧ va_P (dC, dI) vwCl [(x, .inr (13, [.ref bk, .ref tp, .ref sh, .ref sc, .ref he, .ref of])), (tp, .inr (11, [.ref tby, .int 0, .int 0, .int 0, .ref tst, .int 0, .ref tla, .ref tbe, .ref tsu, .int 0]))] U.heap ∧ va_K (dC, dI) vwCl [] U ∧ va_D (fun _ => True) [(x, .inr (13, [.ref bk, .ref tp, .ref sh, .ref sc, .ref he, .ref of])), (tp, .inr (11, [.ref tby, .int 0, .int 0, .int 0, .ref tst, .int 0, .ref tla, .ref tbe, .ref tsu, .int 0]))] ∧ ub_NX U)) (va_Qi (S := Unit) (fun r _ => r = if n < 0 ∨ 0 < n then 0 else 1) (fun _ _ => True) (va_A [(x, .inr (13, [.ref bk, .ref tp, .ref sh, .ref sc, .ref he, .ref of])), (tp, .inr (11, [.ref tby, .int 0, .int 0, .int 0, .ref tst, .int 0, .ref tla, .ref tbe, .ref tsu, .int 0]))] sz)) 0 0 (va_A [(x, .inr (13, [.ref bk, .ref tp, .ref sh, .ref sc, .ref he, .ref of])), (tp, .inr (11, [.ref tby, .int 0, .int 0, .int 0, .ref tst, .int 0, .ref tla, .ref tbe, .ref tsu, .int 0]))] sz) := by
  refine Met.ofW (cc := cX12_end) (maxL := 2) (ret := (some .boolean)) (by decide) rfl ?_
  intro p e s m args below meth c s₁ B hml hv
  obtain ⟨rfl, hsz, hP, hK, hD0, hN⟩ := hv
  have hx := B.exec
  have hb := B.bytes
  have hr := B.returns
  have hts := atoms_spec (ws := v_c_end) B.pre
  have hown : s.vm.findClass RX12 = some m.cls := findClass_of_methodNamed B.named
  have hlocks := B.notSynchronized
  subst hsz
  have hD := hD0.self (sz := s.heap.size)
  generalize hAe : va_A [(x, .inr (13, [.ref bk, .ref tp, .ref sh, .ref sc, .ref he, .ref of])), (tp, .inr (11, [.ref tby, .int 0, .int 0, .int 0, .ref tst, .int 0, .ref tla, .ref tbe, .ref tsu, .int 0]))] s.heap.size = A at hD ⊢
  have hA : ∀ q : Nat, s.heap.size ≤ q → A q := fun q h => by rw [← hAe]; exact Or.inr h
  have hS : va_S A s.heap s.heap [] := va_S.rf
  have hP : va_P (dC, dI) vwCl [(x, .inr (13, [.ref bk, .ref tp, .ref sh, .ref sc, .ref he, .ref of])), (tp, .inr (11, [.ref tby, .int 0, .int 0, .int 0, .ref tst, .int 0, .ref tla, .ref tbe, .ref tsu, .int 0]))] s.heap := hP
  have hl := lv_entry ([.ref x, .int n]) (n := 2) (Nat.le_of_ble_eq_true rfl)
  rw [lg_entry_eq]
  generalize (lg_sl ([.ref x, .int n]) ++ List.replicate (2 - (lg_sl ([.ref x, .int n])).length) Slot.unset).toArray = ls at hl ⊢
  have hl : lv_has ls 2 [(0, .ref x), (1, .int n)] := hl
  refine lv_iload_n hx hb dX12_end_0 rfl (lv_at hl 1 rfl) ?_
  refine lv_iconst (v := 0) hx hb dX12_end_1 (by decide) ?_
  refine lv_aload_n hx hb dX12_end_2 rfl (lv_at hl 0 rfl) ?_
  refine va_get (D := (dC, dI)) (ci := 13) (v := .ref tp) (C := RX12) (T := TX12) (N := 6) hx hb hts iw_c_end_X12 hown hK hP 0 rfl rfl 1 (by decide) (hts (.fieldLink RX12 19 "UnlikeBoats" "tape" "LUnlikeBoats$Tape;") (List.mem_of_getElem? (i := 1) rfl)) (fun _ h9 => h9) rfl dX12_end_3 ?_
  refine va_get (D := (dC, dI)) (ci := 11) (v := .int 0) (C := RX10) (T := TX10) (N := 10) hx hb hts iw_c_end_X10 hown hK hP 1 rfl rfl 1 (by decide) (hts (.fieldLink RX12 103 "UnlikeBoats$Tape" "length" "I") (List.mem_of_getElem? (i := 2) rfl)) (fun _ h9 => h9) rfl dX12_end_6 ?_
  refine va_calli (va_runS (As := [.int n, .int 0, .int 0]) (rest := []) ⟨hx, hb, hml, hown, hts⟩ (c_within l n (0) (0)) (va_cwS 3 hts g_c_end_c_within_59 rfl rfl rfl (by decide +kernel) ⟨Nat.le_of_ble_eq_true rfl, Nat.le_of_ble_eq_true rfl⟩) ⟨fun _ _ _ _ q => q, fun _ _ _ => ⟨rfl, trivial⟩⟩ rfl rfl hl.1 rfl (lv_room (Nat.le_of_ble_eq_true rfl)) dX12_end_9 ⟨Nat.le_of_ble_eq_true rfl, Nat.le_of_ble_eq_true rfl⟩) hS (fun _ _ h => h.elim) (fun _ h => h.elim) (fun r1 u2 t H1 locs ht hvm hw hB hz1 hk1 hS => ?_)
  have hP := ub_keep hP hk1
  generalize H1 = H at hP hS ⊢
  rcases hw with ⟨rfl, hw1, hw2⟩ | ⟨rfl, hw1⟩
  · --in
    have d3a := hw1
    have d3b := hw2
    refine lv_if_ne (tgt := 17) hx hb dX12_end_12 (by decide) (fun c4 => ?_) (fun c4 => by first | exact absurd c4 (by decide) | exact absurd (by decide) c4)
    refine lv_aload_n hx hb dX12_end_17 rfl (lv_at hl 0 rfl) ?_
    refine va_get (D := (dC, dI)) (ci := 13) (v := .ref tp) (C := RX12) (T := TX12) (N := 6) hx hb hts iw_c_end_X12 hown hK hP 0 rfl rfl 1 (by decide) (hts (.fieldLink RX12 19 "UnlikeBoats" "tape" "LUnlikeBoats$Tape;") (List.mem_of_getElem? (i := 1) rfl)) (fun _ h9 => h9) rfl dX12_end_18 ?_
    refine lv_iload_n hx hb dX12_end_21 rfl (lv_at hl 1 rfl) ?_
    refine va_put (D := (dC, dI)) (ci := 11) (v := .int n) (ty := .int) (C := RX10) (T := TX10) (N := 10) hx hb hts iw_c_end_X10 tyX10 tyX10_ok nmX10 hown hK hP hD hS 1 rfl rfl 1 (by decide) (hts (.fieldLink RX12 103 "UnlikeBoats$Tape" "length" "I") (List.mem_of_getElem? (i := 2) rfl)) (fun _ h9 => h9) rfl (by decide +kernel) rfl rfl (Nat.le_of_ble_eq_true rfl) dX12_end_22 (fun H locs hP hD hS => ?_)
    have hP : va_P (dC, dI) vwCl [(x, .inr (13, [.ref bk, .ref tp, .ref sh, .ref sc, .ref he, .ref of])), (tp, .inr (11, [.ref tby, .int n, .int 0, .int 0, .ref tst, .int 0, .ref tla, .ref tbe, .ref tsu, .int 0]))] H := hP
    have hD : va_D A [(x, .inr (13, [.ref bk, .ref tp, .ref sh, .ref sc, .ref he, .ref of])), (tp, .inr (11, [.ref tby, .int n, .int 0, .int 0, .ref tst, .int 0, .ref tla, .ref tbe, .ref tsu, .int 0]))] := hD
    refine lv_iconst (v := 1) hx hb dX12_end_25 (by decide) ?_
    exact W.zret (v := (1)) hx hb hr rfl (fun t ht hW => ⟨⟨(1), (), rfl, by rw [if_neg (fun hh => hh.elim d3a d3b)], trivial⟩, hS.F ht⟩) hS.2.2 dX12_end_26
  · --out
    have d5 := hw1
    refine lv_if_ne (tgt := 17) hx hb dX12_end_12 (by decide) (fun c6 => by first | exact absurd c6 (by decide) | exact absurd (by decide) c6) (fun c6 => ?_)
    refine lv_iconst (v := 0) hx hb dX12_end_15 (by decide) ?_
    exact W.zret (v := (0)) hx hb hr rfl (fun t ht hW => ⟨⟨(0), (), rfl, by rw [if_pos d5], trivial⟩, hS.F ht⟩) hS.2.2 dX12_end_16
def A_c_count : List Cond := [.fieldLink RX12 10 "UnlikeBoats" "book" "LUnlikeBoats$Book;", .fieldLink RX12 55 "UnlikeBoats$Book" "now" "I", .fieldLink RX12 63 "UnlikeBoats$Book" "boats" "I", .fieldLink RX12 73 "UnlikeBoats$Book" "certificates" "Ljava/util/ArrayList;", .methodLink RX12 77 yJx4a65c_size_8abf5, .instanceMethod yJx4a65c_size_8abf5, .selects RJx4a65c yJx4a65c_size_8abf5 yJx4a65c_size_8abf5, .initialized RJx4a65c, .fieldLink RX12 113 "UnlikeBoats$Book" "rules" "Ljava/util/ArrayList;", .fieldLink RX12 127 "UnlikeBoats$Book" "races" "Ljava/util/ArrayList;", .fieldLink RX12 154 "UnlikeBoats$Book" "results" "Ljava/util/ArrayList;", .fieldLink RX12 209 "UnlikeBoats$Book" "words" "Ljava/util/ArrayList;", .fieldLink RX12 220 "UnlikeBoats$Book" "protests" "Ljava/util/ArrayList;", .fieldLink RX12 19 "UnlikeBoats" "tape" "LUnlikeBoats$Tape;", .fieldLink RX12 103 "UnlikeBoats$Tape" "length" "I", .fieldLink RX12 181 "UnlikeBoats$Book" "redresses" "I", .methodLink RX12 328 yX0_disqualified, .instanceMethod yX0_disqualified, .selects RX0 yX0_disqualified yX0_disqualified, .initialized RX0, .code yJx4a65c_size_8abf5 cJx4a65c_size_8abf5 1 (some .int), .fieldLink RJx4a65c 48 "java/util/ArrayList" "size" "I", .code yX0_disqualified cX0_disqualified 3 (some .int), .fieldLink RX0 21 "UnlikeBoats$Book" "races" "Ljava/util/ArrayList;", .methodLink RX0 56 yJx4a65c_size_8abf5]
def v_c_count : List Cond := .code yX12_count cX12_count 2 (some .int) :: (A_c_count ++ wsX120 ++ wsX00 ++ wsJx4a65c0 ++ wsX100)
theorem iw_c_count_X12 : ∀ w ∈ wsX120, w ∈ v_c_count := fun _ h => List.mem_cons_of_mem _ (List.mem_append_left _ (List.mem_append_left _ (List.mem_append_left _ (List.mem_append_right _ (h)))))
theorem iw_c_count_X0 : ∀ w ∈ wsX00, w ∈ v_c_count := fun _ h => List.mem_cons_of_mem _ (List.mem_append_left _ (List.mem_append_left _ (List.mem_append_right _ (h))))
theorem iw_c_count_Jx4a65c : ∀ w ∈ wsJx4a65c0, w ∈ v_c_count := fun _ h => List.mem_cons_of_mem _ (List.mem_append_left _ (List.mem_append_right _ (h)))
theorem iw_c_count_X10 : ∀ w ∈ wsX100, w ∈ v_c_count := fun _ h => List.mem_cons_of_mem _ (List.mem_append_right _ (h))
theorem gb_c_count_c_size0 : GoodIn v_c_count (.code yJx4a65c_size_8abf5 cJx4a65c_size_8abf5 1 (some .int) :: A_c_size) := (List.forall_mem_cons.mpr ⟨⟨List.mem_of_getElem? (i := 21) rfl, good_of_word rfl⟩, (List.forall_mem_cons.mpr ⟨⟨List.mem_of_getElem? (i := 22) rfl, good_of_word rfl⟩, (fun _ h => nomatch h)⟩)⟩)
theorem gb_c_count_c_size : GoodIn v_c_count v_c_size := (goodIn_ca gb_c_count_c_size0 (goodIn_sub iw_c_count_Jx4a65c gw_Jx4a65c))
theorem g_c_count_c_size_77 : GoodIn v_c_count (wsV RX12 77 RJx4a65c yJx4a65c_size_8abf5 v_c_size) := goodIn_app (List.forall_mem_cons.mpr ⟨⟨List.mem_of_getElem? (i := 5) rfl, good_of_word rfl⟩, (List.forall_mem_cons.mpr ⟨⟨List.mem_of_getElem? (i := 6) rfl, good_of_word rfl⟩, (List.forall_mem_cons.mpr ⟨⟨List.mem_of_getElem? (i := 7) rfl, good_of_word rfl⟩, (List.forall_mem_cons.mpr ⟨⟨List.mem_of_getElem? (i := 8) rfl, good_of_word rfl⟩, (fun _ h => nomatch h)⟩)⟩)⟩)⟩) gb_c_count_c_size
theorem gb_c_count_c_disqualified00 : GoodIn v_c_count (.code yX0_disqualified cX0_disqualified 3 (some .int) :: A_c_disqualified0) := (List.forall_mem_cons.mpr ⟨⟨List.mem_of_getElem? (i := 23) rfl, good_of_word rfl⟩, (List.forall_mem_cons.mpr ⟨⟨List.mem_of_getElem? (i := 24) rfl, good_of_word rfl⟩, (List.forall_mem_cons.mpr ⟨⟨List.mem_of_getElem? (i := 25) rfl, good_of_word rfl⟩, (List.forall_mem_cons.mpr ⟨⟨List.mem_of_getElem? (i := 6) rfl, good_of_word rfl⟩, (List.forall_mem_cons.mpr ⟨⟨List.mem_of_getElem? (i := 7) rfl, good_of_word rfl⟩, (List.forall_mem_cons.mpr ⟨⟨List.mem_of_getElem? (i := 8) rfl, good_of_word rfl⟩, (List.forall_mem_cons.mpr ⟨⟨List.mem_of_getElem? (i := 21) rfl, good_of_word rfl⟩, (List.forall_mem_cons.mpr ⟨⟨List.mem_of_getElem? (i := 22) rfl, good_of_word rfl⟩, (fun _ h => nomatch h)⟩)⟩)⟩)⟩)⟩)⟩)⟩)⟩)
theorem gb_c_count_c_disqualified0 : GoodIn v_c_count v_c_disqualified0 := (goodIn_ca (goodIn_ca gb_c_count_c_disqualified00 (goodIn_sub iw_c_count_X0 gw_X0)) (goodIn_sub iw_c_count_Jx4a65c gw_Jx4a65c))
theorem g_c_count_c_disqualified0_328 : GoodIn v_c_count (wsV RX12 328 RX0 yX0_disqualified v_c_disqualified0) := goodIn_app (List.forall_mem_cons.mpr ⟨⟨List.mem_of_getElem? (i := 17) rfl, good_of_word rfl⟩, (List.forall_mem_cons.mpr ⟨⟨List.mem_of_getElem? (i := 18) rfl, good_of_word rfl⟩, (List.forall_mem_cons.mpr ⟨⟨List.mem_of_getElem? (i := 19) rfl, good_of_word rfl⟩, (List.forall_mem_cons.mpr ⟨⟨List.mem_of_getElem? (i := 20) rfl, good_of_word rfl⟩, (fun _ h => nomatch h)⟩)⟩)⟩)⟩) gb_c_count_c_disqualified0
set_option maxHeartbeats 4000000 in
set_option maxRecDepth 100000 in
theorem c_count (l : Launch) (dC : Nat → ClassId) (dI : Nat → Nat → Nat) (x : Nat) (bk : Nat) (tp : Nat) (sh : Nat) (sc : Nat) (he : Nat) (of : Nat) (lc : Nat) (lr : Nat) (la : Nat) (le : Nat) (lw : Nat) (lp : Nat) (ltr : Nat) (stk : Nat) (tby : Nat) (tst : Nat) (tla : Nat) (tbe : Nat) (tsu : Nat) (ed : Nat) (n : Int32)  : Met l yX12_count v_c_count ({ frames := 2, cells := 0, slots := 0, locals := 80 }) (va_Pc [.ref x, .int n] (fun U => va_P (dC, dI) vwCl [(x, .inr (13, [.ref bk, .ref tp, .ref sh, .ref sc, .ref he, .ref of])), (bk, .inr (1, [.int 0, .int 0, .int 0, .ref lc, .ref lr, .ref la, .ref le, .ref lw, .ref lp, .ref ltr, .ref stk])), (tp, .inr (11, [.ref tby, .int 0, .int 0, .int 0, .ref tst, .int 0, .ref tla, .ref tbe, .ref tsu, .int 0])), (lc, .inr (0, [.int 0, .ref ed, .int 0])), (lr, .inr (0, [.int 0, .ref ed, .int 0])), (la, .inr (0, [.int 0, .ref ed, .int 0])), (le, .inr (0, [.int 0, .ref ed, .int 0])), (lw, .inr (0, [.int 0, .ref ed, .int 0])), (lp, .inr (0, [.int 0, .ref ed, .int 0]))] U.heap ∧ va_K (dC, dI) vwCl [] U ∧ ub_NX U)) (va_Qi (S := Unit) (fun r _ => r = if n.toInt < 0 ∨ 10 < n.toInt then -1 else 0) (fun _ _ => True) (fun _ => False)) 0 0 (fun _ => False) := by
  refine Met.ofW (cc := cX12_count) (maxL := 2) (ret := (some .int)) (by decide) rfl ?_
  intro p e s m args below meth c s₁ B hml hv
  obtain ⟨rfl, hP, hK, hN⟩ := hv
  have hx := B.exec
  have hb := B.bytes
  have hr := B.returns
  have hts := atoms_spec (ws := v_c_count) B.pre
  have hown : s.vm.findClass RX12 = some m.cls := findClass_of_methodNamed B.named
  have hlocks := B.notSynchronized
  have hS : va_S (fun _ : Nat => False) s.heap s.heap [] := va_S.rf
  have hl := lv_entry ([.ref x, .int n]) (n := 2) (Nat.le_of_ble_eq_true rfl)
  rw [lg_entry_eq]
  generalize (lg_sl ([.ref x, .int n]) ++ List.replicate (2 - (lg_sl ([.ref x, .int n])).length) Slot.unset).toArray = ls at hl ⊢
  have hl : lv_has ls 2 [(0, .ref x), (1, .int n)] := hl
  refine lv_iload_n hx hb dX12_count_0 rfl (lv_at hl 1 rfl) ?_
  rcases (show (n.toInt < 0 ∨ 10 < n.toInt) ∨ n.toInt = 0 ∨ n.toInt = 1 ∨ n.toInt = 2 ∨ n.toInt = 3 ∨ n.toInt = 4 ∨ n.toInt = 5 ∨ n.toInt = 6 ∨ n.toInt = 7 ∨ n.toInt = 8 ∨ n.toInt = 9 ∨ n.toInt = 10 by omega) with c1 | c1 | c1 | c1 | c1 | c1 | c1 | c1 | c1 | c1 | c1 | c1
  · --None
    refine lv_tableOut (tgt := 166) hx hb dX12_count_1 c1 (by decide) ?_
    refine lv_iconst (v := -1) hx hb dX12_count_166 (by decide) ?_
    exact W.iret (v := (-1)) hx hb hr (fun t ht hW => ⟨⟨(-1), (), rfl, by rw [if_pos c1], trivial⟩, hS.F ht⟩) hS.2.2 dX12_count_167
  · --0
    refine lv_tableIn (off := 59) (tgt := 60) hx hb dX12_count_1 (by omega) (by omega) (by rw [c1]; rfl) (by decide) ?_
    refine lv_aload_n hx hb dX12_count_60 rfl (lv_at hl 0 rfl) ?_
    refine va_get (D := (dC, dI)) (ci := 13) (v := .ref bk) (C := RX12) (T := TX12) (N := 6) hx hb hts iw_c_count_X12 hown hK hP 0 rfl rfl 0 (by decide) (hts (.fieldLink RX12 10 "UnlikeBoats" "book" "LUnlikeBoats$Book;") (List.mem_of_getElem? (i := 1) rfl)) (fun _ h9 => h9) rfl dX12_count_61 ?_
    refine va_get (D := (dC, dI)) (ci := 1) (v := .int 0) (C := RX0) (T := TX0) (N := 11) hx hb hts iw_c_count_X0 hown hK hP 1 rfl rfl 0 (by decide) (hts (.fieldLink RX12 55 "UnlikeBoats$Book" "now" "I") (List.mem_of_getElem? (i := 2) rfl)) (fun _ h9 => h9) rfl dX12_count_64 ?_
    exact W.iret (v := (0)) hx hb hr (fun t ht hW => ⟨⟨(0), (), rfl, by rw [if_neg (by omega)], trivial⟩, hS.F ht⟩) hS.2.2 dX12_count_67
  · --1
    refine lv_tableIn (off := 67) (tgt := 68) hx hb dX12_count_1 (by omega) (by omega) (by rw [c1]; rfl) (by decide) ?_
    refine lv_aload_n hx hb dX12_count_68 rfl (lv_at hl 0 rfl) ?_
    refine va_get (D := (dC, dI)) (ci := 13) (v := .ref bk) (C := RX12) (T := TX12) (N := 6) hx hb hts iw_c_count_X12 hown hK hP 0 rfl rfl 0 (by decide) (hts (.fieldLink RX12 10 "UnlikeBoats" "book" "LUnlikeBoats$Book;") (List.mem_of_getElem? (i := 1) rfl)) (fun _ h9 => h9) rfl dX12_count_69 ?_
    refine va_get (D := (dC, dI)) (ci := 1) (v := .int 0) (C := RX0) (T := TX0) (N := 11) hx hb hts iw_c_count_X0 hown hK hP 1 rfl rfl 1 (by decide) (hts (.fieldLink RX12 63 "UnlikeBoats$Book" "boats" "I") (List.mem_of_getElem? (i := 3) rfl)) (fun _ h9 => h9) rfl dX12_count_72 ?_
    exact W.iret (v := (0)) hx hb hr (fun t ht hW => ⟨⟨(0), (), rfl, by rw [if_neg (by omega)], trivial⟩, hS.F ht⟩) hS.2.2 dX12_count_75
  · --2
    refine lv_tableIn (off := 75) (tgt := 76) hx hb dX12_count_1 (by omega) (by omega) (by rw [c1]; rfl) (by decide) ?_
    refine lv_aload_n hx hb dX12_count_76 rfl (lv_at hl 0 rfl) ?_
    refine va_get (D := (dC, dI)) (ci := 13) (v := .ref bk) (C := RX12) (T := TX12) (N := 6) hx hb hts iw_c_count_X12 hown hK hP 0 rfl rfl 0 (by decide) (hts (.fieldLink RX12 10 "UnlikeBoats" "book" "LUnlikeBoats$Book;") (List.mem_of_getElem? (i := 1) rfl)) (fun _ h9 => h9) rfl dX12_count_77 ?_
    refine va_get (D := (dC, dI)) (ci := 1) (v := .ref lc) (C := RX0) (T := TX0) (N := 11) hx hb hts iw_c_count_X0 hown hK hP 1 rfl rfl 3 (by decide) (hts (.fieldLink RX12 73 "UnlikeBoats$Book" "certificates" "Ljava/util/ArrayList;") (List.mem_of_getElem? (i := 4) rfl)) (fun _ h9 => h9) rfl dX12_count_80 ?_
    have hPc := hP.sub (ws' := [(lc, .inr (0, [.int 0, .ref ed, .int 0]))]) [3] rfl
    have hKc := hK.sub (tys' := []) [] rfl
    refine va_calli (va_runV (As := []) (rest := []) ⟨hx, hb, hml, hown, hts⟩ (c_size l dC dI lc (0) ed (0)) (cwV 0 hts g_c_count_c_size_77 rfl rfl rfl (by decide +kernel) ⟨Nat.le_of_ble_eq_true rfl, Nat.le_of_ble_eq_true rfl⟩) ⟨fun a U g mk q => by obtain ⟨e0, qP, qK⟩ := q; exact ⟨e0, qP, va_K.moved (u := U) (U := U.calling g mk a) (Vm.Alike.refl U.vm) qK⟩, va_recv hK hP (ci := 0) (q0 := 3) rfl rfl, fun U hU hW => ⟨rfl, by rw [hU]; exact hPc, va_K.moved hW.alike hKc⟩⟩ rfl rfl hl.1 rfl (lv_room (Nat.le_of_ble_eq_true rfl)) dX12_count_83 ⟨Nat.le_of_ble_eq_true rfl, Nat.le_of_ble_eq_true rfl⟩) hS (fun _ _ h => h.elim) (fun _ h => h.elim) (fun r2 u3 t H1 locs ht hvm hw hB hz1 hk1 hS => ?_)
    have hP := ub_keep hP hk1
    generalize H1 = H at hP hS ⊢
    obtain rfl : (0 : Int32) = r2 := hw.symm
    exact W.iret (v := (0)) hx hb hr (fun t ht hW => ⟨⟨(0), (), rfl, by rw [if_neg (by omega)], trivial⟩, hS.F ht⟩) hS.2.2 dX12_count_86
  · --3
    refine lv_tableIn (off := 86) (tgt := 87) hx hb dX12_count_1 (by omega) (by omega) (by rw [c1]; rfl) (by decide) ?_
    refine lv_aload_n hx hb dX12_count_87 rfl (lv_at hl 0 rfl) ?_
    refine va_get (D := (dC, dI)) (ci := 13) (v := .ref bk) (C := RX12) (T := TX12) (N := 6) hx hb hts iw_c_count_X12 hown hK hP 0 rfl rfl 0 (by decide) (hts (.fieldLink RX12 10 "UnlikeBoats" "book" "LUnlikeBoats$Book;") (List.mem_of_getElem? (i := 1) rfl)) (fun _ h9 => h9) rfl dX12_count_88 ?_
    refine va_get (D := (dC, dI)) (ci := 1) (v := .ref lr) (C := RX0) (T := TX0) (N := 11) hx hb hts iw_c_count_X0 hown hK hP 1 rfl rfl 4 (by decide) (hts (.fieldLink RX12 113 "UnlikeBoats$Book" "rules" "Ljava/util/ArrayList;") (List.mem_of_getElem? (i := 9) rfl)) (fun _ h9 => h9) rfl dX12_count_91 ?_
    have hPc := hP.sub (ws' := [(lr, .inr (0, [.int 0, .ref ed, .int 0]))]) [4] rfl
    have hKc := hK.sub (tys' := []) [] rfl
    refine va_calli (va_runV (As := []) (rest := []) ⟨hx, hb, hml, hown, hts⟩ (c_size l dC dI lr (0) ed (0)) (cwV 0 hts g_c_count_c_size_77 rfl rfl rfl (by decide +kernel) ⟨Nat.le_of_ble_eq_true rfl, Nat.le_of_ble_eq_true rfl⟩) ⟨fun a U g mk q => by obtain ⟨e0, qP, qK⟩ := q; exact ⟨e0, qP, va_K.moved (u := U) (U := U.calling g mk a) (Vm.Alike.refl U.vm) qK⟩, va_recv hK hP (ci := 0) (q0 := 4) rfl rfl, fun U hU hW => ⟨rfl, by rw [hU]; exact hPc, va_K.moved hW.alike hKc⟩⟩ rfl rfl hl.1 rfl (lv_room (Nat.le_of_ble_eq_true rfl)) dX12_count_94 ⟨Nat.le_of_ble_eq_true rfl, Nat.le_of_ble_eq_true rfl⟩) hS (fun _ _ h => h.elim) (fun _ h => h.elim) (fun r4 u5 t H1 locs ht hvm hw hB hz1 hk1 hS => ?_)
    have hP := ub_keep hP hk1
    generalize H1 = H at hP hS ⊢
    obtain rfl : (0 : Int32) = r4 := hw.symm
    exact W.iret (v := (0)) hx hb hr (fun t ht hW => ⟨⟨(0), (), rfl, by rw [if_neg (by omega)], trivial⟩, hS.F ht⟩) hS.2.2 dX12_count_97
  · --4
    refine lv_tableIn (off := 97) (tgt := 98) hx hb dX12_count_1 (by omega) (by omega) (by rw [c1]; rfl) (by decide) ?_
    refine lv_aload_n hx hb dX12_count_98 rfl (lv_at hl 0 rfl) ?_
    refine va_get (D := (dC, dI)) (ci := 13) (v := .ref bk) (C := RX12) (T := TX12) (N := 6) hx hb hts iw_c_count_X12 hown hK hP 0 rfl rfl 0 (by decide) (hts (.fieldLink RX12 10 "UnlikeBoats" "book" "LUnlikeBoats$Book;") (List.mem_of_getElem? (i := 1) rfl)) (fun _ h9 => h9) rfl dX12_count_99 ?_
    refine va_get (D := (dC, dI)) (ci := 1) (v := .ref la) (C := RX0) (T := TX0) (N := 11) hx hb hts iw_c_count_X0 hown hK hP 1 rfl rfl 5 (by decide) (hts (.fieldLink RX12 127 "UnlikeBoats$Book" "races" "Ljava/util/ArrayList;") (List.mem_of_getElem? (i := 10) rfl)) (fun _ h9 => h9) rfl dX12_count_102 ?_
    have hPc := hP.sub (ws' := [(la, .inr (0, [.int 0, .ref ed, .int 0]))]) [5] rfl
    have hKc := hK.sub (tys' := []) [] rfl
    refine va_calli (va_runV (As := []) (rest := []) ⟨hx, hb, hml, hown, hts⟩ (c_size l dC dI la (0) ed (0)) (cwV 0 hts g_c_count_c_size_77 rfl rfl rfl (by decide +kernel) ⟨Nat.le_of_ble_eq_true rfl, Nat.le_of_ble_eq_true rfl⟩) ⟨fun a U g mk q => by obtain ⟨e0, qP, qK⟩ := q; exact ⟨e0, qP, va_K.moved (u := U) (U := U.calling g mk a) (Vm.Alike.refl U.vm) qK⟩, va_recv hK hP (ci := 0) (q0 := 5) rfl rfl, fun U hU hW => ⟨rfl, by rw [hU]; exact hPc, va_K.moved hW.alike hKc⟩⟩ rfl rfl hl.1 rfl (lv_room (Nat.le_of_ble_eq_true rfl)) dX12_count_105 ⟨Nat.le_of_ble_eq_true rfl, Nat.le_of_ble_eq_true rfl⟩) hS (fun _ _ h => h.elim) (fun _ h => h.elim) (fun r6 u7 t H1 locs ht hvm hw hB hz1 hk1 hS => ?_)
    have hP := ub_keep hP hk1
    generalize H1 = H at hP hS ⊢
    obtain rfl : (0 : Int32) = r6 := hw.symm
    exact W.iret (v := (0)) hx hb hr (fun t ht hW => ⟨⟨(0), (), rfl, by rw [if_neg (by omega)], trivial⟩, hS.F ht⟩) hS.2.2 dX12_count_108
  · --5
    refine lv_tableIn (off := 108) (tgt := 109) hx hb dX12_count_1 (by omega) (by omega) (by rw [c1]; rfl) (by decide) ?_
    refine lv_aload_n hx hb dX12_count_109 rfl (lv_at hl 0 rfl) ?_
    refine va_get (D := (dC, dI)) (ci := 13) (v := .ref bk) (C := RX12) (T := TX12) (N := 6) hx hb hts iw_c_count_X12 hown hK hP 0 rfl rfl 0 (by decide) (hts (.fieldLink RX12 10 "UnlikeBoats" "book" "LUnlikeBoats$Book;") (List.mem_of_getElem? (i := 1) rfl)) (fun _ h9 => h9) rfl dX12_count_110 ?_
    refine va_get (D := (dC, dI)) (ci := 1) (v := .ref le) (C := RX0) (T := TX0) (N := 11) hx hb hts iw_c_count_X0 hown hK hP 1 rfl rfl 6 (by decide) (hts (.fieldLink RX12 154 "UnlikeBoats$Book" "results" "Ljava/util/ArrayList;") (List.mem_of_getElem? (i := 11) rfl)) (fun _ h9 => h9) rfl dX12_count_113 ?_
    have hPc := hP.sub (ws' := [(le, .inr (0, [.int 0, .ref ed, .int 0]))]) [6] rfl
    have hKc := hK.sub (tys' := []) [] rfl
    refine va_calli (va_runV (As := []) (rest := []) ⟨hx, hb, hml, hown, hts⟩ (c_size l dC dI le (0) ed (0)) (cwV 0 hts g_c_count_c_size_77 rfl rfl rfl (by decide +kernel) ⟨Nat.le_of_ble_eq_true rfl, Nat.le_of_ble_eq_true rfl⟩) ⟨fun a U g mk q => by obtain ⟨e0, qP, qK⟩ := q; exact ⟨e0, qP, va_K.moved (u := U) (U := U.calling g mk a) (Vm.Alike.refl U.vm) qK⟩, va_recv hK hP (ci := 0) (q0 := 6) rfl rfl, fun U hU hW => ⟨rfl, by rw [hU]; exact hPc, va_K.moved hW.alike hKc⟩⟩ rfl rfl hl.1 rfl (lv_room (Nat.le_of_ble_eq_true rfl)) dX12_count_116 ⟨Nat.le_of_ble_eq_true rfl, Nat.le_of_ble_eq_true rfl⟩) hS (fun _ _ h => h.elim) (fun _ h => h.elim) (fun r8 u9 t H1 locs ht hvm hw hB hz1 hk1 hS => ?_)
    have hP := ub_keep hP hk1
    generalize H1 = H at hP hS ⊢
    obtain rfl : (0 : Int32) = r8 := hw.symm
    exact W.iret (v := (0)) hx hb hr (fun t ht hW => ⟨⟨(0), (), rfl, by rw [if_neg (by omega)], trivial⟩, hS.F ht⟩) hS.2.2 dX12_count_119
  · --6
    refine lv_tableIn (off := 119) (tgt := 120) hx hb dX12_count_1 (by omega) (by omega) (by rw [c1]; rfl) (by decide) ?_
    refine lv_aload_n hx hb dX12_count_120 rfl (lv_at hl 0 rfl) ?_
    refine va_get (D := (dC, dI)) (ci := 13) (v := .ref bk) (C := RX12) (T := TX12) (N := 6) hx hb hts iw_c_count_X12 hown hK hP 0 rfl rfl 0 (by decide) (hts (.fieldLink RX12 10 "UnlikeBoats" "book" "LUnlikeBoats$Book;") (List.mem_of_getElem? (i := 1) rfl)) (fun _ h9 => h9) rfl dX12_count_121 ?_
    refine va_get (D := (dC, dI)) (ci := 1) (v := .ref lw) (C := RX0) (T := TX0) (N := 11) hx hb hts iw_c_count_X0 hown hK hP 1 rfl rfl 7 (by decide) (hts (.fieldLink RX12 209 "UnlikeBoats$Book" "words" "Ljava/util/ArrayList;") (List.mem_of_getElem? (i := 12) rfl)) (fun _ h9 => h9) rfl dX12_count_124 ?_
    have hPc := hP.sub (ws' := [(lw, .inr (0, [.int 0, .ref ed, .int 0]))]) [7] rfl
    have hKc := hK.sub (tys' := []) [] rfl
    refine va_calli (va_runV (As := []) (rest := []) ⟨hx, hb, hml, hown, hts⟩ (c_size l dC dI lw (0) ed (0)) (cwV 0 hts g_c_count_c_size_77 rfl rfl rfl (by decide +kernel) ⟨Nat.le_of_ble_eq_true rfl, Nat.le_of_ble_eq_true rfl⟩) ⟨fun a U g mk q => by obtain ⟨e0, qP, qK⟩ := q; exact ⟨e0, qP, va_K.moved (u := U) (U := U.calling g mk a) (Vm.Alike.refl U.vm) qK⟩, va_recv hK hP (ci := 0) (q0 := 7) rfl rfl, fun U hU hW => ⟨rfl, by rw [hU]; exact hPc, va_K.moved hW.alike hKc⟩⟩ rfl rfl hl.1 rfl (lv_room (Nat.le_of_ble_eq_true rfl)) dX12_count_127 ⟨Nat.le_of_ble_eq_true rfl, Nat.le_of_ble_eq_true rfl⟩) hS (fun _ _ h => h.elim) (fun _ h => h.elim) (fun r10 u11 t H1 locs ht hvm hw hB hz1 hk1 hS => ?_)
    have hP := ub_keep hP hk1
    generalize H1 = H at hP hS ⊢
    obtain rfl : (0 : Int32) = r10 := hw.symm
    exact W.iret (v := (0)) hx hb hr (fun t ht hW => ⟨⟨(0), (), rfl, by rw [if_neg (by omega)], trivial⟩, hS.F ht⟩) hS.2.2 dX12_count_130
  · --7
    refine lv_tableIn (off := 130) (tgt := 131) hx hb dX12_count_1 (by omega) (by omega) (by rw [c1]; rfl) (by decide) ?_
    refine lv_aload_n hx hb dX12_count_131 rfl (lv_at hl 0 rfl) ?_
    refine va_get (D := (dC, dI)) (ci := 13) (v := .ref bk) (C := RX12) (T := TX12) (N := 6) hx hb hts iw_c_count_X12 hown hK hP 0 rfl rfl 0 (by decide) (hts (.fieldLink RX12 10 "UnlikeBoats" "book" "LUnlikeBoats$Book;") (List.mem_of_getElem? (i := 1) rfl)) (fun _ h9 => h9) rfl dX12_count_132 ?_
    refine va_get (D := (dC, dI)) (ci := 1) (v := .ref lp) (C := RX0) (T := TX0) (N := 11) hx hb hts iw_c_count_X0 hown hK hP 1 rfl rfl 8 (by decide) (hts (.fieldLink RX12 220 "UnlikeBoats$Book" "protests" "Ljava/util/ArrayList;") (List.mem_of_getElem? (i := 13) rfl)) (fun _ h9 => h9) rfl dX12_count_135 ?_
    have hPc := hP.sub (ws' := [(lp, .inr (0, [.int 0, .ref ed, .int 0]))]) [8] rfl
    have hKc := hK.sub (tys' := []) [] rfl
    refine va_calli (va_runV (As := []) (rest := []) ⟨hx, hb, hml, hown, hts⟩ (c_size l dC dI lp (0) ed (0)) (cwV 0 hts g_c_count_c_size_77 rfl rfl rfl (by decide +kernel) ⟨Nat.le_of_ble_eq_true rfl, Nat.le_of_ble_eq_true rfl⟩) ⟨fun a U g mk q => by obtain ⟨e0, qP, qK⟩ := q; exact ⟨e0, qP, va_K.moved (u := U) (U := U.calling g mk a) (Vm.Alike.refl U.vm) qK⟩, va_recv hK hP (ci := 0) (q0 := 8) rfl rfl, fun U hU hW => ⟨rfl, by rw [hU]; exact hPc, va_K.moved hW.alike hKc⟩⟩ rfl rfl hl.1 rfl (lv_room (Nat.le_of_ble_eq_true rfl)) dX12_count_138 ⟨Nat.le_of_ble_eq_true rfl, Nat.le_of_ble_eq_true rfl⟩) hS (fun _ _ h => h.elim) (fun _ h => h.elim) (fun r12 u13 t H1 locs ht hvm hw hB hz1 hk1 hS => ?_)
    have hP := ub_keep hP hk1
    generalize H1 = H at hP hS ⊢
    obtain rfl : (0 : Int32) = r12 := hw.symm
    exact W.iret (v := (0)) hx hb hr (fun t ht hW => ⟨⟨(0), (), rfl, by rw [if_neg (by omega)], trivial⟩, hS.F ht⟩) hS.2.2 dX12_count_141
  · --8
    refine lv_tableIn (off := 141) (tgt := 142) hx hb dX12_count_1 (by omega) (by omega) (by rw [c1]; rfl) (by decide) ?_
    refine lv_aload_n hx hb dX12_count_142 rfl (lv_at hl 0 rfl) ?_
    refine va_get (D := (dC, dI)) (ci := 13) (v := .ref tp) (C := RX12) (T := TX12) (N := 6) hx hb hts iw_c_count_X12 hown hK hP 0 rfl rfl 1 (by decide) (hts (.fieldLink RX12 19 "UnlikeBoats" "tape" "LUnlikeBoats$Tape;") (List.mem_of_getElem? (i := 14) rfl)) (fun _ h9 => h9) rfl dX12_count_143 ?_
    refine va_get (D := (dC, dI)) (ci := 11) (v := .int 0) (C := RX10) (T := TX10) (N := 10) hx hb hts iw_c_count_X10 hown hK hP 2 rfl rfl 1 (by decide) (hts (.fieldLink RX12 103 "UnlikeBoats$Tape" "length" "I") (List.mem_of_getElem? (i := 15) rfl)) (fun _ h9 => h9) rfl dX12_count_146 ?_
    exact W.iret (v := (0)) hx hb hr (fun t ht hW => ⟨⟨(0), (), rfl, by rw [if_neg (by omega)], trivial⟩, hS.F ht⟩) hS.2.2 dX12_count_149
  · --9
    refine lv_tableIn (off := 149) (tgt := 150) hx hb dX12_count_1 (by omega) (by omega) (by rw [c1]; rfl) (by decide) ?_
    refine lv_aload_n hx hb dX12_count_150 rfl (lv_at hl 0 rfl) ?_
    refine va_get (D := (dC, dI)) (ci := 13) (v := .ref bk) (C := RX12) (T := TX12) (N := 6) hx hb hts iw_c_count_X12 hown hK hP 0 rfl rfl 0 (by decide) (hts (.fieldLink RX12 10 "UnlikeBoats" "book" "LUnlikeBoats$Book;") (List.mem_of_getElem? (i := 1) rfl)) (fun _ h9 => h9) rfl dX12_count_151 ?_
    refine va_get (D := (dC, dI)) (ci := 1) (v := .int 0) (C := RX0) (T := TX0) (N := 11) hx hb hts iw_c_count_X0 hown hK hP 1 rfl rfl 2 (by decide) (hts (.fieldLink RX12 181 "UnlikeBoats$Book" "redresses" "I") (List.mem_of_getElem? (i := 16) rfl)) (fun _ h9 => h9) rfl dX12_count_154 ?_
    exact W.iret (v := (0)) hx hb hr (fun t ht hW => ⟨⟨(0), (), rfl, by rw [if_neg (by omega)], trivial⟩, hS.F ht⟩) hS.2.2 dX12_count_157
  · --10
    refine lv_tableIn (off := 157) (tgt := 158) hx hb dX12_count_1 (by omega) (by omega) (by rw [c1]; rfl) (by decide) ?_
    refine lv_aload_n hx hb dX12_count_158 rfl (lv_at hl 0 rfl) ?_
    refine va_get (D := (dC, dI)) (ci := 13) (v := .ref bk) (C := RX12) (T := TX12) (N := 6) hx hb hts iw_c_count_X12 hown hK hP 0 rfl rfl 0 (by decide) (hts (.fieldLink RX12 10 "UnlikeBoats" "book" "LUnlikeBoats$Book;") (List.mem_of_getElem? (i := 1) rfl)) (fun _ h9 => h9) rfl dX12_count_159 ?_
    have hPc := hP.sub (ws' := [(bk, .inr (1, [.int 0, .int 0, .int 0, .ref lc, .ref lr, .ref la, .ref le, .ref lw, .ref lp, .ref ltr, .ref stk])), (la, .inr (0, [.int 0, .ref ed, .int 0]))]) [1, 5] rfl
    have hKc := hK.sub (tys' := []) [] rfl
    refine va_calli (va_runV (As := []) (rest := []) ⟨hx, hb, hml, hown, hts⟩ (c_disqualified0 l dC dI bk lc lr la le lw lp ltr stk ed) (cwV 0 hts g_c_count_c_disqualified0_328 rfl rfl rfl (by decide +kernel) ⟨Nat.le_of_ble_eq_true rfl, Nat.le_of_ble_eq_true rfl⟩) ⟨fun a U g mk q => by obtain ⟨e0, qP, qK, qN⟩ := q; exact ⟨e0, qP, va_K.moved (u := U) (U := U.calling g mk a) (Vm.Alike.refl U.vm) qK, ub_NX_c qN⟩, va_recv hK hP (ci := 1) (q0 := 1) rfl rfl, fun U hU hW => ⟨rfl, by rw [hU]; exact hPc, va_K.moved hW.alike hKc, ub_NX_w hW hN⟩⟩ rfl rfl hl.1 rfl (lv_room (Nat.le_of_ble_eq_true rfl)) dX12_count_162 ⟨Nat.le_of_ble_eq_true rfl, Nat.le_of_ble_eq_true rfl⟩) hS (fun _ _ h => h.elim) (fun _ h => h.elim) (fun r14 u15 t H1 locs ht hvm hw hB hz1 hk1 hS => ?_)
    have hP := ub_keep hP hk1
    generalize H1 = H at hP hS ⊢
    obtain rfl : (0 : Int32) = r14 := hw.symm
    exact W.iret (v := (0)) hx hb hr (fun t ht hW => ⟨⟨(0), (), rfl, by rw [if_neg (by omega)], trivial⟩, hS.F ht⟩) hS.2.2 dX12_count_165
def A_c_next1 : List Cond := [.fieldLink RX10 34 "UnlikeBoats$Tape" "fault" "I", .fieldLink RX10 31 "UnlikeBoats$Tape" "at" "I", .fieldLink RX10 27 "UnlikeBoats$Tape" "length" "I"]
def v_c_next1 : List Cond := .code yX10_next cX10_next 1 (some .int) :: (A_c_next1 ++ wsX100)
theorem iw_c_next1_X10 : ∀ w ∈ wsX100, w ∈ v_c_next1 := fun _ h => List.mem_cons_of_mem _ (List.mem_append_right _ (h))
set_option maxHeartbeats 4000000 in
set_option maxRecDepth 100000 in
theorem c_next1 (l : Launch) (dC : Nat → ClassId) (dI : Nat → Nat → Nat) (tp : Nat) (tby : Nat) (tst : Nat) (tla : Nat) (tbe : Nat) (tsu : Nat)  : Met l yX10_next v_c_next1 ({ frames := 0, cells := 0, slots := 0, locals := 0 }) (va_Pc [.ref tp] (fun U => va_P (dC, dI) vwCl [(tp, .inr (11, [.ref tby, .int 0, .int 0, .int (-1), .ref tst, .int 0, .ref tla, .ref tbe, .ref tsu, .int 0]))] U.heap ∧ va_K (dC, dI) vwCl [] U)) (va_Qi (S := Unit) (fun r _ => r = -1) (fun _ _ => True) (fun _ => False)) 0 0 (fun _ => False) := by
  refine Met.ofW (cc := cX10_next) (maxL := 1) (ret := (some .int)) (by decide) rfl ?_
  intro p e s m args below meth c s₁ B hml hv
  obtain ⟨rfl, hP, hK⟩ := hv
  have hx := B.exec
  have hb := B.bytes
  have hr := B.returns
  have hts := atoms_spec (ws := v_c_next1) B.pre
  have hown : s.vm.findClass RX10 = some m.cls := findClass_of_methodNamed B.named
  have hlocks := B.notSynchronized
  have hS : va_S (fun _ : Nat => False) s.heap s.heap [] := va_S.rf
  have hl := lv_entry ([.ref tp]) (n := 1) (Nat.le_of_ble_eq_true rfl)
  rw [lg_entry_eq]
  generalize (lg_sl ([.ref tp]) ++ List.replicate (1 - (lg_sl ([.ref tp])).length) Slot.unset).toArray = ls at hl ⊢
  have hl : lv_has ls 1 [(0, .ref tp)] := hl
  refine lv_aload_n hx hb dX10_next_0 rfl (lv_at hl 0 rfl) ?_
  refine va_get (D := (dC, dI)) (ci := 11) (v := .int (-1)) (C := RX10) (T := TX10) (N := 10) hx hb hts iw_c_next1_X10 hown hK hP 0 rfl rfl 3 (by decide) (hts (.fieldLink RX10 34 "UnlikeBoats$Tape" "fault" "I") (List.mem_of_getElem? (i := 1) rfl)) (fun _ h9 => h9) rfl dX10_next_1 ?_
  refine lv_iconst (v := -1) hx hb dX10_next_4 (by decide) ?_
  refine lv_icmp_eq (tgt := 11) hx hb dX10_next_5 (by decide) (fun c1 => ?_) (fun c1 => by first | exact absurd c1 (by decide) | exact absurd (by decide) c1)
  refine lv_aload_n hx hb dX10_next_11 rfl (lv_at hl 0 rfl) ?_
  refine va_get (D := (dC, dI)) (ci := 11) (v := .int 0) (C := RX10) (T := TX10) (N := 10) hx hb hts iw_c_next1_X10 hown hK hP 0 rfl rfl 2 (by decide) (hts (.fieldLink RX10 31 "UnlikeBoats$Tape" "at" "I") (List.mem_of_getElem? (i := 2) rfl)) (fun _ h9 => h9) rfl dX10_next_12 ?_
  refine lv_aload_n hx hb dX10_next_15 rfl (lv_at hl 0 rfl) ?_
  refine va_get (D := (dC, dI)) (ci := 11) (v := .int 0) (C := RX10) (T := TX10) (N := 10) hx hb hts iw_c_next1_X10 hown hK hP 0 rfl rfl 1 (by decide) (hts (.fieldLink RX10 27 "UnlikeBoats$Tape" "length" "I") (List.mem_of_getElem? (i := 3) rfl)) (fun _ h9 => h9) rfl dX10_next_16 ?_
  refine lv_icmp_ge (tgt := 49) hx hb dX10_next_19 (by decide) (fun c2 => ?_) (fun c2 => by first | exact absurd c2 (by decide) | exact absurd (by decide) c2)
  refine lv_aload_n hx hb dX10_next_49 rfl (lv_at hl 0 rfl) ?_
  refine va_get (D := (dC, dI)) (ci := 11) (v := .int 0) (C := RX10) (T := TX10) (N := 10) hx hb hts iw_c_next1_X10 hown hK hP 0 rfl rfl 2 (by decide) (hts (.fieldLink RX10 31 "UnlikeBoats$Tape" "at" "I") (List.mem_of_getElem? (i := 2) rfl)) (fun _ h9 => h9) rfl dX10_next_50 ?_
  refine lv_aload_n hx hb dX10_next_53 rfl (lv_at hl 0 rfl) ?_
  refine va_get (D := (dC, dI)) (ci := 11) (v := .int 0) (C := RX10) (T := TX10) (N := 10) hx hb hts iw_c_next1_X10 hown hK hP 0 rfl rfl 1 (by decide) (hts (.fieldLink RX10 27 "UnlikeBoats$Tape" "length" "I") (List.mem_of_getElem? (i := 3) rfl)) (fun _ h9 => h9) rfl dX10_next_54 ?_
  refine lv_icmp_ge (tgt := 72) hx hb dX10_next_57 (by decide) (fun c3 => ?_) (fun c3 => by first | exact absurd c3 (by decide) | exact absurd (by decide) c3)
  refine lv_iconst (v := -1) hx hb dX10_next_72 (by decide) ?_
  exact W.iret (v := (-1)) hx hb hr (fun t ht hW => ⟨⟨(-1), (), rfl, rfl, trivial⟩, hS.F ht⟩) hS.2.2 dX10_next_73
def A_c_next2 : List Cond := [.fieldLink RX10 34 "UnlikeBoats$Tape" "fault" "I"]
def v_c_next2 : List Cond := .code yX10_next cX10_next 1 (some .int) :: (A_c_next2 ++ wsX100)
theorem iw_c_next2_X10 : ∀ w ∈ wsX100, w ∈ v_c_next2 := fun _ h => List.mem_cons_of_mem _ (List.mem_append_right _ (h))
set_option maxHeartbeats 4000000 in
set_option maxRecDepth 100000 in
theorem c_next2 (l : Launch) (dC : Nat → ClassId) (dI : Nat → Nat → Nat) (tp : Nat) (tby : Nat) (tst : Nat) (tla : Nat) (tbe : Nat) (tsu : Nat)  : Met l yX10_next v_c_next2 ({ frames := 0, cells := 0, slots := 0, locals := 0 }) (va_Pc [.ref tp] (fun U => va_P (dC, dI) vwCl [(tp, .inr (11, [.ref tby, .int 0, .int 0, .int 0, .ref tst, .int 0, .ref tla, .ref tbe, .ref tsu, .int 0]))] U.heap ∧ va_K (dC, dI) vwCl [] U)) (va_Qi (S := Unit) (fun r _ => r = -2) (fun _ _ => True) (fun _ => False)) 0 0 (fun _ => False) := by
  refine Met.ofW (cc := cX10_next) (maxL := 1) (ret := (some .int)) (by decide) rfl ?_
  intro p e s m args below meth c s₁ B hml hv
  obtain ⟨rfl, hP, hK⟩ := hv
  have hx := B.exec
  have hb := B.bytes
  have hr := B.returns
  have hts := atoms_spec (ws := v_c_next2) B.pre
  have hown : s.vm.findClass RX10 = some m.cls := findClass_of_methodNamed B.named
  have hlocks := B.notSynchronized
  have hS : va_S (fun _ : Nat => False) s.heap s.heap [] := va_S.rf
  have hl := lv_entry ([.ref tp]) (n := 1) (Nat.le_of_ble_eq_true rfl)
  rw [lg_entry_eq]
  generalize (lg_sl ([.ref tp]) ++ List.replicate (1 - (lg_sl ([.ref tp])).length) Slot.unset).toArray = ls at hl ⊢
  have hl : lv_has ls 1 [(0, .ref tp)] := hl
  refine lv_aload_n hx hb dX10_next_0 rfl (lv_at hl 0 rfl) ?_
  refine va_get (D := (dC, dI)) (ci := 11) (v := .int 0) (C := RX10) (T := TX10) (N := 10) hx hb hts iw_c_next2_X10 hown hK hP 0 rfl rfl 3 (by decide) (hts (.fieldLink RX10 34 "UnlikeBoats$Tape" "fault" "I") (List.mem_of_getElem? (i := 1) rfl)) (fun _ h9 => h9) rfl dX10_next_1 ?_
  refine lv_iconst (v := -1) hx hb dX10_next_4 (by decide) ?_
  refine lv_icmp_eq (tgt := 11) hx hb dX10_next_5 (by decide) (fun c1 => by first | exact absurd c1 (by decide) | exact absurd (by decide) c1) (fun c1 => ?_)
  refine lv_bipush (v := -2) hx hb dX10_next_8 (by decide) ?_
  exact W.iret (v := (-2)) hx hb hr (fun t ht hW => ⟨⟨(-2), (), rfl, rfl, trivial⟩, hS.F ht⟩) hS.2.2 dX10_next_10
def A_c_fail1 : List Cond := [.fieldLink RX10 34 "UnlikeBoats$Tape" "fault" "I", .fieldLink RX10 31 "UnlikeBoats$Tape" "at" "I"]
def v_c_fail1 : List Cond := .code yX10_fail cX10_fail 1 none :: (A_c_fail1 ++ wsX100)
theorem iw_c_fail1_X10 : ∀ w ∈ wsX100, w ∈ v_c_fail1 := fun _ h => List.mem_cons_of_mem _ (List.mem_append_right _ (h))
set_option maxHeartbeats 4000000 in
set_option maxRecDepth 100000 in
theorem c_fail1 (l : Launch) (dC : Nat → ClassId) (dI : Nat → Nat → Nat) (tp : Nat) (tby : Nat) (tst : Nat) (tla : Nat) (tbe : Nat) (tsu : Nat) (sz : Nat)  : Met l yX10_fail v_c_fail1 ({ frames := 0, cells := 0, slots := 0, locals := 0 }) (va_Pc [.ref tp] (fun U => U.heap.size = sz ∧ va_P (dC, dI) vwCl [(tp, .inr (11, [.ref tby, .int 0, .int 0, .int (-1), .ref tst, .int 0, .ref tla, .ref tbe, .ref tsu, .int 0]))] U.heap ∧ va_K (dC, dI) vwCl [] U ∧ va_D (fun _ => True) [(tp, .inr (11, [.ref tby, .int 0, .int 0, .int (-1), .ref tst, .int 0, .ref tla, .ref tbe, .ref tsu, .int 0]))])) (va_Qv (S := Unit) (fun _ => True) (fun u t => va_P (dC, dI) vwCl [(tp, .inr (11, [.ref tby, .int 0, .int 0, .int 0, .ref tst, .int 0, .ref tla, .ref tbe, .ref tsu, .int 0]))] t.heap ∧ va_K (dC, dI) vwCl [] t ∧ va_D (va_A [(tp, .inr (11, [.ref tby, .int 0, .int 0, .int (-1), .ref tst, .int 0, .ref tla, .ref tbe, .ref tsu, .int 0]))] sz) [(tp, .inr (11, [.ref tby, .int 0, .int 0, .int 0, .ref tst, .int 0, .ref tla, .ref tbe, .ref tsu, .int 0]))]) (va_A [(tp, .inr (11, [.ref tby, .int 0, .int 0, .int (-1), .ref tst, .int 0, .ref tla, .ref tbe, .ref tsu, .int 0]))] sz)) 0 0 (va_A [(tp, .inr (11, [.ref tby, .int 0, .int 0, .int (-1), .ref tst, .int 0, .ref tla, .ref tbe, .ref tsu, .int 0]))] sz) := by
  refine Met.ofW (cc := cX10_fail) (maxL := 1) (ret := none) (by decide) rfl ?_
  intro p e s m args below meth c s₁ B hml hv
  obtain ⟨rfl, hsz, hP, hK, hD0⟩ := hv
  have hx := B.exec
  have hb := B.bytes
  have hr := B.returns
  have hts := atoms_spec (ws := v_c_fail1) B.pre
  have hown : s.vm.findClass RX10 = some m.cls := findClass_of_methodNamed B.named
  have hlocks := B.notSynchronized
  subst hsz
  have hD := hD0.self (sz := s.heap.size)
  generalize hAe : va_A [(tp, .inr (11, [.ref tby, .int 0, .int 0, .int (-1), .ref tst, .int 0, .ref tla, .ref tbe, .ref tsu, .int 0]))] s.heap.size = A at hD ⊢
  have hA : ∀ q : Nat, s.heap.size ≤ q → A q := fun q h => by rw [← hAe]; exact Or.inr h
  have hS : va_S A s.heap s.heap [] := va_S.rf
  have hP : va_P (dC, dI) vwCl [(tp, .inr (11, [.ref tby, .int 0, .int 0, .int (-1), .ref tst, .int 0, .ref tla, .ref tbe, .ref tsu, .int 0]))] s.heap := hP
  have hl := lv_entry ([.ref tp]) (n := 1) (Nat.le_of_ble_eq_true rfl)
  rw [lg_entry_eq]
  generalize (lg_sl ([.ref tp]) ++ List.replicate (1 - (lg_sl ([.ref tp])).length) Slot.unset).toArray = ls at hl ⊢
  have hl : lv_has ls 1 [(0, .ref tp)] := hl
  refine lv_aload_n hx hb dX10_fail_0 rfl (lv_at hl 0 rfl) ?_
  refine va_get (D := (dC, dI)) (ci := 11) (v := .int (-1)) (C := RX10) (T := TX10) (N := 10) hx hb hts iw_c_fail1_X10 hown hK hP 0 rfl rfl 3 (by decide) (hts (.fieldLink RX10 34 "UnlikeBoats$Tape" "fault" "I") (List.mem_of_getElem? (i := 1) rfl)) (fun _ h9 => h9) rfl dX10_fail_1 ?_
  refine lv_iconst (v := -1) hx hb dX10_fail_4 (by decide) ?_
  refine lv_icmp_ne (tgt := 16) hx hb dX10_fail_5 (by decide) (fun c1 => by first | exact absurd c1 (by decide) | exact absurd (by decide) c1) (fun c1 => ?_)
  refine lv_aload_n hx hb dX10_fail_8 rfl (lv_at hl 0 rfl) ?_
  refine lv_aload_n hx hb dX10_fail_9 rfl (lv_at hl 0 rfl) ?_
  refine va_get (D := (dC, dI)) (ci := 11) (v := .int 0) (C := RX10) (T := TX10) (N := 10) hx hb hts iw_c_fail1_X10 hown hK hP 0 rfl rfl 2 (by decide) (hts (.fieldLink RX10 31 "UnlikeBoats$Tape" "at" "I") (List.mem_of_getElem? (i := 2) rfl)) (fun _ h9 => h9) rfl dX10_fail_10 ?_
  refine va_put (D := (dC, dI)) (ci := 11) (v := .int 0) (ty := .int) (C := RX10) (T := TX10) (N := 10) hx hb hts iw_c_fail1_X10 tyX10 tyX10_ok nmX10 hown hK hP hD hS 0 rfl rfl 3 (by decide) (hts (.fieldLink RX10 34 "UnlikeBoats$Tape" "fault" "I") (List.mem_of_getElem? (i := 1) rfl)) (fun _ h9 => h9) rfl (by decide +kernel) rfl rfl (Nat.le_of_ble_eq_true rfl) dX10_fail_13 (fun H locs hP hD hS => ?_)
  have hP : va_P (dC, dI) vwCl [(tp, .inr (11, [.ref tby, .int 0, .int 0, .int 0, .ref tst, .int 0, .ref tla, .ref tbe, .ref tsu, .int 0]))] H := hP
  have hD : va_D A [(tp, .inr (11, [.ref tby, .int 0, .int 0, .int 0, .ref tst, .int 0, .ref tla, .ref tbe, .ref tsu, .int 0]))] := hD
  have hP9 := hP.sub (ws' := [(tp, .inr (11, [.ref tby, .int 0, .int 0, .int 0, .ref tst, .int 0, .ref tla, .ref tbe, .ref tsu, .int 0]))]) [0] rfl
  have hD9 := hD.sub (ws' := [(tp, .inr (11, [.ref tby, .int 0, .int 0, .int 0, .ref tst, .int 0, .ref tla, .ref tbe, .ref tsu, .int 0]))]) [0] (by decide) rfl
  have hK9 := hK.sub (tys' := []) [] rfl
  exact W.vret hx hb hr (fun t ht hW => ⟨⟨(), rfl, trivial, (by rw [ht]; exact hP9), va_K.moved hW.alike hK9, hD9⟩, hS.F ht⟩) hS.2.2 dX10_fail_16
def A_c_fail2 : List Cond := [.fieldLink RX10 34 "UnlikeBoats$Tape" "fault" "I"]
def v_c_fail2 : List Cond := .code yX10_fail cX10_fail 1 none :: (A_c_fail2 ++ wsX100)
theorem iw_c_fail2_X10 : ∀ w ∈ wsX100, w ∈ v_c_fail2 := fun _ h => List.mem_cons_of_mem _ (List.mem_append_right _ (h))
set_option maxHeartbeats 4000000 in
set_option maxRecDepth 100000 in
theorem c_fail2 (l : Launch) (dC : Nat → ClassId) (dI : Nat → Nat → Nat) (tp : Nat) (tby : Nat) (tst : Nat) (tla : Nat) (tbe : Nat) (tsu : Nat) (sz : Nat)  : Met l yX10_fail v_c_fail2 ({ frames := 0, cells := 0, slots := 0, locals := 0 }) (va_Pc [.ref tp] (fun U => U.heap.size = sz ∧ va_P (dC, dI) vwCl [(tp, .inr (11, [.ref tby, .int 0, .int 0, .int 0, .ref tst, .int 0, .ref tla, .ref tbe, .ref tsu, .int 0]))] U.heap ∧ va_K (dC, dI) vwCl [] U ∧ va_D (fun _ => True) [(tp, .inr (11, [.ref tby, .int 0, .int 0, .int 0, .ref tst, .int 0, .ref tla, .ref tbe, .ref tsu, .int 0]))])) (va_Qv (S := Unit) (fun _ => True) (fun u t => va_P (dC, dI) vwCl [(tp, .inr (11, [.ref tby, .int 0, .int 0, .int 0, .ref tst, .int 0, .ref tla, .ref tbe, .ref tsu, .int 0]))] t.heap ∧ va_K (dC, dI) vwCl [] t ∧ va_D (va_A [(tp, .inr (11, [.ref tby, .int 0, .int 0, .int 0, .ref tst, .int 0, .ref tla, .ref tbe, .ref tsu, .int 0]))] sz) [(tp, .inr (11, [.ref tby, .int 0, .int 0, .int 0, .ref tst, .int 0, .ref tla, .ref tbe, .ref tsu, .int 0]))]) (va_A [(tp, .inr (11, [.ref tby, .int 0, .int 0, .int 0, .ref tst, .int 0, .ref tla, .ref tbe, .ref tsu, .int 0]))] sz)) 0 0 (va_A [(tp, .inr (11, [.ref tby, .int 0, .int 0, .int 0, .ref tst, .int 0, .ref tla, .ref tbe, .ref tsu, .int 0]))] sz) := by
  refine Met.ofW (cc := cX10_fail) (maxL := 1) (ret := none) (by decide) rfl ?_
  intro p e s m args below meth c s₁ B hml hv
  obtain ⟨rfl, hsz, hP, hK, hD0⟩ := hv
  have hx := B.exec
  have hb := B.bytes
  have hr := B.returns
  have hts := atoms_spec (ws := v_c_fail2) B.pre
  have hown : s.vm.findClass RX10 = some m.cls := findClass_of_methodNamed B.named
  have hlocks := B.notSynchronized
  subst hsz
  have hD := hD0.self (sz := s.heap.size)
  generalize hAe : va_A [(tp, .inr (11, [.ref tby, .int 0, .int 0, .int 0, .ref tst, .int 0, .ref tla, .ref tbe, .ref tsu, .int 0]))] s.heap.size = A at hD ⊢
  have hA : ∀ q : Nat, s.heap.size ≤ q → A q := fun q h => by rw [← hAe]; exact Or.inr h
  have hS : va_S A s.heap s.heap [] := va_S.rf
  have hP : va_P (dC, dI) vwCl [(tp, .inr (11, [.ref tby, .int 0, .int 0, .int 0, .ref tst, .int 0, .ref tla, .ref tbe, .ref tsu, .int 0]))] s.heap := hP
  have hl := lv_entry ([.ref tp]) (n := 1) (Nat.le_of_ble_eq_true rfl)
  rw [lg_entry_eq]
  generalize (lg_sl ([.ref tp]) ++ List.replicate (1 - (lg_sl ([.ref tp])).length) Slot.unset).toArray = ls at hl ⊢
  have hl : lv_has ls 1 [(0, .ref tp)] := hl
  refine lv_aload_n hx hb dX10_fail_0 rfl (lv_at hl 0 rfl) ?_
  refine va_get (D := (dC, dI)) (ci := 11) (v := .int 0) (C := RX10) (T := TX10) (N := 10) hx hb hts iw_c_fail2_X10 hown hK hP 0 rfl rfl 3 (by decide) (hts (.fieldLink RX10 34 "UnlikeBoats$Tape" "fault" "I") (List.mem_of_getElem? (i := 1) rfl)) (fun _ h9 => h9) rfl dX10_fail_1 ?_
  refine lv_iconst (v := -1) hx hb dX10_fail_4 (by decide) ?_
  refine lv_icmp_ne (tgt := 16) hx hb dX10_fail_5 (by decide) (fun c1 => ?_) (fun c1 => by first | exact absurd c1 (by decide) | exact absurd (by decide) c1)
  have hP9 := hP.sub (ws' := [(tp, .inr (11, [.ref tby, .int 0, .int 0, .int 0, .ref tst, .int 0, .ref tla, .ref tbe, .ref tsu, .int 0]))]) [0] rfl
  have hD9 := hD.sub (ws' := [(tp, .inr (11, [.ref tby, .int 0, .int 0, .int 0, .ref tst, .int 0, .ref tla, .ref tbe, .ref tsu, .int 0]))]) [0] (by decide) rfl
  have hK9 := hK.sub (tys' := []) [] rfl
  exact W.vret hx hb hr (fun t ht hW => ⟨⟨(), rfl, trivial, (by rw [ht]; exact hP9), va_K.moved hW.alike hK9, hD9⟩, hS.F ht⟩) hS.2.2 dX10_fail_16
def A_c_readClause : List Cond := [.methodLink RX10 46 yX10_next, .instanceMethod yX10_next, .selects RX10 yX10_next yX10_next, .initialized RX10, .initialized RX12, .static yX12_isOneOf, .methodLink RX10 50 yX10_fail, .instanceMethod yX10_fail, .selects RX10 yX10_fail yX10_fail, .code yX10_next cX10_next 1 (some .int), .fieldLink RX10 34 "UnlikeBoats$Tape" "fault" "I", .fieldLink RX10 31 "UnlikeBoats$Tape" "at" "I", .fieldLink RX10 27 "UnlikeBoats$Tape" "length" "I", .code yX12_isOneOf cX12_isOneOf 2 (some .boolean), .code yX10_fail cX10_fail 1 none]
def v_c_readClause : List Cond := .code yX10_readClause cX10_readClause 3 none :: (A_c_readClause ++ wsX100)
theorem iw_c_readClause_X10 : ∀ w ∈ wsX100, w ∈ v_c_readClause := fun _ h => List.mem_cons_of_mem _ (List.mem_append_right _ (h))
theorem gb_c_readClause_c_next10 : GoodIn v_c_readClause (.code yX10_next cX10_next 1 (some .int) :: A_c_next1) := (List.forall_mem_cons.mpr ⟨⟨List.mem_of_getElem? (i := 10) rfl, good_of_word rfl⟩, (List.forall_mem_cons.mpr ⟨⟨List.mem_of_getElem? (i := 11) rfl, good_of_word rfl⟩, (List.forall_mem_cons.mpr ⟨⟨List.mem_of_getElem? (i := 12) rfl, good_of_word rfl⟩, (List.forall_mem_cons.mpr ⟨⟨List.mem_of_getElem? (i := 13) rfl, good_of_word rfl⟩, (fun _ h => nomatch h)⟩)⟩)⟩)⟩)
theorem gb_c_readClause_c_next1 : GoodIn v_c_readClause v_c_next1 := (goodIn_ca gb_c_readClause_c_next10 (goodIn_sub iw_c_readClause_X10 gw_X10))
theorem g_c_readClause_c_next1_46 : GoodIn v_c_readClause (wsV RX10 46 RX10 yX10_next v_c_next1) := goodIn_app (List.forall_mem_cons.mpr ⟨⟨List.mem_of_getElem? (i := 1) rfl, good_of_word rfl⟩, (List.forall_mem_cons.mpr ⟨⟨List.mem_of_getElem? (i := 2) rfl, good_of_word rfl⟩, (List.forall_mem_cons.mpr ⟨⟨List.mem_of_getElem? (i := 3) rfl, good_of_word rfl⟩, (List.forall_mem_cons.mpr ⟨⟨List.mem_of_getElem? (i := 4) rfl, good_of_word rfl⟩, (fun _ h => nomatch h)⟩)⟩)⟩)⟩) gb_c_readClause_c_next1
theorem gb_c_readClause_c_isOneOf00 : GoodIn v_c_readClause (.code yX12_isOneOf cX12_isOneOf 2 (some .boolean) :: A_c_isOneOf0) := (List.forall_mem_cons.mpr ⟨⟨List.mem_of_getElem? (i := 14) rfl, good_of_word rfl⟩, (fun _ h => nomatch h)⟩)
theorem gb_c_readClause_c_isOneOf0 : GoodIn v_c_readClause v_c_isOneOf0 := gb_c_readClause_c_isOneOf00
theorem g_c_readClause_c_isOneOf0 : GoodIn v_c_readClause (v_c_isOneOf0) := gb_c_readClause_c_isOneOf0
theorem gb_c_readClause_c_fail10 : GoodIn v_c_readClause (.code yX10_fail cX10_fail 1 none :: A_c_fail1) := (List.forall_mem_cons.mpr ⟨⟨List.mem_of_getElem? (i := 15) rfl, good_of_word rfl⟩, (List.forall_mem_cons.mpr ⟨⟨List.mem_of_getElem? (i := 11) rfl, good_of_word rfl⟩, (List.forall_mem_cons.mpr ⟨⟨List.mem_of_getElem? (i := 12) rfl, good_of_word rfl⟩, (fun _ h => nomatch h)⟩)⟩)⟩)
theorem gb_c_readClause_c_fail1 : GoodIn v_c_readClause v_c_fail1 := (goodIn_ca gb_c_readClause_c_fail10 (goodIn_sub iw_c_readClause_X10 gw_X10))
theorem g_c_readClause_c_fail1_50 : GoodIn v_c_readClause (wsV RX10 50 RX10 yX10_fail v_c_fail1) := goodIn_app (List.forall_mem_cons.mpr ⟨⟨List.mem_of_getElem? (i := 7) rfl, good_of_word rfl⟩, (List.forall_mem_cons.mpr ⟨⟨List.mem_of_getElem? (i := 8) rfl, good_of_word rfl⟩, (List.forall_mem_cons.mpr ⟨⟨List.mem_of_getElem? (i := 9) rfl, good_of_word rfl⟩, (List.forall_mem_cons.mpr ⟨⟨List.mem_of_getElem? (i := 4) rfl, good_of_word rfl⟩, (fun _ h => nomatch h)⟩)⟩)⟩)⟩) gb_c_readClause_c_fail1
set_option maxHeartbeats 4000000 in
set_option maxRecDepth 100000 in
theorem c_readClause (l : Launch) (dC : Nat → ClassId) (dI : Nat → Nat → Nat) (tp : Nat) (tby : Nat) (tst : Nat) (tla : Nat) (tbe : Nat) (tsu : Nat) (sz : Nat)  : Met l yX10_readClause v_c_readClause ({ frames := 1, cells := 0, slots := 0, locals := 40 }) (va_Pc [.ref tp] (fun U => U.heap.size = sz ∧ va_P (dC, dI) vwCl [(tp, .inr (11, [.ref tby, .int 0, .int 0, .int (-1), .ref tst, .int 0, .ref tla, .ref tbe, .ref tsu, .int 0]))] U.heap ∧ va_K (dC, dI) vwCl [] U ∧ va_D (fun _ => True) [(tp, .inr (11, [.ref tby, .int 0, .int 0, .int (-1), .ref tst, .int 0, .ref tla, .ref tbe, .ref tsu, .int 0]))] ∧ ub_NX U ∧ ub_ST U)) (va_Qv (S := Unit) (fun _ => True) (fun u t => va_P (dC, dI) vwCl [(tp, .inr (11, [.ref tby, .int 0, .int 0, .int 0, .ref tst, .int 0, .ref tla, .ref tbe, .ref tsu, .int 0]))] t.heap ∧ va_K (dC, dI) vwCl [] t ∧ va_D (va_A [(tp, .inr (11, [.ref tby, .int 0, .int 0, .int (-1), .ref tst, .int 0, .ref tla, .ref tbe, .ref tsu, .int 0]))] sz) [(tp, .inr (11, [.ref tby, .int 0, .int 0, .int 0, .ref tst, .int 0, .ref tla, .ref tbe, .ref tsu, .int 0]))]) (va_A [(tp, .inr (11, [.ref tby, .int 0, .int 0, .int (-1), .ref tst, .int 0, .ref tla, .ref tbe, .ref tsu, .int 0]))] sz)) 0 0 (va_A [(tp, .inr (11, [.ref tby, .int 0, .int 0, .int (-1), .ref tst, .int 0, .ref tla, .ref tbe, .ref tsu, .int 0]))] sz) := by
  refine Met.ofW (cc := cX10_readClause) (maxL := 3) (ret := none) (by decide) rfl ?_
  intro p e s m args below meth c s₁ B hml hv
  obtain ⟨rfl, hsz, hP, hK, hD0, hN, hT⟩ := hv
  have hx := B.exec
  have hb := B.bytes
  have hr := B.returns
  have hts := atoms_spec (ws := v_c_readClause) B.pre
  have hown : s.vm.findClass RX10 = some m.cls := findClass_of_methodNamed B.named
  have hlocks := B.notSynchronized
  subst hsz
  have hD := hD0.self (sz := s.heap.size)
  generalize hAe : va_A [(tp, .inr (11, [.ref tby, .int 0, .int 0, .int (-1), .ref tst, .int 0, .ref tla, .ref tbe, .ref tsu, .int 0]))] s.heap.size = A at hD ⊢
  have hA : ∀ q : Nat, s.heap.size ≤ q → A q := fun q h => by rw [← hAe]; exact Or.inr h
  try rw [hAe] at hT
  have hS : va_S A s.heap s.heap [] := va_S.rf
  have hP : va_P (dC, dI) vwCl [(tp, .inr (11, [.ref tby, .int 0, .int 0, .int (-1), .ref tst, .int 0, .ref tla, .ref tbe, .ref tsu, .int 0]))] s.heap := hP
  have hl := lv_entry ([.ref tp]) (n := 3) (Nat.le_of_ble_eq_true rfl)
  rw [lg_entry_eq]
  generalize (lg_sl ([.ref tp]) ++ List.replicate (3 - (lg_sl ([.ref tp])).length) Slot.unset).toArray = ls at hl ⊢
  have hl : lv_has ls 3 [(0, .ref tp)] := hl
  refine lv_aload_n hx hb dX10_readClause_0 rfl (lv_at hl 0 rfl) ?_
  have hPc := hP.sub (ws' := [(tp, .inr (11, [.ref tby, .int 0, .int 0, .int (-1), .ref tst, .int 0, .ref tla, .ref tbe, .ref tsu, .int 0]))]) [0] rfl
  have hKc := hK.sub (tys' := []) [] rfl
  refine va_calli (va_runV (As := []) (rest := []) ⟨hx, hb, hml, hown, hts⟩ (c_next1 l dC dI tp tby tst tla tbe tsu) (cwV 0 hts g_c_readClause_c_next1_46 rfl rfl rfl (by decide +kernel) ⟨Nat.le_of_ble_eq_true rfl, Nat.le_of_ble_eq_true rfl⟩) ⟨fun a U g mk q => by obtain ⟨e0, qP, qK⟩ := q; exact ⟨e0, qP, va_K.moved (u := U) (U := U.calling g mk a) (Vm.Alike.refl U.vm) qK⟩, va_recv hK hP (ci := 11) (q0 := 0) rfl rfl, fun U hU hW => ⟨rfl, by rw [hU]; exact hPc, va_K.moved hW.alike hKc⟩⟩ rfl rfl hl.1 rfl (lv_room (Nat.le_of_ble_eq_true rfl)) dX10_readClause_1 ⟨Nat.le_of_ble_eq_true rfl, Nat.le_of_ble_eq_true rfl⟩) hS (fun _ _ h => h.elim) (fun _ h => h.elim) (fun r1 u2 t H1 locs ht hvm hw hB hz1 hk1 hS => ?_)
  have hP := ub_keep hP hk1
  generalize H1 = H at hP hS ⊢
  obtain rfl : (-1 : Int32) = r1 := hw.symm
  refine lv_istore_n (lv' := [(1, .int (-1)), (0, .ref tp)]) hx hb dX10_readClause_4 rfl hl (by decide) rfl (fun ls hl => ?_)
  obtain ⟨qs, hqs⟩ := hT
  refine va_ldcS hx hb hown hqs dX10_readClause_5 ?_
  refine lv_iload_n hx hb dX10_readClause_7 rfl (lv_at hl 0 rfl) ?_
  refine va_calli (va_runSN (As := [.ref qs, .int (-1)]) (rest := []) ⟨hx, hb, hml, hown, hts⟩ (c_isOneOf0 l qs) ⟨va_cnB 2 hts g_c_readClause_c_isOneOf0 rfl rfl rfl (ub_nx4 hN) (hts (.initialized RX12) (List.mem_of_getElem? (i := 5) rfl)) (by decide +kernel) ⟨Nat.le_of_ble_eq_true rfl, Nat.le_of_ble_eq_true rfl⟩, (hts (.static yX12_isOneOf) (List.mem_of_getElem? (i := 6) rfl)), trivial⟩ ⟨fun _ _ _ _ q => q, fun _ _ _ => ⟨rfl, trivial⟩⟩ rfl rfl hl.1 rfl (lv_room (Nat.le_of_ble_eq_true rfl)) dX10_readClause_8 ⟨Nat.le_of_ble_eq_true rfl, Nat.le_of_ble_eq_true rfl⟩) hS (fun _ _ h => h.elim) (fun _ h => h.elim) (fun r3 u4 t H1 locs ht hvm hw hB hz1 hk1 hS => ?_)
  have hP := ub_keep hP hk1
  generalize H1 = H at hP hS ⊢
  obtain rfl : (0 : Int32) = r3 := hw.symm
  refine lv_if_eq (tgt := 23) hx hb dX10_readClause_11 (by decide) (fun c5 => ?_) (fun c5 => by first | exact absurd c5 (by decide) | exact absurd (by decide) c5)
  refine lv_aload_n hx hb dX10_readClause_23 rfl (lv_at hl 1 rfl) ?_
  have hPc := hP.sub (ws' := [(tp, .inr (11, [.ref tby, .int 0, .int 0, .int (-1), .ref tst, .int 0, .ref tla, .ref tbe, .ref tsu, .int 0]))]) [0] rfl
  have hKc := hK.sub (tys' := []) [] rfl
  have hDc := hD.sub (ws' := [(tp, .inr (11, [.ref tby, .int 0, .int 0, .int (-1), .ref tst, .int 0, .ref tla, .ref tbe, .ref tsu, .int 0]))]) [0] (by decide) rfl
  have hFc := va_free (wc := [(tp, .inr (11, [.ref tby, .int 0, .int 0, .int (-1), .ref tst, .int 0, .ref tla, .ref tbe, .ref tsu, .int 0]))]) hD hS hA [0] rfl
  refine va_callv (va_runV (As := []) (rest := []) ⟨hx, hb, hml, hown, hts⟩ (c_fail1 l dC dI tp tby tst tla tbe tsu H.size) (cwV 0 hts g_c_readClause_c_fail1_50 rfl rfl rfl (by decide +kernel) ⟨Nat.le_of_ble_eq_true rfl, Nat.le_of_ble_eq_true rfl⟩) ⟨fun a U g mk q => by obtain ⟨e0, e1, qP, qK, qD⟩ := q; exact ⟨e0, e1, qP, va_K.moved (u := U) (U := U.calling g mk a) (Vm.Alike.refl U.vm) qK, qD⟩, va_recv hK hP (ci := 11) (q0 := 0) rfl rfl, fun U hU hW => ⟨rfl, by rw [hU], by rw [hU]; exact hPc, va_K.moved hW.alike hKc, hDc.weaken (fun _ _ _ _ => trivial)⟩⟩ rfl rfl hl.1 rfl (lv_room (Nat.le_of_ble_eq_true rfl)) dX10_readClause_24 ⟨Nat.le_of_ble_eq_true rfl, Nat.le_of_ble_eq_true rfl⟩) hS (fun q _ h => hFc q h) hFc (fun u7 t H1 locs ht hvm hw hB hz1 hk1 hS => ?_)
  obtain ⟨hP1, hK1, hD1⟩ := hB
  rw [ht] at hP1
  obtain ⟨hP, hD⟩ := va_join (wr := []) (w1 := [(tp, .inr (11, [.ref tby, .int 0, .int 0, .int 0, .ref tst, .int 0, .ref tla, .ref tbe, .ref tsu, .int 0]))]) hP hD [0] [] rfl rfl (by decide) (by decide) hk1 hFc hP1 hD1
  generalize H1 = H at hP hS ⊢
  have hP : va_P (dC, dI) vwCl [(tp, .inr (11, [.ref tby, .int 0, .int 0, .int 0, .ref tst, .int 0, .ref tla, .ref tbe, .ref tsu, .int 0]))] H := hP
  have hD : va_D A [(tp, .inr (11, [.ref tby, .int 0, .int 0, .int 0, .ref tst, .int 0, .ref tla, .ref tbe, .ref tsu, .int 0]))] := hD
  refine W.widen (k := 0) (n := 0) (by omega) (by omega) ?_
  have hP9 := hP.sub (ws' := [(tp, .inr (11, [.ref tby, .int 0, .int 0, .int 0, .ref tst, .int 0, .ref tla, .ref tbe, .ref tsu, .int 0]))]) [0] rfl
  have hD9 := hD.sub (ws' := [(tp, .inr (11, [.ref tby, .int 0, .int 0, .int 0, .ref tst, .int 0, .ref tla, .ref tbe, .ref tsu, .int 0]))]) [0] (by decide) rfl
  have hK9 := hK.sub (tys' := []) [] rfl
  exact W.vret hx hb hr (fun t ht hW => ⟨⟨(), rfl, trivial, (by rw [ht]; exact hP9), va_K.moved hW.alike hK9, hD9⟩, hS.F ht⟩) hS.2.2 dX10_readClause_27
def A_c_read : List Cond := [.fieldLink RX10 31 "UnlikeBoats$Tape" "at" "I", .fieldLink RX10 34 "UnlikeBoats$Tape" "fault" "I", .fieldLink RX10 37 "UnlikeBoats$Tape" "size" "I", .fieldLink RX10 40 "UnlikeBoats$Tape" "clauses" "I", .methodLink RX10 43 yX10_readClause, .instanceMethod yX10_readClause, .selects RX10 yX10_readClause yX10_readClause, .initialized RX10, .methodLink RX10 46 yX10_next, .instanceMethod yX10_next, .selects RX10 yX10_next yX10_next, .methodLink RX10 50 yX10_fail, .instanceMethod yX10_fail, .selects RX10 yX10_fail yX10_fail, .fieldLink RX10 21 "UnlikeBoats$Tape" "begins" "[I", .code yX10_readClause cX10_readClause 3 none, .initialized RX12, .static yX12_isOneOf, .code yX10_next cX10_next 1 (some .int), .fieldLink RX10 27 "UnlikeBoats$Tape" "length" "I", .code yX12_isOneOf cX12_isOneOf 2 (some .boolean), .code yX10_fail cX10_fail 1 none]
def v_c_read : List Cond := .code yX10_read cX10_read 2 (some .int) :: (A_c_read ++ wsX100)
theorem iw_c_read_X10 : ∀ w ∈ wsX100, w ∈ v_c_read := fun _ h => List.mem_cons_of_mem _ (List.mem_append_right _ (h))
theorem gb_c_read_c_readClause0 : GoodIn v_c_read (.code yX10_readClause cX10_readClause 3 none :: A_c_readClause) := (List.forall_mem_cons.mpr ⟨⟨List.mem_of_getElem? (i := 16) rfl, good_of_word rfl⟩, (List.forall_mem_cons.mpr ⟨⟨List.mem_of_getElem? (i := 9) rfl, good_of_word rfl⟩, (List.forall_mem_cons.mpr ⟨⟨List.mem_of_getElem? (i := 10) rfl, good_of_word rfl⟩, (List.forall_mem_cons.mpr ⟨⟨List.mem_of_getElem? (i := 11) rfl, good_of_word rfl⟩, (List.forall_mem_cons.mpr ⟨⟨List.mem_of_getElem? (i := 8) rfl, good_of_word rfl⟩, (List.forall_mem_cons.mpr ⟨⟨List.mem_of_getElem? (i := 17) rfl, good_of_word rfl⟩, (List.forall_mem_cons.mpr ⟨⟨List.mem_of_getElem? (i := 18) rfl, good_of_word rfl⟩, (List.forall_mem_cons.mpr ⟨⟨List.mem_of_getElem? (i := 12) rfl, good_of_word rfl⟩, (List.forall_mem_cons.mpr ⟨⟨List.mem_of_getElem? (i := 13) rfl, good_of_word rfl⟩, (List.forall_mem_cons.mpr ⟨⟨List.mem_of_getElem? (i := 14) rfl, good_of_word rfl⟩, (List.forall_mem_cons.mpr ⟨⟨List.mem_of_getElem? (i := 19) rfl, good_of_word rfl⟩, (List.forall_mem_cons.mpr ⟨⟨List.mem_of_getElem? (i := 2) rfl, good_of_word rfl⟩, (List.forall_mem_cons.mpr ⟨⟨List.mem_of_getElem? (i := 1) rfl, good_of_word rfl⟩, (List.forall_mem_cons.mpr ⟨⟨List.mem_of_getElem? (i := 20) rfl, good_of_word rfl⟩, (List.forall_mem_cons.mpr ⟨⟨List.mem_of_getElem? (i := 21) rfl, good_of_word rfl⟩, (List.forall_mem_cons.mpr ⟨⟨List.mem_of_getElem? (i := 22) rfl, good_of_word rfl⟩, (fun _ h => nomatch h)⟩)⟩)⟩)⟩)⟩)⟩)⟩)⟩)⟩)⟩)⟩)⟩)⟩)⟩)⟩)⟩)
theorem gb_c_read_c_readClause : GoodIn v_c_read v_c_readClause := (goodIn_ca gb_c_read_c_readClause0 (goodIn_sub iw_c_read_X10 gw_X10))
theorem g_c_read_c_readClause_43 : GoodIn v_c_read (wsV RX10 43 RX10 yX10_readClause v_c_readClause) := goodIn_app (List.forall_mem_cons.mpr ⟨⟨List.mem_of_getElem? (i := 5) rfl, good_of_word rfl⟩, (List.forall_mem_cons.mpr ⟨⟨List.mem_of_getElem? (i := 6) rfl, good_of_word rfl⟩, (List.forall_mem_cons.mpr ⟨⟨List.mem_of_getElem? (i := 7) rfl, good_of_word rfl⟩, (List.forall_mem_cons.mpr ⟨⟨List.mem_of_getElem? (i := 8) rfl, good_of_word rfl⟩, (fun _ h => nomatch h)⟩)⟩)⟩)⟩) gb_c_read_c_readClause
theorem gb_c_read_c_next20 : GoodIn v_c_read (.code yX10_next cX10_next 1 (some .int) :: A_c_next2) := (List.forall_mem_cons.mpr ⟨⟨List.mem_of_getElem? (i := 19) rfl, good_of_word rfl⟩, (List.forall_mem_cons.mpr ⟨⟨List.mem_of_getElem? (i := 2) rfl, good_of_word rfl⟩, (fun _ h => nomatch h)⟩)⟩)
theorem gb_c_read_c_next2 : GoodIn v_c_read v_c_next2 := (goodIn_ca gb_c_read_c_next20 (goodIn_sub iw_c_read_X10 gw_X10))
theorem g_c_read_c_next2_46 : GoodIn v_c_read (wsV RX10 46 RX10 yX10_next v_c_next2) := goodIn_app (List.forall_mem_cons.mpr ⟨⟨List.mem_of_getElem? (i := 9) rfl, good_of_word rfl⟩, (List.forall_mem_cons.mpr ⟨⟨List.mem_of_getElem? (i := 10) rfl, good_of_word rfl⟩, (List.forall_mem_cons.mpr ⟨⟨List.mem_of_getElem? (i := 11) rfl, good_of_word rfl⟩, (List.forall_mem_cons.mpr ⟨⟨List.mem_of_getElem? (i := 8) rfl, good_of_word rfl⟩, (fun _ h => nomatch h)⟩)⟩)⟩)⟩) gb_c_read_c_next2
theorem gb_c_read_c_fail20 : GoodIn v_c_read (.code yX10_fail cX10_fail 1 none :: A_c_fail2) := (List.forall_mem_cons.mpr ⟨⟨List.mem_of_getElem? (i := 22) rfl, good_of_word rfl⟩, (List.forall_mem_cons.mpr ⟨⟨List.mem_of_getElem? (i := 2) rfl, good_of_word rfl⟩, (fun _ h => nomatch h)⟩)⟩)
theorem gb_c_read_c_fail2 : GoodIn v_c_read v_c_fail2 := (goodIn_ca gb_c_read_c_fail20 (goodIn_sub iw_c_read_X10 gw_X10))
theorem g_c_read_c_fail2_50 : GoodIn v_c_read (wsV RX10 50 RX10 yX10_fail v_c_fail2) := goodIn_app (List.forall_mem_cons.mpr ⟨⟨List.mem_of_getElem? (i := 12) rfl, good_of_word rfl⟩, (List.forall_mem_cons.mpr ⟨⟨List.mem_of_getElem? (i := 13) rfl, good_of_word rfl⟩, (List.forall_mem_cons.mpr ⟨⟨List.mem_of_getElem? (i := 14) rfl, good_of_word rfl⟩, (List.forall_mem_cons.mpr ⟨⟨List.mem_of_getElem? (i := 8) rfl, good_of_word rfl⟩, (fun _ h => nomatch h)⟩)⟩)⟩)⟩) gb_c_read_c_fail2
set_option maxHeartbeats 4000000 in
set_option maxRecDepth 100000 in
theorem c_read (l : Launch) (dC : Nat → ClassId) (dI : Nat → Nat → Nat) (tp : Nat) (tby : Nat) (tst : Nat) (tla : Nat) (tbe : Nat) (tsu : Nat) (cI : ClassId) (gb : Nat → Int32) (sz : Nat)  : Met l yX10_read v_c_read ({ frames := 2, cells := 0, slots := 0, locals := 80 }) (va_Pc [.ref tp] (fun U => U.heap.size = sz ∧ va_P (dC, dI) vwCl [(tp, .inr (11, [.ref tby, .int 0, .int 0, .int 0, .ref tst, .int 0, .ref tla, .ref tbe, .ref tsu, .int 0])), (tbe, .inl (cI, 52, .inl gb))] U.heap ∧ va_K (dC, dI) vwCl [(cI, .int)] U ∧ va_D (fun _ => True) [(tp, .inr (11, [.ref tby, .int 0, .int 0, .int 0, .ref tst, .int 0, .ref tla, .ref tbe, .ref tsu, .int 0])), (tbe, .inl (cI, 52, .inl gb))] ∧ ub_NX U ∧ ub_ST U)) (va_Qi (S := Unit) (fun r _ => r = 0) (fun _ _ => True) (va_A [(tp, .inr (11, [.ref tby, .int 0, .int 0, .int 0, .ref tst, .int 0, .ref tla, .ref tbe, .ref tsu, .int 0])), (tbe, .inl (cI, 52, .inl gb))] sz)) 0 0 (va_A [(tp, .inr (11, [.ref tby, .int 0, .int 0, .int 0, .ref tst, .int 0, .ref tla, .ref tbe, .ref tsu, .int 0])), (tbe, .inl (cI, 52, .inl gb))] sz) := by
  refine Met.ofW (cc := cX10_read) (maxL := 2) (ret := (some .int)) (by decide) rfl ?_
  intro p e s m args below meth c s₁ B hml hv
  obtain ⟨rfl, hsz, hP, hK, hD0, hN, hT⟩ := hv
  have hx := B.exec
  have hb := B.bytes
  have hr := B.returns
  have hts := atoms_spec (ws := v_c_read) B.pre
  have hown : s.vm.findClass RX10 = some m.cls := findClass_of_methodNamed B.named
  have hlocks := B.notSynchronized
  subst hsz
  have hD := hD0.self (sz := s.heap.size)
  generalize hAe : va_A [(tp, .inr (11, [.ref tby, .int 0, .int 0, .int 0, .ref tst, .int 0, .ref tla, .ref tbe, .ref tsu, .int 0])), (tbe, .inl (cI, 52, .inl gb))] s.heap.size = A at hD ⊢
  have hA : ∀ q : Nat, s.heap.size ≤ q → A q := fun q h => by rw [← hAe]; exact Or.inr h
  try rw [hAe] at hT
  have hS : va_S A s.heap s.heap [] := va_S.rf
  have hP : va_P (dC, dI) vwCl [(tp, .inr (11, [.ref tby, .int 0, .int 0, .int 0, .ref tst, .int 0, .ref tla, .ref tbe, .ref tsu, .int 0])), (tbe, .inl (cI, 52, .inl gb))] s.heap := hP
  have hl := lv_entry ([.ref tp]) (n := 2) (Nat.le_of_ble_eq_true rfl)
  rw [lg_entry_eq]
  generalize (lg_sl ([.ref tp]) ++ List.replicate (2 - (lg_sl ([.ref tp])).length) Slot.unset).toArray = ls at hl ⊢
  have hl : lv_has ls 2 [(0, .ref tp)] := hl
  refine lv_aload_n hx hb dX10_read_0 rfl (lv_at hl 0 rfl) ?_
  refine lv_iconst (v := 0) hx hb dX10_read_1 (by decide) ?_
  refine va_put (D := (dC, dI)) (ci := 11) (v := .int 0) (ty := .int) (C := RX10) (T := TX10) (N := 10) hx hb hts iw_c_read_X10 tyX10 tyX10_ok nmX10 hown hK hP hD hS 0 rfl rfl 2 (by decide) (hts (.fieldLink RX10 31 "UnlikeBoats$Tape" "at" "I") (List.mem_of_getElem? (i := 1) rfl)) (fun _ h9 => h9) rfl (by decide +kernel) rfl rfl (Nat.le_of_ble_eq_true rfl) dX10_read_2 (fun H locs hP hD hS => ?_)
  have hP : va_P (dC, dI) vwCl [(tp, .inr (11, [.ref tby, .int 0, .int 0, .int 0, .ref tst, .int 0, .ref tla, .ref tbe, .ref tsu, .int 0])), (tbe, .inl (cI, 52, .inl gb))] H := hP
  have hD : va_D A [(tp, .inr (11, [.ref tby, .int 0, .int 0, .int 0, .ref tst, .int 0, .ref tla, .ref tbe, .ref tsu, .int 0])), (tbe, .inl (cI, 52, .inl gb))] := hD
  refine lv_aload_n hx hb dX10_read_5 rfl (lv_at hl 0 rfl) ?_
  refine lv_iconst (v := -1) hx hb dX10_read_6 (by decide) ?_
  refine va_put (D := (dC, dI)) (ci := 11) (v := .int (-1)) (ty := .int) (C := RX10) (T := TX10) (N := 10) hx hb hts iw_c_read_X10 tyX10 tyX10_ok nmX10 hown hK hP hD hS 0 rfl rfl 3 (by decide) (hts (.fieldLink RX10 34 "UnlikeBoats$Tape" "fault" "I") (List.mem_of_getElem? (i := 2) rfl)) (fun _ h9 => h9) rfl (by decide +kernel) rfl rfl (Nat.le_of_ble_eq_true rfl) dX10_read_7 (fun H locs hP hD hS => ?_)
  have hP : va_P (dC, dI) vwCl [(tp, .inr (11, [.ref tby, .int 0, .int 0, .int (-1), .ref tst, .int 0, .ref tla, .ref tbe, .ref tsu, .int 0])), (tbe, .inl (cI, 52, .inl gb))] H := hP
  have hD : va_D A [(tp, .inr (11, [.ref tby, .int 0, .int 0, .int (-1), .ref tst, .int 0, .ref tla, .ref tbe, .ref tsu, .int 0])), (tbe, .inl (cI, 52, .inl gb))] := hD
  refine lv_aload_n hx hb dX10_read_10 rfl (lv_at hl 0 rfl) ?_
  refine lv_iconst (v := 0) hx hb dX10_read_11 (by decide) ?_
  refine va_put (D := (dC, dI)) (ci := 11) (v := .int 0) (ty := .int) (C := RX10) (T := TX10) (N := 10) hx hb hts iw_c_read_X10 tyX10 tyX10_ok nmX10 hown hK hP hD hS 0 rfl rfl 5 (by decide) (hts (.fieldLink RX10 37 "UnlikeBoats$Tape" "size" "I") (List.mem_of_getElem? (i := 3) rfl)) (fun _ h9 => h9) rfl (by decide +kernel) rfl rfl (Nat.le_of_ble_eq_true rfl) dX10_read_12 (fun H locs hP hD hS => ?_)
  have hP : va_P (dC, dI) vwCl [(tp, .inr (11, [.ref tby, .int 0, .int 0, .int (-1), .ref tst, .int 0, .ref tla, .ref tbe, .ref tsu, .int 0])), (tbe, .inl (cI, 52, .inl gb))] H := hP
  have hD : va_D A [(tp, .inr (11, [.ref tby, .int 0, .int 0, .int (-1), .ref tst, .int 0, .ref tla, .ref tbe, .ref tsu, .int 0])), (tbe, .inl (cI, 52, .inl gb))] := hD
  refine lv_aload_n hx hb dX10_read_15 rfl (lv_at hl 0 rfl) ?_
  refine lv_iconst (v := 0) hx hb dX10_read_16 (by decide) ?_
  refine va_put (D := (dC, dI)) (ci := 11) (v := .int 0) (ty := .int) (C := RX10) (T := TX10) (N := 10) hx hb hts iw_c_read_X10 tyX10 tyX10_ok nmX10 hown hK hP hD hS 0 rfl rfl 9 (by decide) (hts (.fieldLink RX10 40 "UnlikeBoats$Tape" "clauses" "I") (List.mem_of_getElem? (i := 4) rfl)) (fun _ h9 => h9) rfl (by decide +kernel) rfl rfl (Nat.le_of_ble_eq_true rfl) dX10_read_17 (fun H locs hP hD hS => ?_)
  have hP : va_P (dC, dI) vwCl [(tp, .inr (11, [.ref tby, .int 0, .int 0, .int (-1), .ref tst, .int 0, .ref tla, .ref tbe, .ref tsu, .int 0])), (tbe, .inl (cI, 52, .inl gb))] H := hP
  have hD : va_D A [(tp, .inr (11, [.ref tby, .int 0, .int 0, .int (-1), .ref tst, .int 0, .ref tla, .ref tbe, .ref tsu, .int 0])), (tbe, .inl (cI, 52, .inl gb))] := hD
  refine lv_aload_n hx hb dX10_read_20 rfl (lv_at hl 0 rfl) ?_
  have hPc := hP.sub (ws' := [(tp, .inr (11, [.ref tby, .int 0, .int 0, .int (-1), .ref tst, .int 0, .ref tla, .ref tbe, .ref tsu, .int 0]))]) [0] rfl
  have hKc := hK.sub (tys' := []) [] rfl
  have hDc := hD.sub (ws' := [(tp, .inr (11, [.ref tby, .int 0, .int 0, .int (-1), .ref tst, .int 0, .ref tla, .ref tbe, .ref tsu, .int 0]))]) [0] (by decide) rfl
  have hFc := va_free (wc := [(tp, .inr (11, [.ref tby, .int 0, .int 0, .int (-1), .ref tst, .int 0, .ref tla, .ref tbe, .ref tsu, .int 0]))]) hD hS hA [0] rfl
  refine va_callv (va_runV (As := []) (rest := []) ⟨hx, hb, hml, hown, hts⟩ (c_readClause l dC dI tp tby tst tla tbe tsu H.size) (cwV 0 hts g_c_read_c_readClause_43 rfl rfl rfl (by decide +kernel) ⟨Nat.le_of_ble_eq_true rfl, Nat.le_of_ble_eq_true rfl⟩) ⟨fun a U g mk q => by obtain ⟨e0, e1, qP, qK, qD, qN, qT⟩ := q; exact ⟨e0, e1, qP, va_K.moved (u := U) (U := U.calling g mk a) (Vm.Alike.refl U.vm) qK, qD, ub_NX_c qN, ub_T_c qT⟩, va_recv hK hP (ci := 11) (q0 := 0) rfl rfl, fun U hU hW => ⟨rfl, by rw [hU], by rw [hU]; exact hPc, va_K.moved hW.alike hKc, hDc.weaken (fun _ _ _ _ => trivial), ub_NX_w hW hN, ub_T_w hU hW hS hT⟩⟩ rfl rfl hl.1 rfl (lv_room (Nat.le_of_ble_eq_true rfl)) dX10_read_21 ⟨Nat.le_of_ble_eq_true rfl, Nat.le_of_ble_eq_true rfl⟩) hS (fun q _ h => hFc q h) hFc (fun u2 t H1 locs ht hvm hw hB hz1 hk1 hS => ?_)
  obtain ⟨hP1, hK1, hD1⟩ := hB
  rw [ht] at hP1
  obtain ⟨hP, hD⟩ := va_join (wr := [(tbe, .inl (cI, 52, .inl gb))]) (w1 := [(tp, .inr (11, [.ref tby, .int 0, .int 0, .int 0, .ref tst, .int 0, .ref tla, .ref tbe, .ref tsu, .int 0]))]) hP hD [0] [1] rfl rfl (by decide) (by decide) hk1 hFc hP1 hD1
  generalize H1 = H at hP hS ⊢
  have hP : va_P (dC, dI) vwCl [(tbe, .inl (cI, 52, .inl gb)), (tp, .inr (11, [.ref tby, .int 0, .int 0, .int 0, .ref tst, .int 0, .ref tla, .ref tbe, .ref tsu, .int 0]))] H := hP
  have hD : va_D A [(tbe, .inl (cI, 52, .inl gb)), (tp, .inr (11, [.ref tby, .int 0, .int 0, .int 0, .ref tst, .int 0, .ref tla, .ref tbe, .ref tsu, .int 0]))] := hD
  refine W.widen (k := 0) (n := 0) (by omega) (by omega) ?_
  refine lv_iconst (v := 0) hx hb dX10_read_24 (by decide) ?_
  refine lv_istore_n (lv' := [(1, .int 0), (0, .ref tp)]) hx hb dX10_read_25 rfl hl (by decide) rfl (fun ls hl => ?_)
  refine lv_iload_n hx hb dX10_read_26 rfl (lv_at hl 0 rfl) ?_
  refine lv_sipush (v := 200) hx hb dX10_read_27 (by decide) ?_
  refine lv_icmp_ge (tgt := 62) hx hb dX10_read_30 (by decide) (fun c3 => by first | exact absurd c3 (by decide) | exact absurd (by decide) c3) (fun c3 => ?_)
  refine lv_aload_n hx hb dX10_read_33 rfl (lv_at hl 1 rfl) ?_
  have hPc := hP.sub (ws' := [(tp, .inr (11, [.ref tby, .int 0, .int 0, .int 0, .ref tst, .int 0, .ref tla, .ref tbe, .ref tsu, .int 0]))]) [1] rfl
  have hKc := hK.sub (tys' := []) [] rfl
  refine va_calli (va_runV (As := []) (rest := []) ⟨hx, hb, hml, hown, hts⟩ (c_next2 l dC dI tp tby tst tla tbe tsu) (cwV 0 hts g_c_read_c_next2_46 rfl rfl rfl (by decide +kernel) ⟨Nat.le_of_ble_eq_true rfl, Nat.le_of_ble_eq_true rfl⟩) ⟨fun a U g mk q => by obtain ⟨e0, qP, qK⟩ := q; exact ⟨e0, qP, va_K.moved (u := U) (U := U.calling g mk a) (Vm.Alike.refl U.vm) qK⟩, va_recv hK hP (ci := 11) (q0 := 1) rfl rfl, fun U hU hW => ⟨rfl, by rw [hU]; exact hPc, va_K.moved hW.alike hKc⟩⟩ rfl rfl hl.1 rfl (lv_room (Nat.le_of_ble_eq_true rfl)) dX10_read_34 ⟨Nat.le_of_ble_eq_true rfl, Nat.le_of_ble_eq_true rfl⟩) hS (fun _ _ h => h.elim) (fun _ h => h.elim) (fun r4 u5 t H1 locs ht hvm hw hB hz1 hk1 hS => ?_)
  have hP := ub_keep hP hk1
  generalize H1 = H at hP hS ⊢
  obtain rfl : (-2 : Int32) = r4 := hw.symm
  refine lv_bipush (v := 59) hx hb dX10_read_37 (by decide) ?_
  refine lv_icmp_ne (tgt := 62) hx hb dX10_read_39 (by decide) (fun c6 => ?_) (fun c6 => by first | exact absurd c6 (by decide) | exact absurd (by decide) c6)
  refine lv_aload_n hx hb dX10_read_62 rfl (lv_at hl 1 rfl) ?_
  have hPc := hP.sub (ws' := [(tp, .inr (11, [.ref tby, .int 0, .int 0, .int 0, .ref tst, .int 0, .ref tla, .ref tbe, .ref tsu, .int 0]))]) [1] rfl
  have hKc := hK.sub (tys' := []) [] rfl
  refine va_calli (va_runV (As := []) (rest := []) ⟨hx, hb, hml, hown, hts⟩ (c_next2 l dC dI tp tby tst tla tbe tsu) (cwV 0 hts g_c_read_c_next2_46 rfl rfl rfl (by decide +kernel) ⟨Nat.le_of_ble_eq_true rfl, Nat.le_of_ble_eq_true rfl⟩) ⟨fun a U g mk q => by obtain ⟨e0, qP, qK⟩ := q; exact ⟨e0, qP, va_K.moved (u := U) (U := U.calling g mk a) (Vm.Alike.refl U.vm) qK⟩, va_recv hK hP (ci := 11) (q0 := 1) rfl rfl, fun U hU hW => ⟨rfl, by rw [hU]; exact hPc, va_K.moved hW.alike hKc⟩⟩ rfl rfl hl.1 rfl (lv_room (Nat.le_of_ble_eq_true rfl)) dX10_read_63 ⟨Nat.le_of_ble_eq_true rfl, Nat.le_of_ble_eq_true rfl⟩) hS (fun _ _ h => h.elim) (fun _ h => h.elim) (fun r7 u8 t H1 locs ht hvm hw hB hz1 hk1 hS => ?_)
  have hP := ub_keep hP hk1
  generalize H1 = H at hP hS ⊢
  obtain rfl : (-2 : Int32) = r7 := hw.symm
  refine lv_iconst (v := -1) hx hb dX10_read_66 (by decide) ?_
  refine lv_icmp_eq (tgt := 74) hx hb dX10_read_67 (by decide) (fun c9 => by first | exact absurd c9 (by decide) | exact absurd (by decide) c9) (fun c9 => ?_)
  refine lv_aload_n hx hb dX10_read_70 rfl (lv_at hl 1 rfl) ?_
  have hPc := hP.sub (ws' := [(tp, .inr (11, [.ref tby, .int 0, .int 0, .int 0, .ref tst, .int 0, .ref tla, .ref tbe, .ref tsu, .int 0]))]) [1] rfl
  have hKc := hK.sub (tys' := []) [] rfl
  have hDc := hD.sub (ws' := [(tp, .inr (11, [.ref tby, .int 0, .int 0, .int 0, .ref tst, .int 0, .ref tla, .ref tbe, .ref tsu, .int 0]))]) [1] (by decide) rfl
  have hFc := va_free (wc := [(tp, .inr (11, [.ref tby, .int 0, .int 0, .int 0, .ref tst, .int 0, .ref tla, .ref tbe, .ref tsu, .int 0]))]) hD hS hA [1] rfl
  refine va_callv (va_runV (As := []) (rest := []) ⟨hx, hb, hml, hown, hts⟩ (c_fail2 l dC dI tp tby tst tla tbe tsu H.size) (cwV 0 hts g_c_read_c_fail2_50 rfl rfl rfl (by decide +kernel) ⟨Nat.le_of_ble_eq_true rfl, Nat.le_of_ble_eq_true rfl⟩) ⟨fun a U g mk q => by obtain ⟨e0, e1, qP, qK, qD⟩ := q; exact ⟨e0, e1, qP, va_K.moved (u := U) (U := U.calling g mk a) (Vm.Alike.refl U.vm) qK, qD⟩, va_recv hK hP (ci := 11) (q0 := 1) rfl rfl, fun U hU hW => ⟨rfl, by rw [hU], by rw [hU]; exact hPc, va_K.moved hW.alike hKc, hDc.weaken (fun _ _ _ _ => trivial)⟩⟩ rfl rfl hl.1 rfl (lv_room (Nat.le_of_ble_eq_true rfl)) dX10_read_71 ⟨Nat.le_of_ble_eq_true rfl, Nat.le_of_ble_eq_true rfl⟩) hS (fun q _ h => hFc q h) hFc (fun u11 t H1 locs ht hvm hw hB hz1 hk1 hS => ?_)
  obtain ⟨hP1, hK1, hD1⟩ := hB
  rw [ht] at hP1
  obtain ⟨hP, hD⟩ := va_join (wr := [(tbe, .inl (cI, 52, .inl gb))]) (w1 := [(tp, .inr (11, [.ref tby, .int 0, .int 0, .int 0, .ref tst, .int 0, .ref tla, .ref tbe, .ref tsu, .int 0]))]) hP hD [1] [0] rfl rfl (by decide) (by decide) hk1 hFc hP1 hD1
  generalize H1 = H at hP hS ⊢
  have hP : va_P (dC, dI) vwCl [(tbe, .inl (cI, 52, .inl gb)), (tp, .inr (11, [.ref tby, .int 0, .int 0, .int 0, .ref tst, .int 0, .ref tla, .ref tbe, .ref tsu, .int 0]))] H := hP
  have hD : va_D A [(tbe, .inl (cI, 52, .inl gb)), (tp, .inr (11, [.ref tby, .int 0, .int 0, .int 0, .ref tst, .int 0, .ref tla, .ref tbe, .ref tsu, .int 0]))] := hD
  refine W.widen (k := 0) (n := 0) (by omega) (by omega) ?_
  refine lv_aload_n hx hb dX10_read_74 rfl (lv_at hl 1 rfl) ?_
  refine va_get (D := (dC, dI)) (ci := 11) (v := .ref tbe) (C := RX10) (T := TX10) (N := 10) hx hb hts iw_c_read_X10 hown hK hP 1 rfl rfl 7 (by decide) (hts (.fieldLink RX10 21 "UnlikeBoats$Tape" "begins" "[I") (List.mem_of_getElem? (i := 15) rfl)) (fun _ h9 => h9) rfl dX10_read_75 ?_
  refine lv_aload_n hx hb dX10_read_78 rfl (lv_at hl 1 rfl) ?_
  refine va_get (D := (dC, dI)) (ci := 11) (v := .int 0) (C := RX10) (T := TX10) (N := 10) hx hb hts iw_c_read_X10 hown hK hP 1 rfl rfl 9 (by decide) (hts (.fieldLink RX10 40 "UnlikeBoats$Tape" "clauses" "I") (List.mem_of_getElem? (i := 4) rfl)) (fun _ h9 => h9) rfl dX10_read_79 ?_
  refine lv_aload_n hx hb dX10_read_82 rfl (lv_at hl 1 rfl) ?_
  refine va_get (D := (dC, dI)) (ci := 11) (v := .int 0) (C := RX10) (T := TX10) (N := 10) hx hb hts iw_c_read_X10 hown hK hP 1 rfl rfl 5 (by decide) (hts (.fieldLink RX10 37 "UnlikeBoats$Tape" "size" "I") (List.mem_of_getElem? (i := 3) rfl)) (fun _ h9 => h9) rfl dX10_read_83 ?_
  refine va_iast hx hb hK hP hD hS 0 0 rfl rfl (vp_in_nI (n := 0) (N := 52) (by decide) (by decide)) dX10_read_86 (fun H locs hP hD hS => ?_)
  obtain ⟨f12, ef12⟩ : ∃ z9 : Nat → Int32, z9 = upd gb (0 : Int32).toNatClampNeg 0 := ⟨_, rfl⟩
  have hP : va_P (dC, dI) vwCl [(tbe, .inl (cI, 52, .inl (upd gb (0 : Int32).toNatClampNeg 0))), (tp, .inr (11, [.ref tby, .int 0, .int 0, .int 0, .ref tst, .int 0, .ref tla, .ref tbe, .ref tsu, .int 0]))] H := hP
  have hD : va_D A [(tbe, .inl (cI, 52, .inl (upd gb (0 : Int32).toNatClampNeg 0))), (tp, .inr (11, [.ref tby, .int 0, .int 0, .int 0, .ref tst, .int 0, .ref tla, .ref tbe, .ref tsu, .int 0]))] := hD
  rw [← ef12] at hP hD
  refine lv_aload_n hx hb dX10_read_87 rfl (lv_at hl 1 rfl) ?_
  refine va_get (D := (dC, dI)) (ci := 11) (v := .int 0) (C := RX10) (T := TX10) (N := 10) hx hb hts iw_c_read_X10 hown hK hP 1 rfl rfl 3 (by decide) (hts (.fieldLink RX10 34 "UnlikeBoats$Tape" "fault" "I") (List.mem_of_getElem? (i := 2) rfl)) (fun _ h9 => h9) rfl dX10_read_88 ?_
  exact W.iret (v := (0)) hx hb hr (fun t ht hW => ⟨⟨(0), (), rfl, rfl, trivial⟩, hS.F ht⟩) hS.2.2 dX10_read_91
def A_c_fault : List Cond := [.fieldLink RX12 19 "UnlikeBoats" "tape" "LUnlikeBoats$Tape;", .methodLink RX12 110 yX10_read, .instanceMethod yX10_read, .selects RX10 yX10_read yX10_read, .initialized RX10, .code yX10_read cX10_read 2 (some .int), .fieldLink RX10 31 "UnlikeBoats$Tape" "at" "I", .fieldLink RX10 34 "UnlikeBoats$Tape" "fault" "I", .fieldLink RX10 37 "UnlikeBoats$Tape" "size" "I", .fieldLink RX10 40 "UnlikeBoats$Tape" "clauses" "I", .methodLink RX10 43 yX10_readClause, .instanceMethod yX10_readClause, .selects RX10 yX10_readClause yX10_readClause, .methodLink RX10 46 yX10_next, .instanceMethod yX10_next, .selects RX10 yX10_next yX10_next, .methodLink RX10 50 yX10_fail, .instanceMethod yX10_fail, .selects RX10 yX10_fail yX10_fail, .fieldLink RX10 21 "UnlikeBoats$Tape" "begins" "[I", .code yX10_readClause cX10_readClause 3 none, .initialized RX12, .static yX12_isOneOf, .code yX10_next cX10_next 1 (some .int), .fieldLink RX10 27 "UnlikeBoats$Tape" "length" "I", .code yX12_isOneOf cX12_isOneOf 2 (some .boolean), .code yX10_fail cX10_fail 1 none]
def v_c_fault : List Cond := .code yX12_fault cX12_fault 1 (some .int) :: (A_c_fault ++ wsX120 ++ wsX100)
theorem iw_c_fault_X12 : ∀ w ∈ wsX120, w ∈ v_c_fault := fun _ h => List.mem_cons_of_mem _ (List.mem_append_left _ (List.mem_append_right _ (h)))
theorem iw_c_fault_X10 : ∀ w ∈ wsX100, w ∈ v_c_fault := fun _ h => List.mem_cons_of_mem _ (List.mem_append_right _ (h))
theorem gb_c_fault_c_read0 : GoodIn v_c_fault (.code yX10_read cX10_read 2 (some .int) :: A_c_read) := (List.forall_mem_cons.mpr ⟨⟨List.mem_of_getElem? (i := 6) rfl, good_of_word rfl⟩, (List.forall_mem_cons.mpr ⟨⟨List.mem_of_getElem? (i := 7) rfl, good_of_word rfl⟩, (List.forall_mem_cons.mpr ⟨⟨List.mem_of_getElem? (i := 8) rfl, good_of_word rfl⟩, (List.forall_mem_cons.mpr ⟨⟨List.mem_of_getElem? (i := 9) rfl, good_of_word rfl⟩, (List.forall_mem_cons.mpr ⟨⟨List.mem_of_getElem? (i := 10) rfl, good_of_word rfl⟩, (List.forall_mem_cons.mpr ⟨⟨List.mem_of_getElem? (i := 11) rfl, good_of_word rfl⟩, (List.forall_mem_cons.mpr ⟨⟨List.mem_of_getElem? (i := 12) rfl, good_of_word rfl⟩, (List.forall_mem_cons.mpr ⟨⟨List.mem_of_getElem? (i := 13) rfl, good_of_word rfl⟩, (List.forall_mem_cons.mpr ⟨⟨List.mem_of_getElem? (i := 5) rfl, good_of_word rfl⟩, (List.forall_mem_cons.mpr ⟨⟨List.mem_of_getElem? (i := 14) rfl, good_of_word rfl⟩, (List.forall_mem_cons.mpr ⟨⟨List.mem_of_getElem? (i := 15) rfl, good_of_word rfl⟩, (List.forall_mem_cons.mpr ⟨⟨List.mem_of_getElem? (i := 16) rfl, good_of_word rfl⟩, (List.forall_mem_cons.mpr ⟨⟨List.mem_of_getElem? (i := 17) rfl, good_of_word rfl⟩, (List.forall_mem_cons.mpr ⟨⟨List.mem_of_getElem? (i := 18) rfl, good_of_word rfl⟩, (List.forall_mem_cons.mpr ⟨⟨List.mem_of_getElem? (i := 19) rfl, good_of_word rfl⟩, (List.forall_mem_cons.mpr ⟨⟨List.mem_of_getElem? (i := 20) rfl, good_of_word rfl⟩, (List.forall_mem_cons.mpr ⟨⟨List.mem_of_getElem? (i := 21) rfl, good_of_word rfl⟩, (List.forall_mem_cons.mpr ⟨⟨List.mem_of_getElem? (i := 22) rfl, good_of_word rfl⟩, (List.forall_mem_cons.mpr ⟨⟨List.mem_of_getElem? (i := 23) rfl, good_of_word rfl⟩, (List.forall_mem_cons.mpr ⟨⟨List.mem_of_getElem? (i := 24) rfl, good_of_word rfl⟩, (List.forall_mem_cons.mpr ⟨⟨List.mem_of_getElem? (i := 25) rfl, good_of_word rfl⟩, (List.forall_mem_cons.mpr ⟨⟨List.mem_of_getElem? (i := 26) rfl, good_of_word rfl⟩, (List.forall_mem_cons.mpr ⟨⟨List.mem_of_getElem? (i := 27) rfl, good_of_word rfl⟩, (fun _ h => nomatch h)⟩)⟩)⟩)⟩)⟩)⟩)⟩)⟩)⟩)⟩)⟩)⟩)⟩)⟩)⟩)⟩)⟩)⟩)⟩)⟩)⟩)⟩)⟩)
theorem gb_c_fault_c_read : GoodIn v_c_fault v_c_read := (goodIn_ca gb_c_fault_c_read0 (goodIn_sub iw_c_fault_X10 gw_X10))
theorem g_c_fault_c_read_110 : GoodIn v_c_fault (wsV RX12 110 RX10 yX10_read v_c_read) := goodIn_app (List.forall_mem_cons.mpr ⟨⟨List.mem_of_getElem? (i := 2) rfl, good_of_word rfl⟩, (List.forall_mem_cons.mpr ⟨⟨List.mem_of_getElem? (i := 3) rfl, good_of_word rfl⟩, (List.forall_mem_cons.mpr ⟨⟨List.mem_of_getElem? (i := 4) rfl, good_of_word rfl⟩, (List.forall_mem_cons.mpr ⟨⟨List.mem_of_getElem? (i := 5) rfl, good_of_word rfl⟩, (fun _ h => nomatch h)⟩)⟩)⟩)⟩) gb_c_fault_c_read
set_option maxHeartbeats 4000000 in
set_option maxRecDepth 100000 in
theorem c_fault (l : Launch) (dC : Nat → ClassId) (dI : Nat → Nat → Nat) (x : Nat) (bk : Nat) (tp : Nat) (sh : Nat) (sc : Nat) (he : Nat) (of : Nat) (tby : Nat) (tst : Nat) (tla : Nat) (tbe : Nat) (tsu : Nat) (cI : ClassId) (gb : Nat → Int32) (sz : Nat)  : Met l yX12_fault v_c_fault ({ frames := 3, cells := 0, slots := 0, locals := 120 }) (va_Pc [.ref x] (fun U => U.heap.size = sz ∧ va_P (dC, dI) vwCl [(x, .inr (13, [.ref bk, .ref tp, .ref sh, .ref sc, .ref he, .ref of])), (tp, .inr (11, [.ref tby, .int 0, .int 0, .int 0, .ref tst, .int 0, .ref tla, .ref tbe, .ref tsu, .int 0])), (tbe, .inl (cI, 52, .inl gb))] U.heap ∧ va_K (dC, dI) vwCl [(cI, .int)] U ∧ va_D (fun _ => True) [(x, .inr (13, [.ref bk, .ref tp, .ref sh, .ref sc, .ref he, .ref of])), (tp, .inr (11, [.ref tby, .int 0, .int 0, .int 0, .ref tst, .int 0, .ref tla, .ref tbe, .ref tsu, .int 0])), (tbe, .inl (cI, 52, .inl gb))] ∧ ub_NX U ∧ ub_ST U)) (va_Qi (S := Unit) (fun r _ => r = 0) (fun _ _ => True) (va_A [(x, .inr (13, [.ref bk, .ref tp, .ref sh, .ref sc, .ref he, .ref of])), (tp, .inr (11, [.ref tby, .int 0, .int 0, .int 0, .ref tst, .int 0, .ref tla, .ref tbe, .ref tsu, .int 0])), (tbe, .inl (cI, 52, .inl gb))] sz)) 0 0 (va_A [(x, .inr (13, [.ref bk, .ref tp, .ref sh, .ref sc, .ref he, .ref of])), (tp, .inr (11, [.ref tby, .int 0, .int 0, .int 0, .ref tst, .int 0, .ref tla, .ref tbe, .ref tsu, .int 0])), (tbe, .inl (cI, 52, .inl gb))] sz) := by
  refine Met.ofW (cc := cX12_fault) (maxL := 1) (ret := (some .int)) (by decide) rfl ?_
  intro p e s m args below meth c s₁ B hml hv
  obtain ⟨rfl, hsz, hP, hK, hD0, hN, hT⟩ := hv
  have hx := B.exec
  have hb := B.bytes
  have hr := B.returns
  have hts := atoms_spec (ws := v_c_fault) B.pre
  have hown : s.vm.findClass RX12 = some m.cls := findClass_of_methodNamed B.named
  have hlocks := B.notSynchronized
  subst hsz
  have hD := hD0.self (sz := s.heap.size)
  generalize hAe : va_A [(x, .inr (13, [.ref bk, .ref tp, .ref sh, .ref sc, .ref he, .ref of])), (tp, .inr (11, [.ref tby, .int 0, .int 0, .int 0, .ref tst, .int 0, .ref tla, .ref tbe, .ref tsu, .int 0])), (tbe, .inl (cI, 52, .inl gb))] s.heap.size = A at hD ⊢
  have hA : ∀ q : Nat, s.heap.size ≤ q → A q := fun q h => by rw [← hAe]; exact Or.inr h
  try rw [hAe] at hT
  have hS : va_S A s.heap s.heap [] := va_S.rf
  have hP : va_P (dC, dI) vwCl [(x, .inr (13, [.ref bk, .ref tp, .ref sh, .ref sc, .ref he, .ref of])), (tp, .inr (11, [.ref tby, .int 0, .int 0, .int 0, .ref tst, .int 0, .ref tla, .ref tbe, .ref tsu, .int 0])), (tbe, .inl (cI, 52, .inl gb))] s.heap := hP
  have hl := lv_entry ([.ref x]) (n := 1) (Nat.le_of_ble_eq_true rfl)
  rw [lg_entry_eq]
  generalize (lg_sl ([.ref x]) ++ List.replicate (1 - (lg_sl ([.ref x])).length) Slot.unset).toArray = ls at hl ⊢
  have hl : lv_has ls 1 [(0, .ref x)] := hl
  refine lv_aload_n hx hb dX12_fault_0 rfl (lv_at hl 0 rfl) ?_
  refine va_get (D := (dC, dI)) (ci := 13) (v := .ref tp) (C := RX12) (T := TX12) (N := 6) hx hb hts iw_c_fault_X12 hown hK hP 0 rfl rfl 1 (by decide) (hts (.fieldLink RX12 19 "UnlikeBoats" "tape" "LUnlikeBoats$Tape;") (List.mem_of_getElem? (i := 1) rfl)) (fun _ h9 => h9) rfl dX12_fault_1 ?_
  have hPc := hP.sub (ws' := [(tp, .inr (11, [.ref tby, .int 0, .int 0, .int 0, .ref tst, .int 0, .ref tla, .ref tbe, .ref tsu, .int 0])), (tbe, .inl (cI, 52, .inl gb))]) [1, 2] rfl
  have hKc := hK.sub (tys' := [(cI, .int)]) [0] rfl
  have hDc := hD.sub (ws' := [(tp, .inr (11, [.ref tby, .int 0, .int 0, .int 0, .ref tst, .int 0, .ref tla, .ref tbe, .ref tsu, .int 0])), (tbe, .inl (cI, 52, .inl gb))]) [1, 2] (by decide) rfl
  have hFc := va_free (wc := [(tp, .inr (11, [.ref tby, .int 0, .int 0, .int 0, .ref tst, .int 0, .ref tla, .ref tbe, .ref tsu, .int 0])), (tbe, .inl (cI, 52, .inl gb))]) hD hS hA [1, 2] rfl
  refine va_calli (va_runV (As := []) (rest := []) ⟨hx, hb, hml, hown, hts⟩ (c_read l dC dI tp tby tst tla tbe tsu cI gb s.heap.size) (cwV 0 hts g_c_fault_c_read_110 rfl rfl rfl (by decide +kernel) ⟨Nat.le_of_ble_eq_true rfl, Nat.le_of_ble_eq_true rfl⟩) ⟨fun a U g mk q => by obtain ⟨e0, e1, qP, qK, qD, qN, qT⟩ := q; exact ⟨e0, e1, qP, va_K.moved (u := U) (U := U.calling g mk a) (Vm.Alike.refl U.vm) qK, qD, ub_NX_c qN, ub_T_c qT⟩, va_recv hK hP (ci := 11) (q0 := 1) rfl rfl, fun U hU hW => ⟨rfl, by rw [hU], by rw [hU]; exact hPc, va_K.moved hW.alike hKc, hDc.weaken (fun _ _ _ _ => trivial), ub_NX_w hW hN, ub_T_w hU hW hS hT⟩⟩ rfl rfl hl.1 rfl (lv_room (Nat.le_of_ble_eq_true rfl)) dX12_fault_4 ⟨Nat.le_of_ble_eq_true rfl, Nat.le_of_ble_eq_true rfl⟩) hS (fun q _ h => hFc q h) hFc (fun r1 u2 t H1 locs ht hvm hw hB hz1 hk1 hS => ?_)
  have hP1 : va_P (dC, dI) vwCl [] H1 := ub_P0
  have hD1 : va_D (va_A [(tp, .inr (11, [.ref tby, .int 0, .int 0, .int 0, .ref tst, .int 0, .ref tla, .ref tbe, .ref tsu, .int 0])), (tbe, .inl (cI, 52, .inl gb))] s.heap.size) [] := ub_D0
  obtain ⟨hP, hD⟩ := va_join (wr := [(x, .inr (13, [.ref bk, .ref tp, .ref sh, .ref sc, .ref he, .ref of]))]) (w1 := []) hP hD [1, 2] [0] rfl rfl (by decide) (by decide) hk1 hFc hP1 hD1
  generalize H1 = H at hP hS ⊢
  have hP : va_P (dC, dI) vwCl [(x, .inr (13, [.ref bk, .ref tp, .ref sh, .ref sc, .ref he, .ref of]))] H := hP
  have hD : va_D A [(x, .inr (13, [.ref bk, .ref tp, .ref sh, .ref sc, .ref he, .ref of]))] := hD
  refine W.widen (k := 0) (n := 0) (by omega) (by omega) ?_
  obtain rfl : (0 : Int32) = r1 := hw.symm
  exact W.iret (v := (0)) hx hb hr (fun t ht hW => ⟨⟨(0), (), rfl, rfl, trivial⟩, hS.F ht⟩) hS.2.2 dX12_fault_7
def A_c_rules : List Cond := [.methodLink RX12 70 yX12_isDay, .static yX12_isDay, .initialized RX12, .fieldLink RX12 10 "UnlikeBoats" "book" "LUnlikeBoats$Book;", .fieldLink RX12 113 "UnlikeBoats$Book" "rules" "Ljava/util/ArrayList;", .methodLink RX12 77 yJx4a65c_size_8abf5, .instanceMethod yJx4a65c_size_8abf5, .selects RJx4a65c yJx4a65c_size_8abf5 yJx4a65c_size_8abf5, .initialized RJx4a65c, .fieldLink RX12 19 "UnlikeBoats" "tape" "LUnlikeBoats$Tape;", .methodLink RX12 110 yX10_read, .instanceMethod yX10_read, .selects RX10 yX10_read yX10_read, .initialized RX10, .code yX12_isDay cX12_isDay 1 (some .boolean), .methodLink RX12 59 yX12_within, .static yX12_within, .code yX12_within cX12_within 3 (some .boolean), .code yJx4a65c_size_8abf5 cJx4a65c_size_8abf5 1 (some .int), .fieldLink RJx4a65c 48 "java/util/ArrayList" "size" "I", .code yX10_read cX10_read 2 (some .int), .fieldLink RX10 31 "UnlikeBoats$Tape" "at" "I", .fieldLink RX10 34 "UnlikeBoats$Tape" "fault" "I", .fieldLink RX10 37 "UnlikeBoats$Tape" "size" "I", .fieldLink RX10 40 "UnlikeBoats$Tape" "clauses" "I", .methodLink RX10 43 yX10_readClause, .instanceMethod yX10_readClause, .selects RX10 yX10_readClause yX10_readClause, .methodLink RX10 46 yX10_next, .instanceMethod yX10_next, .selects RX10 yX10_next yX10_next, .methodLink RX10 50 yX10_fail, .instanceMethod yX10_fail, .selects RX10 yX10_fail yX10_fail, .fieldLink RX10 21 "UnlikeBoats$Tape" "begins" "[I", .code yX10_readClause cX10_readClause 3 none, .static yX12_isOneOf, .code yX10_next cX10_next 1 (some .int), .fieldLink RX10 27 "UnlikeBoats$Tape" "length" "I", .code yX12_isOneOf cX12_isOneOf 2 (some .boolean), .code yX10_fail cX10_fail 1 none]
def v_c_rules : List Cond := .code yX12_rules cX12_rules 2 (some .int) :: (A_c_rules ++ wsX120 ++ wsX00 ++ wsJx4a65c0 ++ wsX100)
theorem iw_c_rules_X12 : ∀ w ∈ wsX120, w ∈ v_c_rules := fun _ h => List.mem_cons_of_mem _ (List.mem_append_left _ (List.mem_append_left _ (List.mem_append_left _ (List.mem_append_right _ (h)))))
theorem iw_c_rules_X0 : ∀ w ∈ wsX00, w ∈ v_c_rules := fun _ h => List.mem_cons_of_mem _ (List.mem_append_left _ (List.mem_append_left _ (List.mem_append_right _ (h))))
theorem iw_c_rules_Jx4a65c : ∀ w ∈ wsJx4a65c0, w ∈ v_c_rules := fun _ h => List.mem_cons_of_mem _ (List.mem_append_left _ (List.mem_append_right _ (h)))
theorem iw_c_rules_X10 : ∀ w ∈ wsX100, w ∈ v_c_rules := fun _ h => List.mem_cons_of_mem _ (List.mem_append_right _ (h))
theorem gb_c_rules_c_isDay0 : GoodIn v_c_rules (.code yX12_isDay cX12_isDay 1 (some .boolean) :: A_c_isDay) := (List.forall_mem_cons.mpr ⟨⟨List.mem_of_getElem? (i := 15) rfl, good_of_word rfl⟩, (List.forall_mem_cons.mpr ⟨⟨List.mem_of_getElem? (i := 16) rfl, good_of_word rfl⟩, (List.forall_mem_cons.mpr ⟨⟨List.mem_of_getElem? (i := 17) rfl, good_of_word rfl⟩, (List.forall_mem_cons.mpr ⟨⟨List.mem_of_getElem? (i := 3) rfl, good_of_word rfl⟩, (List.forall_mem_cons.mpr ⟨⟨List.mem_of_getElem? (i := 18) rfl, good_of_word rfl⟩, (fun _ h => nomatch h)⟩)⟩)⟩)⟩)⟩)
theorem gb_c_rules_c_isDay : GoodIn v_c_rules v_c_isDay := gb_c_rules_c_isDay0
theorem g_c_rules_c_isDay_70 : GoodIn v_c_rules (va_wsS RX12 70 yX12_isDay v_c_isDay) := goodIn_app (List.forall_mem_cons.mpr ⟨⟨List.mem_of_getElem? (i := 1) rfl, good_of_word rfl⟩, (List.forall_mem_cons.mpr ⟨⟨List.mem_of_getElem? (i := 2) rfl, good_of_word rfl⟩, (List.forall_mem_cons.mpr ⟨⟨List.mem_of_getElem? (i := 3) rfl, good_of_word rfl⟩, (fun _ h => nomatch h)⟩)⟩)⟩) gb_c_rules_c_isDay
theorem gb_c_rules_c_size0 : GoodIn v_c_rules (.code yJx4a65c_size_8abf5 cJx4a65c_size_8abf5 1 (some .int) :: A_c_size) := (List.forall_mem_cons.mpr ⟨⟨List.mem_of_getElem? (i := 19) rfl, good_of_word rfl⟩, (List.forall_mem_cons.mpr ⟨⟨List.mem_of_getElem? (i := 20) rfl, good_of_word rfl⟩, (fun _ h => nomatch h)⟩)⟩)
theorem gb_c_rules_c_size : GoodIn v_c_rules v_c_size := (goodIn_ca gb_c_rules_c_size0 (goodIn_sub iw_c_rules_Jx4a65c gw_Jx4a65c))
theorem g_c_rules_c_size_77 : GoodIn v_c_rules (wsV RX12 77 RJx4a65c yJx4a65c_size_8abf5 v_c_size) := goodIn_app (List.forall_mem_cons.mpr ⟨⟨List.mem_of_getElem? (i := 6) rfl, good_of_word rfl⟩, (List.forall_mem_cons.mpr ⟨⟨List.mem_of_getElem? (i := 7) rfl, good_of_word rfl⟩, (List.forall_mem_cons.mpr ⟨⟨List.mem_of_getElem? (i := 8) rfl, good_of_word rfl⟩, (List.forall_mem_cons.mpr ⟨⟨List.mem_of_getElem? (i := 9) rfl, good_of_word rfl⟩, (fun _ h => nomatch h)⟩)⟩)⟩)⟩) gb_c_rules_c_size
theorem gb_c_rules_c_read0 : GoodIn v_c_rules (.code yX10_read cX10_read 2 (some .int) :: A_c_read) := (List.forall_mem_cons.mpr ⟨⟨List.mem_of_getElem? (i := 21) rfl, good_of_word rfl⟩, (List.forall_mem_cons.mpr ⟨⟨List.mem_of_getElem? (i := 22) rfl, good_of_word rfl⟩, (List.forall_mem_cons.mpr ⟨⟨List.mem_of_getElem? (i := 23) rfl, good_of_word rfl⟩, (List.forall_mem_cons.mpr ⟨⟨List.mem_of_getElem? (i := 24) rfl, good_of_word rfl⟩, (List.forall_mem_cons.mpr ⟨⟨List.mem_of_getElem? (i := 25) rfl, good_of_word rfl⟩, (List.forall_mem_cons.mpr ⟨⟨List.mem_of_getElem? (i := 26) rfl, good_of_word rfl⟩, (List.forall_mem_cons.mpr ⟨⟨List.mem_of_getElem? (i := 27) rfl, good_of_word rfl⟩, (List.forall_mem_cons.mpr ⟨⟨List.mem_of_getElem? (i := 28) rfl, good_of_word rfl⟩, (List.forall_mem_cons.mpr ⟨⟨List.mem_of_getElem? (i := 14) rfl, good_of_word rfl⟩, (List.forall_mem_cons.mpr ⟨⟨List.mem_of_getElem? (i := 29) rfl, good_of_word rfl⟩, (List.forall_mem_cons.mpr ⟨⟨List.mem_of_getElem? (i := 30) rfl, good_of_word rfl⟩, (List.forall_mem_cons.mpr ⟨⟨List.mem_of_getElem? (i := 31) rfl, good_of_word rfl⟩, (List.forall_mem_cons.mpr ⟨⟨List.mem_of_getElem? (i := 32) rfl, good_of_word rfl⟩, (List.forall_mem_cons.mpr ⟨⟨List.mem_of_getElem? (i := 33) rfl, good_of_word rfl⟩, (List.forall_mem_cons.mpr ⟨⟨List.mem_of_getElem? (i := 34) rfl, good_of_word rfl⟩, (List.forall_mem_cons.mpr ⟨⟨List.mem_of_getElem? (i := 35) rfl, good_of_word rfl⟩, (List.forall_mem_cons.mpr ⟨⟨List.mem_of_getElem? (i := 36) rfl, good_of_word rfl⟩, (List.forall_mem_cons.mpr ⟨⟨List.mem_of_getElem? (i := 3) rfl, good_of_word rfl⟩, (List.forall_mem_cons.mpr ⟨⟨List.mem_of_getElem? (i := 37) rfl, good_of_word rfl⟩, (List.forall_mem_cons.mpr ⟨⟨List.mem_of_getElem? (i := 38) rfl, good_of_word rfl⟩, (List.forall_mem_cons.mpr ⟨⟨List.mem_of_getElem? (i := 39) rfl, good_of_word rfl⟩, (List.forall_mem_cons.mpr ⟨⟨List.mem_of_getElem? (i := 40) rfl, good_of_word rfl⟩, (List.forall_mem_cons.mpr ⟨⟨List.mem_of_getElem? (i := 41) rfl, good_of_word rfl⟩, (fun _ h => nomatch h)⟩)⟩)⟩)⟩)⟩)⟩)⟩)⟩)⟩)⟩)⟩)⟩)⟩)⟩)⟩)⟩)⟩)⟩)⟩)⟩)⟩)⟩)⟩)
theorem gb_c_rules_c_read : GoodIn v_c_rules v_c_read := (goodIn_ca gb_c_rules_c_read0 (goodIn_sub iw_c_rules_X10 gw_X10))
theorem g_c_rules_c_read_110 : GoodIn v_c_rules (wsV RX12 110 RX10 yX10_read v_c_read) := goodIn_app (List.forall_mem_cons.mpr ⟨⟨List.mem_of_getElem? (i := 11) rfl, good_of_word rfl⟩, (List.forall_mem_cons.mpr ⟨⟨List.mem_of_getElem? (i := 12) rfl, good_of_word rfl⟩, (List.forall_mem_cons.mpr ⟨⟨List.mem_of_getElem? (i := 13) rfl, good_of_word rfl⟩, (List.forall_mem_cons.mpr ⟨⟨List.mem_of_getElem? (i := 14) rfl, good_of_word rfl⟩, (fun _ h => nomatch h)⟩)⟩)⟩)⟩) gb_c_rules_c_read
set_option maxHeartbeats 4000000 in
set_option maxRecDepth 100000 in
theorem c_rules (l : Launch) (dC : Nat → ClassId) (dI : Nat → Nat → Nat) (x : Nat) (bk : Nat) (tp : Nat) (sh : Nat) (sc : Nat) (he : Nat) (of : Nat) (lc : Nat) (lr : Nat) (la : Nat) (le : Nat) (lw : Nat) (lp : Nat) (ltr : Nat) (stk : Nat) (ed : Nat) (tby : Nat) (tst : Nat) (tla : Nat) (tbe : Nat) (tsu : Nat) (cI : ClassId) (gb : Nat → Int32) (n : Int32) (sz : Nat)  : Met l yX12_rules v_c_rules ({ frames := 3, cells := 0, slots := 0, locals := 120 }) (va_Pc [.ref x, .int n] (fun U => U.heap.size = sz ∧ va_P (dC, dI) vwCl [(x, .inr (13, [.ref bk, .ref tp, .ref sh, .ref sc, .ref he, .ref of])), (bk, .inr (1, [.int 0, .int 0, .int 0, .ref lc, .ref lr, .ref la, .ref le, .ref lw, .ref lp, .ref ltr, .ref stk])), (lr, .inr (0, [.int 0, .ref ed, .int 0])), (tp, .inr (11, [.ref tby, .int 0, .int 0, .int 0, .ref tst, .int 0, .ref tla, .ref tbe, .ref tsu, .int 0])), (tbe, .inl (cI, 52, .inl gb))] U.heap ∧ va_K (dC, dI) vwCl [(cI, .int)] U ∧ va_D (fun _ => True) [(x, .inr (13, [.ref bk, .ref tp, .ref sh, .ref sc, .ref he, .ref of])), (bk, .inr (1, [.int 0, .int 0, .int 0, .ref lc, .ref lr, .ref la, .ref le, .ref lw, .ref lp, .ref ltr, .ref stk])), (lr, .inr (0, [.int 0, .ref ed, .int 0])), (tp, .inr (11, [.ref tby, .int 0, .int 0, .int 0, .ref tst, .int 0, .ref tla, .ref tbe, .ref tsu, .int 0])), (tbe, .inl (cI, 52, .inl gb))] ∧ ub_NX U ∧ ub_ST U)) (va_Qi (S := Unit) (fun r _ => r = -1) (fun _ _ => True) (va_A [(x, .inr (13, [.ref bk, .ref tp, .ref sh, .ref sc, .ref he, .ref of])), (bk, .inr (1, [.int 0, .int 0, .int 0, .ref lc, .ref lr, .ref la, .ref le, .ref lw, .ref lp, .ref ltr, .ref stk])), (lr, .inr (0, [.int 0, .ref ed, .int 0])), (tp, .inr (11, [.ref tby, .int 0, .int 0, .int 0, .ref tst, .int 0, .ref tla, .ref tbe, .ref tsu, .int 0])), (tbe, .inl (cI, 52, .inl gb))] sz)) 0 0 (va_A [(x, .inr (13, [.ref bk, .ref tp, .ref sh, .ref sc, .ref he, .ref of])), (bk, .inr (1, [.int 0, .int 0, .int 0, .ref lc, .ref lr, .ref la, .ref le, .ref lw, .ref lp, .ref ltr, .ref stk])), (lr, .inr (0, [.int 0, .ref ed, .int 0])), (tp, .inr (11, [.ref tby, .int 0, .int 0, .int 0, .ref tst, .int 0, .ref tla, .ref tbe, .ref tsu, .int 0])), (tbe, .inl (cI, 52, .inl gb))] sz) := by
  refine Met.ofW (cc := cX12_rules) (maxL := 2) (ret := (some .int)) (by decide) rfl ?_
  intro p e s m args below meth c s₁ B hml hv
  obtain ⟨rfl, hsz, hP, hK, hD0, hN, hT⟩ := hv
  have hx := B.exec
  have hb := B.bytes
  have hr := B.returns
  have hts := atoms_spec (ws := v_c_rules) B.pre
  have hown : s.vm.findClass RX12 = some m.cls := findClass_of_methodNamed B.named
  have hlocks := B.notSynchronized
  subst hsz
  have hD := hD0.self (sz := s.heap.size)
  generalize hAe : va_A [(x, .inr (13, [.ref bk, .ref tp, .ref sh, .ref sc, .ref he, .ref of])), (bk, .inr (1, [.int 0, .int 0, .int 0, .ref lc, .ref lr, .ref la, .ref le, .ref lw, .ref lp, .ref ltr, .ref stk])), (lr, .inr (0, [.int 0, .ref ed, .int 0])), (tp, .inr (11, [.ref tby, .int 0, .int 0, .int 0, .ref tst, .int 0, .ref tla, .ref tbe, .ref tsu, .int 0])), (tbe, .inl (cI, 52, .inl gb))] s.heap.size = A at hD ⊢
  have hA : ∀ q : Nat, s.heap.size ≤ q → A q := fun q h => by rw [← hAe]; exact Or.inr h
  try rw [hAe] at hT
  have hS : va_S A s.heap s.heap [] := va_S.rf
  have hP : va_P (dC, dI) vwCl [(x, .inr (13, [.ref bk, .ref tp, .ref sh, .ref sc, .ref he, .ref of])), (bk, .inr (1, [.int 0, .int 0, .int 0, .ref lc, .ref lr, .ref la, .ref le, .ref lw, .ref lp, .ref ltr, .ref stk])), (lr, .inr (0, [.int 0, .ref ed, .int 0])), (tp, .inr (11, [.ref tby, .int 0, .int 0, .int 0, .ref tst, .int 0, .ref tla, .ref tbe, .ref tsu, .int 0])), (tbe, .inl (cI, 52, .inl gb))] s.heap := hP
  have hl := lv_entry ([.ref x, .int n]) (n := 2) (Nat.le_of_ble_eq_true rfl)
  rw [lg_entry_eq]
  generalize (lg_sl ([.ref x, .int n]) ++ List.replicate (2 - (lg_sl ([.ref x, .int n])).length) Slot.unset).toArray = ls at hl ⊢
  have hl : lv_has ls 2 [(0, .ref x), (1, .int n)] := hl
  refine lv_iload_n hx hb dX12_rules_0 rfl (lv_at hl 1 rfl) ?_
  refine va_calli (va_runS (As := [.int n]) (rest := []) ⟨hx, hb, hml, hown, hts⟩ (c_isDay l n) (va_cwS 1 hts g_c_rules_c_isDay_70 rfl rfl rfl (by decide +kernel) ⟨Nat.le_of_ble_eq_true rfl, Nat.le_of_ble_eq_true rfl⟩) ⟨fun _ _ _ _ q => q, fun _ _ _ => ⟨rfl, trivial⟩⟩ rfl rfl hl.1 rfl (lv_room (Nat.le_of_ble_eq_true rfl)) dX12_rules_1 ⟨Nat.le_of_ble_eq_true rfl, Nat.le_of_ble_eq_true rfl⟩) hS (fun _ _ h => h.elim) (fun _ h => h.elim) (fun r1 u2 t H1 locs ht hvm hw hB hz1 hk1 hS => ?_)
  have hP := ub_keep hP hk1
  generalize H1 = H at hP hS ⊢
  rcases hw with ⟨rfl, hw1, hw2⟩ | ⟨rfl, hw1⟩
  · --in
    have d3a := hw1
    have d3b := hw2
    refine lv_if_eq (tgt := 22) hx hb dX12_rules_4 (by decide) (fun c4 => by first | exact absurd c4 (by decide) | exact absurd (by decide) c4) (fun c4 => ?_)
    refine lv_aload_n hx hb dX12_rules_7 rfl (lv_at hl 0 rfl) ?_
    refine va_get (D := (dC, dI)) (ci := 13) (v := .ref bk) (C := RX12) (T := TX12) (N := 6) hx hb hts iw_c_rules_X12 hown hK hP 0 rfl rfl 0 (by decide) (hts (.fieldLink RX12 10 "UnlikeBoats" "book" "LUnlikeBoats$Book;") (List.mem_of_getElem? (i := 4) rfl)) (fun _ h9 => h9) rfl dX12_rules_8 ?_
    refine va_get (D := (dC, dI)) (ci := 1) (v := .ref lr) (C := RX0) (T := TX0) (N := 11) hx hb hts iw_c_rules_X0 hown hK hP 1 rfl rfl 4 (by decide) (hts (.fieldLink RX12 113 "UnlikeBoats$Book" "rules" "Ljava/util/ArrayList;") (List.mem_of_getElem? (i := 5) rfl)) (fun _ h9 => h9) rfl dX12_rules_11 ?_
    have hPc := hP.sub (ws' := [(lr, .inr (0, [.int 0, .ref ed, .int 0]))]) [2] rfl
    have hKc := hK.sub (tys' := []) [] rfl
    refine va_calli (va_runV (As := []) (rest := []) ⟨hx, hb, hml, hown, hts⟩ (c_size l dC dI lr (0) ed (0)) (cwV 0 hts g_c_rules_c_size_77 rfl rfl rfl (by decide +kernel) ⟨Nat.le_of_ble_eq_true rfl, Nat.le_of_ble_eq_true rfl⟩) ⟨fun a U g mk q => by obtain ⟨e0, qP, qK⟩ := q; exact ⟨e0, qP, va_K.moved (u := U) (U := U.calling g mk a) (Vm.Alike.refl U.vm) qK⟩, va_recv hK hP (ci := 0) (q0 := 2) rfl rfl, fun U hU hW => ⟨rfl, by rw [hU]; exact hPc, va_K.moved hW.alike hKc⟩⟩ rfl rfl hl.1 rfl (lv_room (Nat.le_of_ble_eq_true rfl)) dX12_rules_14 ⟨Nat.le_of_ble_eq_true rfl, Nat.le_of_ble_eq_true rfl⟩) hS (fun _ _ h => h.elim) (fun _ h => h.elim) (fun r5 u6 t H1 locs ht hvm hw hB hz1 hk1 hS => ?_)
    have hP := ub_keep hP hk1
    generalize H1 = H at hP hS ⊢
    obtain rfl : (0 : Int32) = r5 := hw.symm
    refine lv_bipush (v := 16) hx hb dX12_rules_17 (by decide) ?_
    refine lv_icmp_lt (tgt := 24) hx hb dX12_rules_19 (by decide) (fun c7 => ?_) (fun c7 => by first | exact absurd c7 (by decide) | exact absurd (by decide) c7)
    refine lv_aload_n hx hb dX12_rules_24 rfl (lv_at hl 0 rfl) ?_
    refine va_get (D := (dC, dI)) (ci := 13) (v := .ref tp) (C := RX12) (T := TX12) (N := 6) hx hb hts iw_c_rules_X12 hown hK hP 0 rfl rfl 1 (by decide) (hts (.fieldLink RX12 19 "UnlikeBoats" "tape" "LUnlikeBoats$Tape;") (List.mem_of_getElem? (i := 10) rfl)) (fun _ h9 => h9) rfl dX12_rules_25 ?_
    have hPc := hP.sub (ws' := [(tp, .inr (11, [.ref tby, .int 0, .int 0, .int 0, .ref tst, .int 0, .ref tla, .ref tbe, .ref tsu, .int 0])), (tbe, .inl (cI, 52, .inl gb))]) [3, 4] rfl
    have hKc := hK.sub (tys' := [(cI, .int)]) [0] rfl
    have hDc := hD.sub (ws' := [(tp, .inr (11, [.ref tby, .int 0, .int 0, .int 0, .ref tst, .int 0, .ref tla, .ref tbe, .ref tsu, .int 0])), (tbe, .inl (cI, 52, .inl gb))]) [3, 4] (by decide) rfl
    have hFc := va_free (wc := [(tp, .inr (11, [.ref tby, .int 0, .int 0, .int 0, .ref tst, .int 0, .ref tla, .ref tbe, .ref tsu, .int 0])), (tbe, .inl (cI, 52, .inl gb))]) hD hS hA [3, 4] rfl
    refine va_calli (va_runV (As := []) (rest := []) ⟨hx, hb, hml, hown, hts⟩ (c_read l dC dI tp tby tst tla tbe tsu cI gb H.size) (cwV 0 hts g_c_rules_c_read_110 rfl rfl rfl (by decide +kernel) ⟨Nat.le_of_ble_eq_true rfl, Nat.le_of_ble_eq_true rfl⟩) ⟨fun a U g mk q => by obtain ⟨e0, e1, qP, qK, qD, qN, qT⟩ := q; exact ⟨e0, e1, qP, va_K.moved (u := U) (U := U.calling g mk a) (Vm.Alike.refl U.vm) qK, qD, ub_NX_c qN, ub_T_c qT⟩, va_recv hK hP (ci := 11) (q0 := 3) rfl rfl, fun U hU hW => ⟨rfl, by rw [hU], by rw [hU]; exact hPc, va_K.moved hW.alike hKc, hDc.weaken (fun _ _ _ _ => trivial), ub_NX_w hW hN, ub_T_w hU hW hS hT⟩⟩ rfl rfl hl.1 rfl (lv_room (Nat.le_of_ble_eq_true rfl)) dX12_rules_28 ⟨Nat.le_of_ble_eq_true rfl, Nat.le_of_ble_eq_true rfl⟩) hS (fun q _ h => hFc q h) hFc (fun r8 u9 t H1 locs ht hvm hw hB hz1 hk1 hS => ?_)
    have hP1 : va_P (dC, dI) vwCl [] H1 := ub_P0
    have hD1 : va_D (va_A [(tp, .inr (11, [.ref tby, .int 0, .int 0, .int 0, .ref tst, .int 0, .ref tla, .ref tbe, .ref tsu, .int 0])), (tbe, .inl (cI, 52, .inl gb))] H.size) [] := ub_D0
    obtain ⟨hP, hD⟩ := va_join (wr := [(x, .inr (13, [.ref bk, .ref tp, .ref sh, .ref sc, .ref he, .ref of])), (bk, .inr (1, [.int 0, .int 0, .int 0, .ref lc, .ref lr, .ref la, .ref le, .ref lw, .ref lp, .ref ltr, .ref stk])), (lr, .inr (0, [.int 0, .ref ed, .int 0]))]) (w1 := []) hP hD [3, 4] [0, 1, 2] rfl rfl (by decide) (by decide) hk1 hFc hP1 hD1
    generalize H1 = H at hP hS ⊢
    have hP : va_P (dC, dI) vwCl [(x, .inr (13, [.ref bk, .ref tp, .ref sh, .ref sc, .ref he, .ref of])), (bk, .inr (1, [.int 0, .int 0, .int 0, .ref lc, .ref lr, .ref la, .ref le, .ref lw, .ref lp, .ref ltr, .ref stk])), (lr, .inr (0, [.int 0, .ref ed, .int 0]))] H := hP
    have hD : va_D A [(x, .inr (13, [.ref bk, .ref tp, .ref sh, .ref sc, .ref he, .ref of])), (bk, .inr (1, [.int 0, .int 0, .int 0, .ref lc, .ref lr, .ref la, .ref le, .ref lw, .ref lp, .ref ltr, .ref stk])), (lr, .inr (0, [.int 0, .ref ed, .int 0]))] := hD
    refine W.widen (k := 0) (n := 0) (by omega) (by omega) ?_
    obtain rfl : (0 : Int32) = r8 := hw.symm
    refine lv_iconst (v := -1) hx hb dX12_rules_31 (by decide) ?_
    refine lv_icmp_eq (tgt := 37) hx hb dX12_rules_32 (by decide) (fun c10 => by first | exact absurd c10 (by decide) | exact absurd (by decide) c10) (fun c10 => ?_)
    refine lv_iconst (v := -1) hx hb dX12_rules_35 (by decide) ?_
    exact W.iret (v := (-1)) hx hb hr (fun t ht hW => ⟨⟨(-1), (), rfl, rfl, trivial⟩, hS.F ht⟩) hS.2.2 dX12_rules_36
  · --out
    have d11 := hw1
    refine lv_if_eq (tgt := 22) hx hb dX12_rules_4 (by decide) (fun c12 => ?_) (fun c12 => by first | exact absurd c12 (by decide) | exact absurd (by decide) c12)
    refine lv_iconst (v := -1) hx hb dX12_rules_22 (by decide) ?_
    exact W.iret (v := (-1)) hx hb hr (fun t ht hW => ⟨⟨(-1), (), rfl, rfl, trivial⟩, hS.F ht⟩) hS.2.2 dX12_rules_23
def A_tm_certOn : List Cond := [.fieldLink RX13 242 "UnlikeBoatsModel" "certs" "I", .fieldLink RX13 9 "UnlikeBoatsModel" "certBoat" "[I", .fieldLink RX13 25 "UnlikeBoatsModel" "certTold" "[I", .fieldLink RX13 13 "UnlikeBoatsModel" "certFrom" "[I"]
def v_tm_certOn : List Cond := .code yX13_certOn cX13_certOn 6 (some .int) :: (A_tm_certOn ++ wsX130)
theorem iw_tm_certOn_X13 : ∀ w ∈ wsX130, w ∈ v_tm_certOn := fun _ h => List.mem_cons_of_mem _ (List.mem_append_right _ (h))
set_option maxHeartbeats 4000000 in
set_option maxRecDepth 100000 in
theorem tm_certOn (l : Launch) (dC : Nat → ClassId) (dI : Nat → Nat → Nat) (h : Nat) (f : Nat → Value) (z_certBoat : Nat) (z_certFrom : Nat) (z_certTold : Nat) (cI : ClassId) (g_certBoat : Nat → Int32) (g_certFrom : Nat → Int32) (g_certTold : Nat → Int32) (nc : Nat) (a0 : Int32) (a1 : Int32) (a2 : Int32) (hf_certs : f 9 = .int (nI nc)) (hB : nc ≤ 80) (hf_certBoat : f 2 = .ref z_certBoat) (hf_certFrom : f 3 = .ref z_certFrom) (hf_certTold : f 7 = .ref z_certTold) : Met l yX13_certOn v_tm_certOn ({ frames := 0, cells := 0, slots := 0, locals := 0 }) (va_Pc [.ref h, .int a0, .int a1, .int a2] (fun U => va_P (dC, dI) vwCl [(h, .inr (14, mL f)), (z_certBoat, .inl (cI, 80, .inl g_certBoat)), (z_certFrom, .inl (cI, 80, .inl g_certFrom)), (z_certTold, .inl (cI, 80, .inl g_certTold))] U.heap ∧ va_K (dC, dI) vwCl [(cI, .int)] U)) (va_Qi (S := Unit) (fun r _ => r = cO g_certBoat g_certFrom g_certTold a0 a1 a2 nc) (fun _ _ => True) (fun _ => False)) 0 0 (fun _ => False) := by
  refine Met.ofW (cc := cX13_certOn) (maxL := 6) (ret := (some .int)) (by decide) rfl ?_
  intro p e s m args below meth c s₁ B hml hv
  obtain ⟨rfl, hP, hK⟩ := hv
  have hx := B.exec
  have hb := B.bytes
  have hr := B.returns
  have hts := atoms_spec (ws := v_tm_certOn) B.pre
  have hown : s.vm.findClass RX13 = some m.cls := findClass_of_methodNamed B.named
  have hlocks := B.notSynchronized
  have hS : va_S (fun _ : Nat => False) s.heap s.heap [] := va_S.rf
  have hl := lv_entry ([.ref h, .int a0, .int a1, .int a2]) (n := 6) (Nat.le_of_ble_eq_true rfl)
  rw [lg_entry_eq]
  generalize (lg_sl ([.ref h, .int a0, .int a1, .int a2]) ++ List.replicate (6 - (lg_sl ([.ref h, .int a0, .int a1, .int a2])).length) Slot.unset).toArray = ls at hl ⊢
  have hl : lv_has ls 6 [(0, .ref h), (1, .int a0), (2, .int a1), (3, .int a2)] := hl
  refine lv_iconst (v := -1) hx hb dX13_certOn_0 (by decide) ?_
  refine lv_istore (lv' := [(4, .int (-1)), (0, .ref h), (1, .int a0), (2, .int a1), (3, .int a2)]) hx hb dX13_certOn_1 hl (by decide) rfl (fun ls hl => ?_)
  refine lv_iconst (v := 0) hx hb dX13_certOn_3 (by decide) ?_
  refine lv_istore (lv' := [(5, .int 0), (4, .int (-1)), (0, .ref h), (1, .int a0), (2, .int a1), (3, .int a2)]) hx hb dX13_certOn_4 hl (by decide) rfl (fun ls hl => ?_)
  have hLp6 : ∀ (d i6 : Nat) (b : Int32) (H : Heap) (locs : List Loc) (ls : Array Slot), i6 + d = nc → b = cO g_certBoat g_certFrom g_certTold a0 a1 a2 i6 → va_P (dC, dI) vwCl [(h, .inr (14, mL f)), (z_certBoat, .inl (cI, 80, .inl g_certBoat)), (z_certFrom, .inl (cI, 80, .inl g_certFrom)), (z_certTold, .inl (cI, 80, .inl g_certTold))] H → va_S (fun _ : Nat => False) s.heap H locs → lv_has ls 6 [(5, .int (nI i6)), (4, .int b), (0, .ref h), (1, .int a0), (2, .int a1), (3, .int a2)] → W p l e (headSpec v_tm_certOn ({ frames := 0, cells := 0, slots := 0, locals := 0 })).room s m ([.ref h, .int a0, .int a1, .int a2] : List Value).toArray below meth c H locs 0 0 (MQ below (va_Qi (S := Unit) (fun r _ => r = cO g_certBoat g_certFrom g_certTold a0 a1 a2 nc) (fun _ _ => True) (fun _ => False)) ([.ref h, .int a0, .int a1, .int a2] : List Value).toArray s 0 0 (fun _ => False)) (F0 m 6 ls []) := by
    intro d
    induction d with
    | zero =>
      intro i6 b  H locs ls hi6 hv6 hP hS hl
      refine lv_iload hx hb dX13_certOn_6 (lv_at hl 0 rfl) ?_
      refine lv_aload_n hx hb dX13_certOn_8 rfl (lv_at hl 2 rfl) ?_
      refine va_get (D := (dC, dI)) (ci := 14) (v := .int (nI nc)) (C := RX13) (T := TX13) (N := 97) hx hb hts iw_tm_certOn_X13 hown hK hP 0 rfl rfl 9 (by decide) (hts (.fieldLink RX13 242 "UnlikeBoatsModel" "certs" "I") (List.mem_of_getElem? (i := 1) rfl)) (fun _ h9 => h9) (mL_some (Nat.le_of_ble_eq_true rfl) hf_certs) dX13_certOn_9 ?_
      refine lv_icmp_ge (tgt := 81) hx hb dX13_certOn_12 (by decide) (fun c1 => ?_) (fun c1 => by first | exact absurd c1 (nI_le (a := nc) (b := i6) (by omega) (by omega)) | exact absurd (nI_le (a := nc) (b := i6) (by omega) (by omega)) c1)
      refine lv_iload hx hb dX13_certOn_81 (lv_at hl 1 rfl) ?_
      exact W.iret (v := b) hx hb hr (fun t ht hW => ⟨⟨b, (), rfl, ((show i6 = nc by omega) ▸ hv6), trivial⟩, hS.F ht⟩) hS.2.2 dX13_certOn_83
    | succ d ih6 =>
      intro i6 b  H locs ls hi6 hv6 hP hS hl
      refine lv_iload hx hb dX13_certOn_6 (lv_at hl 0 rfl) ?_
      refine lv_aload_n hx hb dX13_certOn_8 rfl (lv_at hl 2 rfl) ?_
      refine va_get (D := (dC, dI)) (ci := 14) (v := .int (nI nc)) (C := RX13) (T := TX13) (N := 97) hx hb hts iw_tm_certOn_X13 hown hK hP 0 rfl rfl 9 (by decide) (hts (.fieldLink RX13 242 "UnlikeBoatsModel" "certs" "I") (List.mem_of_getElem? (i := 1) rfl)) (fun _ h9 => h9) (mL_some (Nat.le_of_ble_eq_true rfl) hf_certs) dX13_certOn_9 ?_
      refine lv_icmp_ge (tgt := 81) hx hb dX13_certOn_12 (by decide) (fun c2 => by first | exact absurd c2 (nI_ge (a := i6) (b := nc) (by omega) (by omega)) | exact absurd (nI_ge (a := i6) (b := nc) (by omega) (by omega)) c2) (fun c2 => ?_)
      refine lv_aload_n hx hb dX13_certOn_15 rfl (lv_at hl 2 rfl) ?_
      refine va_get (D := (dC, dI)) (ci := 14) (v := .ref z_certBoat) (C := RX13) (T := TX13) (N := 97) hx hb hts iw_tm_certOn_X13 hown hK hP 0 rfl rfl 2 (by decide) (hts (.fieldLink RX13 9 "UnlikeBoatsModel" "certBoat" "[I") (List.mem_of_getElem? (i := 2) rfl)) (fun _ h9 => h9) (mL_some (Nat.le_of_ble_eq_true rfl) hf_certBoat) dX13_certOn_16 ?_
      refine lv_iload hx hb dX13_certOn_19 (lv_at hl 0 rfl) ?_
      refine va_iald hx hb hK hP 1 0 rfl rfl (vp_in_nI (n := i6) (N := 80) (by omega) (by omega)) dX13_certOn_21 ?_
      refine lv_topi (fun y3 ey3 => ?_)
      obtain rfl : (g_certBoat i6 : Int32) = y3 := (ey3.trans (congrArg g_certBoat (nI_clamp (by omega)))).symm
      refine lv_iload_n hx hb dX13_certOn_22 rfl (lv_at hl 3 rfl) ?_
      refine lv_icmp_ne (tgt := 75) hx hb dX13_certOn_23 (by decide) (fun c4 => ?_) (fun c4 => ?_)
      · --¬ g_certBoat i6 = a0
        refine lv_iinc (v := nI (i6 + 1)) (lv' := [(5, .int (nI (i6 + 1))), (4, .int b), (0, .ref h), (1, .int a0), (2, .int a1), (3, .int a2)]) hx hb dX13_certOn_75 hl (k := 0) rfl (nI_1 _) (by decide) rfl (fun ls hl => ?_)
        refine lv_goto (tgt := 6) hx hb dX13_certOn_78 (by decide) ?_
        exact ih6 (i6 + 1) (b)  _ _ ls (by omega) (cO_skip hv6 (by first | exact fun hh => c4 hh.1 | exact fun hh => ub_lt_nle c4 hh.2.1 | exact fun hh => ub_lt_nle c4 hh.2.2.1 | exact fun hh => hh.2.2.2.elim (fun h9 => absurd h9 (by assumption)) (fun h9 => ub_lt_nle c4 (nI_clamp (n := jb) (by omega) ▸ h9)))) hP hS (lv_sub hl [0, 1, 2, 3, 4, 5] rfl)
      · --g_certBoat i6 = a0
        refine lv_aload_n hx hb dX13_certOn_26 rfl (lv_at hl 2 rfl) ?_
        refine va_get (D := (dC, dI)) (ci := 14) (v := .ref z_certTold) (C := RX13) (T := TX13) (N := 97) hx hb hts iw_tm_certOn_X13 hown hK hP 0 rfl rfl 7 (by decide) (hts (.fieldLink RX13 25 "UnlikeBoatsModel" "certTold" "[I") (List.mem_of_getElem? (i := 3) rfl)) (fun _ h9 => h9) (mL_some (Nat.le_of_ble_eq_true rfl) hf_certTold) dX13_certOn_27 ?_
        refine lv_iload hx hb dX13_certOn_30 (lv_at hl 0 rfl) ?_
        refine va_iald hx hb hK hP 3 0 rfl rfl (vp_in_nI (n := i6) (N := 80) (by omega) (by omega)) dX13_certOn_32 ?_
        refine lv_topi (fun y5 ey5 => ?_)
        obtain rfl : (g_certTold i6 : Int32) = y5 := (ey5.trans (congrArg g_certTold (nI_clamp (by omega)))).symm
        refine lv_iload_n hx hb dX13_certOn_33 rfl (lv_at hl 5 rfl) ?_
        refine lv_icmp_gt (tgt := 75) hx hb dX13_certOn_34 (by decide) (fun c6 => ?_) (fun c6 => ?_)
        · --a2 < g_certTold i6
          refine lv_iinc (v := nI (i6 + 1)) (lv' := [(5, .int (nI (i6 + 1))), (4, .int b), (0, .ref h), (1, .int a0), (2, .int a1), (3, .int a2)]) hx hb dX13_certOn_75 hl (k := 0) rfl (nI_1 _) (by decide) rfl (fun ls hl => ?_)
          refine lv_goto (tgt := 6) hx hb dX13_certOn_78 (by decide) ?_
          exact ih6 (i6 + 1) (b)  _ _ ls (by omega) (cO_skip hv6 (by first | exact fun hh => c6 hh.1 | exact fun hh => ub_lt_nle c6 hh.2.1 | exact fun hh => ub_lt_nle c6 hh.2.2.1 | exact fun hh => hh.2.2.2.elim (fun h9 => absurd h9 (by assumption)) (fun h9 => ub_lt_nle c6 (nI_clamp (n := jb) (by omega) ▸ h9)))) hP hS (lv_sub hl [0, 1, 2, 3, 4, 5] rfl)
        · --¬ a2 < g_certTold i6
          refine lv_aload_n hx hb dX13_certOn_37 rfl (lv_at hl 2 rfl) ?_
          refine va_get (D := (dC, dI)) (ci := 14) (v := .ref z_certFrom) (C := RX13) (T := TX13) (N := 97) hx hb hts iw_tm_certOn_X13 hown hK hP 0 rfl rfl 3 (by decide) (hts (.fieldLink RX13 13 "UnlikeBoatsModel" "certFrom" "[I") (List.mem_of_getElem? (i := 4) rfl)) (fun _ h9 => h9) (mL_some (Nat.le_of_ble_eq_true rfl) hf_certFrom) dX13_certOn_38 ?_
          refine lv_iload hx hb dX13_certOn_41 (lv_at hl 0 rfl) ?_
          refine va_iald hx hb hK hP 2 0 rfl rfl (vp_in_nI (n := i6) (N := 80) (by omega) (by omega)) dX13_certOn_43 ?_
          refine lv_topi (fun y7 ey7 => ?_)
          obtain rfl : (g_certFrom i6 : Int32) = y7 := (ey7.trans (congrArg g_certFrom (nI_clamp (by omega)))).symm
          refine lv_iload_n hx hb dX13_certOn_44 rfl (lv_at hl 4 rfl) ?_
          refine lv_icmp_gt (tgt := 75) hx hb dX13_certOn_45 (by decide) (fun c8 => ?_) (fun c8 => ?_)
          · --a1 < g_certFrom i6
            refine lv_iinc (v := nI (i6 + 1)) (lv' := [(5, .int (nI (i6 + 1))), (4, .int b), (0, .ref h), (1, .int a0), (2, .int a1), (3, .int a2)]) hx hb dX13_certOn_75 hl (k := 0) rfl (nI_1 _) (by decide) rfl (fun ls hl => ?_)
            refine lv_goto (tgt := 6) hx hb dX13_certOn_78 (by decide) ?_
            exact ih6 (i6 + 1) (b)  _ _ ls (by omega) (cO_skip hv6 (by first | exact fun hh => c8 hh.1 | exact fun hh => ub_lt_nle c8 hh.2.1 | exact fun hh => ub_lt_nle c8 hh.2.2.1 | exact fun hh => hh.2.2.2.elim (fun h9 => absurd h9 (by assumption)) (fun h9 => ub_lt_nle c8 (nI_clamp (n := jb) (by omega) ▸ h9)))) hP hS (lv_sub hl [0, 1, 2, 3, 4, 5] rfl)
          · --¬ a1 < g_certFrom i6
            refine lv_iload hx hb dX13_certOn_48 (lv_at hl 1 rfl) ?_
            refine lv_iconst (v := -1) hx hb dX13_certOn_50 (by decide) ?_
            refine lv_icmp_eq (tgt := 71) hx hb dX13_certOn_51 (by decide) (fun c9 => ?_) (fun c9 => ?_)
            · --b = -1
              refine lv_iload hx hb dX13_certOn_71 (lv_at hl 0 rfl) ?_
              refine lv_istore (lv' := [(4, .int (nI i6)), (5, .int (nI i6)), (0, .ref h), (1, .int a0), (2, .int a1), (3, .int a2)]) hx hb dX13_certOn_73 hl (by decide) rfl (fun ls hl => ?_)
              refine lv_iinc (v := nI (i6 + 1)) (lv' := [(5, .int (nI (i6 + 1))), (4, .int (nI i6)), (0, .ref h), (1, .int a0), (2, .int a1), (3, .int a2)]) hx hb dX13_certOn_75 hl (k := 1) rfl (nI_1 _) (by decide) rfl (fun ls hl => ?_)
              refine lv_goto (tgt := 6) hx hb dX13_certOn_78 (by decide) ?_
              exact ih6 (i6 + 1) (nI i6)  _ _ ls (by omega) (cO_take hv6 ⟨by assumption, ub_le (by assumption), ub_le (by assumption), by first | exact Or.inl (by assumption) | exact Or.inr (by rw [nI_clamp (by omega)]; exact ub_le (by assumption))⟩) hP hS (lv_sub hl [0, 1, 2, 3, 4, 5] rfl)
            · --¬ b = -1
              obtain ⟨jb, rfl, hjb⟩ := cO_idx hv6 (by assumption)
              refine lv_aload_n hx hb dX13_certOn_54 rfl (lv_at hl 2 rfl) ?_
              refine va_get (D := (dC, dI)) (ci := 14) (v := .ref z_certFrom) (C := RX13) (T := TX13) (N := 97) hx hb hts iw_tm_certOn_X13 hown hK hP 0 rfl rfl 3 (by decide) (hts (.fieldLink RX13 13 "UnlikeBoatsModel" "certFrom" "[I") (List.mem_of_getElem? (i := 4) rfl)) (fun _ h9 => h9) (mL_some (Nat.le_of_ble_eq_true rfl) hf_certFrom) dX13_certOn_55 ?_
              refine lv_iload hx hb dX13_certOn_58 (lv_at hl 0 rfl) ?_
              refine va_iald hx hb hK hP 2 0 rfl rfl (vp_in_nI (n := i6) (N := 80) (by omega) (by omega)) dX13_certOn_60 ?_
              refine lv_topi (fun y10 ey10 => ?_)
              obtain rfl : (g_certFrom i6 : Int32) = y10 := (ey10.trans (congrArg g_certFrom (nI_clamp (by omega)))).symm
              refine lv_aload_n hx hb dX13_certOn_61 rfl (lv_at hl 2 rfl) ?_
              refine va_get (D := (dC, dI)) (ci := 14) (v := .ref z_certFrom) (C := RX13) (T := TX13) (N := 97) hx hb hts iw_tm_certOn_X13 hown hK hP 0 rfl rfl 3 (by decide) (hts (.fieldLink RX13 13 "UnlikeBoatsModel" "certFrom" "[I") (List.mem_of_getElem? (i := 4) rfl)) (fun _ h9 => h9) (mL_some (Nat.le_of_ble_eq_true rfl) hf_certFrom) dX13_certOn_62 ?_
              refine lv_iload hx hb dX13_certOn_65 (lv_at hl 1 rfl) ?_
              refine va_iald hx hb hK hP 2 0 rfl rfl (vp_in_nI (n := jb) (N := 80) (by omega) (by omega)) dX13_certOn_67 ?_
              refine lv_topi (fun y11 ey11 => ?_)
              obtain rfl : (g_certFrom jb : Int32) = y11 := (ey11.trans (congrArg g_certFrom (nI_clamp (by omega)))).symm
              refine lv_icmp_lt (tgt := 75) hx hb dX13_certOn_68 (by decide) (fun c12 => ?_) (fun c12 => ?_)
              · --g_certFrom i6 < g_certFrom jb
                refine lv_iinc (v := nI (i6 + 1)) (lv' := [(5, .int (nI (i6 + 1))), (4, .int (nI jb)), (0, .ref h), (1, .int a0), (2, .int a1), (3, .int a2)]) hx hb dX13_certOn_75 hl (k := 0) rfl (nI_1 _) (by decide) rfl (fun ls hl => ?_)
                refine lv_goto (tgt := 6) hx hb dX13_certOn_78 (by decide) ?_
                exact ih6 (i6 + 1) (nI jb)  _ _ ls (by omega) (cO_skip hv6 (by first | exact fun hh => c12 hh.1 | exact fun hh => ub_lt_nle c12 hh.2.1 | exact fun hh => ub_lt_nle c12 hh.2.2.1 | exact fun hh => hh.2.2.2.elim (fun h9 => absurd h9 (by assumption)) (fun h9 => ub_lt_nle c12 (nI_clamp (n := jb) (by omega) ▸ h9)))) hP hS (lv_sub hl [0, 1, 2, 3, 4, 5] rfl)
              · --¬ g_certFrom i6 < g_certFrom jb
                refine lv_iload hx hb dX13_certOn_71 (lv_at hl 0 rfl) ?_
                refine lv_istore (lv' := [(4, .int (nI i6)), (5, .int (nI i6)), (0, .ref h), (1, .int a0), (2, .int a1), (3, .int a2)]) hx hb dX13_certOn_73 hl (by decide) rfl (fun ls hl => ?_)
                refine lv_iinc (v := nI (i6 + 1)) (lv' := [(5, .int (nI (i6 + 1))), (4, .int (nI i6)), (0, .ref h), (1, .int a0), (2, .int a1), (3, .int a2)]) hx hb dX13_certOn_75 hl (k := 1) rfl (nI_1 _) (by decide) rfl (fun ls hl => ?_)
                refine lv_goto (tgt := 6) hx hb dX13_certOn_78 (by decide) ?_
                exact ih6 (i6 + 1) (nI i6)  _ _ ls (by omega) (cO_take hv6 ⟨by assumption, ub_le (by assumption), ub_le (by assumption), by first | exact Or.inl (by assumption) | exact Or.inr (by rw [nI_clamp (by omega)]; exact ub_le (by assumption))⟩) hP hS (lv_sub hl [0, 1, 2, 3, 4, 5] rfl)
  exact hLp6 (nc - 0) 0 (-1)  _ _ ls (by omega) rfl hP hS (lv_sub hl [0, 1, 2, 3, 4, 5] rfl)
