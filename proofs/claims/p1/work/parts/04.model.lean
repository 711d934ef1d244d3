def tyX13 : Nat → FieldType := fun k => match k with
  | 0 => .int
  | 1 => .int
  | 2 => .array .int
  | 3 => .array .int
  | 4 => .array .int
  | 5 => .array .int
  | 6 => .array .int
  | 7 => .array .int
  | 8 => .int
  | 9 => .int
  | 10 => .array .byte
  | 11 => .array .byte
  | 12 => .array .int
  | 13 => .array .int
  | 14 => .array .int
  | 15 => .array .int
  | 16 => .int
  | 17 => .int
  | 18 => .array .byte
  | 19 => .int
  | 20 => .int
  | 21 => .int
  | 22 => .int
  | 23 => .int
  | 24 => .int
  | 25 => .int
  | 26 => .boolean
  | 27 => .array .int
  | 28 => .array .int
  | 29 => .array .int
  | 30 => .array .int
  | 31 => .array .int
  | 32 => .array .int
  | 33 => .array .int
  | 34 => .array .int
  | 35 => .array .int
  | 36 => .array .int
  | 37 => .array .int
  | 38 => .array .int
  | 39 => .array .int
  | 40 => .array .int
  | 41 => .array .int
  | 42 => .array .int
  | 43 => .array .int
  | 44 => .array .int
  | 45 => .array .int
  | 46 => .int
  | 47 => .int
  | 48 => .int
  | 49 => .array .int
  | 50 => .array .int
  | 51 => .array .int
  | 52 => .array .int
  | 53 => .array .boolean
  | 54 => .array .boolean
  | 55 => .int
  | 56 => .array .int
  | 57 => .array .int
  | 58 => .array .int
  | 59 => .array .int
  | 60 => .array .int
  | 61 => .array .int
  | 62 => .array .int
  | 63 => .array .int
  | 64 => .array .int
  | 65 => .array .int
  | 66 => .array .int
  | 67 => .array .int
  | 68 => .array .int
  | 69 => .array .int
  | 70 => .array .int
  | 71 => .array .int
  | 72 => .array .int
  | 73 => .array .boolean
  | 74 => .int
  | 75 => .int
  | 76 => .array .int
  | 77 => .array .int
  | 78 => .array .int
  | 79 => .array .int
  | 80 => .array .int
  | 81 => .array .int
  | 82 => .array .int
  | 83 => .array .int
  | 84 => .array .int
  | 85 => .array .int
  | 86 => .int
  | 87 => .int
  | 88 => .int
  | 89 => .int
  | 90 => .array .int
  | 91 => .array .int
  | 92 => .array .int
  | 93 => .array .int
  | 94 => .array .int
  | 95 => .int
  | _ => .array .int
theorem nmX13 : ∀ a, a < 97 → ∀ b, b < 97 → a ≠ b → (TX13 a).2.1 ≠ (TX13 b).2.1 := by decide +kernel
theorem tyX13_ok : ∀ k, k < 97 → parseFieldDescriptor (TX13 k).2.2.1 = some (tyX13 k) := by decide +kernel
abbrev cX13_isIn : ByteArray := prog_15_method_3_code
def yX13_isIn : MethodName := ⟨RX13, "isIn", "(III)Z"⟩
abbrev cX13_isKnown : ByteArray := prog_15_method_4_code
def yX13_isKnown : MethodName := ⟨RX13, "isKnown", "(I)Z"⟩
abbrev cX13_isDay : ByteArray := prog_15_method_5_code
def yX13_isDay : MethodName := ⟨RX13, "isDay", "(I)Z"⟩
abbrev cX13_days : ByteArray := prog_15_method_6_code
def yX13_days : MethodName := ⟨RX13, "days", "(I)I"⟩
abbrev cX13_isBoat : ByteArray := prog_15_method_7_code
def yX13_isBoat : MethodName := ⟨RX13, "isBoat", "(I)Z"⟩
abbrev cX13_boat : ByteArray := prog_15_method_8_code
def yX13_boat : MethodName := ⟨RX13, "boat", "()I"⟩
abbrev cX13_certificate : ByteArray := prog_15_method_9_code
def yX13_certificate : MethodName := ⟨RX13, "certificate", "(IIIII)I"⟩
abbrev cX13_measured : ByteArray := prog_15_method_11_code
def yX13_measured : MethodName := ⟨RX13, "measured", "(III)I"⟩
abbrev cX13_end : ByteArray := prog_15_method_15_code
def yX13_end : MethodName := ⟨RX13, "end", "(I)Z"⟩
abbrev cX13_look : ByteArray := prog_15_method_16_code
def yX13_look : MethodName := ⟨RX13, "look", "()I"⟩
abbrev cX13_stop : ByteArray := prog_15_method_17_code
def yX13_stop : MethodName := ⟨RX13, "stop", "()Z"⟩
abbrev cX13_clause : ByteArray := prog_15_method_30_code
def yX13_clause : MethodName := ⟨RX13, "clause", "()V"⟩
abbrev cX13_goThrough : ByteArray := prog_15_method_31_code
def yX13_goThrough : MethodName := ⟨RX13, "goThrough", "([BIII)V"⟩
abbrev cX13_fault : ByteArray := prog_15_method_32_code
def yX13_fault : MethodName := ⟨RX13, "fault", "()I"⟩
abbrev cX13_rules : ByteArray := prog_15_method_33_code
def yX13_rules : MethodName := ⟨RX13, "rules", "(I)I"⟩
abbrev cX13_rulesOn : ByteArray := prog_15_method_34_code
def yX13_rulesOn : MethodName := ⟨RX13, "rulesOn", "(II)I"⟩
abbrev cX13_force : ByteArray := prog_15_method_35_code
def yX13_force : MethodName := ⟨RX13, "force", "(II)I"⟩
abbrev cX13_worth : ByteArray := prog_15_method_37_code
def yX13_worth : MethodName := ⟨RX13, "worth", "(III)I"⟩
abbrev cX13_number : ByteArray := prog_15_method_39_code
def yX13_number : MethodName := ⟨RX13, "number", "(III)I"⟩
abbrev cX13_isRace : ByteArray := prog_15_method_40_code
def yX13_isRace : MethodName := ⟨RX13, "isRace", "(I)Z"⟩
abbrev cX13_swift : ByteArray := prog_15_method_42_code
def yX13_swift : MethodName := ⟨RX13, "swift", "(II)Z"⟩
abbrev cX13_isEntry : ByteArray := prog_15_method_44_code
def yX13_isEntry : MethodName := ⟨RX13, "isEntry", "(II)Z"⟩
abbrev cX13_enter : ByteArray := prog_15_method_45_code
def yX13_enter : MethodName := ⟨RX13, "enter", "(II)Z"⟩
abbrev cX13_result : ByteArray := prog_15_method_46_code
def yX13_result : MethodName := ⟨RX13, "result", "(IIII)Z"⟩
abbrev cX13_asks : ByteArray := prog_15_method_49_code
def yX13_asks : MethodName := ⟨RX13, "asks", "(III)Z"⟩
abbrev cX13_asksEntry : ByteArray := prog_15_method_50_code
def yX13_asksEntry : MethodName := ⟨RX13, "asksEntry", "(III)Z"⟩
abbrev cX13_coded : ByteArray := prog_15_method_51_code
def yX13_coded : MethodName := ⟨RX13, "coded", "(III)I"⟩
abbrev cX13_corrected : ByteArray := prog_15_method_55_code
def yX13_corrected : MethodName := ⟨RX13, "corrected", "(III)I"⟩
abbrev cX13_placed : ByteArray := prog_15_method_57_code
def yX13_placed : MethodName := ⟨RX13, "placed", "(III)I"⟩
abbrev cX13_redress : ByteArray := prog_15_method_58_code
def yX13_redress : MethodName := ⟨RX13, "redress", "(II)Z"⟩
abbrev cX13_points : ByteArray := prog_15_method_62_code
def yX13_points : MethodName := ⟨RX13, "points", "(III)I"⟩
abbrev cX13_word : ByteArray := prog_15_method_69_code
def yX13_word : MethodName := ⟨RX13, "word", "(IIIIIII)I"⟩
abbrev cX13_protest : ByteArray := prog_15_method_70_code
def yX13_protest : MethodName := ⟨RX13, "protest", "(IIII)I"⟩
abbrev cX13_asksProtest : ByteArray := prog_15_method_74_code
def yX13_asksProtest : MethodName := ⟨RX13, "asksProtest", "(III)Z"⟩
abbrev cX13_states : ByteArray := prog_15_method_75_code
def yX13_states : MethodName := ⟨RX13, "states", "(III)I"⟩
abbrev cX13_finding : ByteArray := prog_15_method_81_code
def yX13_finding : MethodName := ⟨RX13, "finding", "(III)I"⟩
abbrev cX13_decide : ByteArray := prog_15_method_82_code
def yX13_decide : MethodName := ⟨RX13, "decide", "(I)I"⟩
abbrev cX13_reopen : ByteArray := prog_15_method_83_code
def yX13_reopen : MethodName := ⟨RX13, "reopen", "(I)Z"⟩
abbrev cX13_findEven : ByteArray := prog_15_method_85_code
def yX13_findEven : MethodName := ⟨RX13, "findEven", "(I)Z"⟩
abbrev cX13_even : ByteArray := prog_15_method_87_code
def yX13_even : MethodName := ⟨RX13, "even", "(I)I"⟩
abbrev cX13_change : ByteArray := prog_15_method_88_code
def yX13_change : MethodName := ⟨RX13, "change", "(II)I"⟩
abbrev cX13_middle : ByteArray := prog_15_method_90_code
def yX13_middle : MethodName := ⟨RX13, "middle", "(II)I"⟩
abbrev cX13_fit : ByteArray := prog_15_method_92_code
def yX13_fit : MethodName := ⟨RX13, "fit", "(I)I"⟩
abbrev cX13_suspect : ByteArray := prog_15_method_94_code
def yX13_suspect : MethodName := ⟨RX13, "suspect", "(II)I"⟩
abbrev cX13_start : ByteArray := prog_15_method_95_code
def yX13_start : MethodName := ⟨RX13, "start", "(IIII)Z"⟩
abbrev cX13_lean : ByteArray := prog_15_method_96_code
def yX13_lean : MethodName := ⟨RX13, "lean", "(I)I"⟩
abbrev cX13_draw : ByteArray := prog_15_method_97_code
def yX13_draw : MethodName := ⟨RX13, "draw", "(IJ)I"⟩
abbrev cX13_told : ByteArray := prog_15_method_98_code
def yX13_told : MethodName := ⟨RX13, "told", "(II)I"⟩
abbrev cX13_count : ByteArray := prog_15_method_99_code
def yX13_count : MethodName := ⟨RX13, "count", "(I)I"⟩
theorem dX13_isIn_0 : decode cX13_isIn 0 = .ok (.iload_n 0, 1) := by decide +kernel
theorem dX13_isIn_1 : decode cX13_isIn 1 = .ok (.iload_n 1, 1) := by decide +kernel
theorem dX13_isIn_2 : decode cX13_isIn 2 = .ok (.if_icmp .lt 12, 3) := by decide +kernel
theorem dX13_isIn_5 : decode cX13_isIn 5 = .ok (.iload_n 0, 1) := by decide +kernel
theorem dX13_isIn_6 : decode cX13_isIn 6 = .ok (.iload_n 2, 1) := by decide +kernel
theorem dX13_isIn_7 : decode cX13_isIn 7 = .ok (.if_icmp .gt 7, 3) := by decide +kernel
theorem dX13_isIn_10 : decode cX13_isIn 10 = .ok (.iconst 1, 1) := by decide +kernel
theorem dX13_isIn_11 : decode cX13_isIn 11 = .ok (.goto 4, 3) := by decide +kernel
theorem dX13_isIn_14 : decode cX13_isIn 14 = .ok (.iconst 0, 1) := by decide +kernel
theorem dX13_isIn_15 : decode cX13_isIn 15 = .ok (.ireturn, 1) := by decide +kernel
theorem dX13_isKnown_0 : decode cX13_isKnown 0 = .ok (.iload_n 1, 1) := by decide +kernel
theorem dX13_isKnown_1 : decode cX13_isKnown 1 = .ok (.iconst 0, 1) := by decide +kernel
theorem dX13_isKnown_2 : decode cX13_isKnown 2 = .ok (.aload_n 0, 1) := by decide +kernel
theorem dX13_isKnown_3 : decode cX13_isKnown 3 = .ok (.getfield 232, 3) := by decide +kernel
theorem dX13_isKnown_6 : decode cX13_isKnown 6 = .ok (.invokestatic 235, 3) := by decide +kernel
theorem dX13_isKnown_9 : decode cX13_isKnown 9 = .ok (.ireturn, 1) := by decide +kernel
theorem dX13_isDay_0 : decode cX13_isDay 0 = .ok (.iload_n 0, 1) := by decide +kernel
theorem dX13_isDay_1 : decode cX13_isDay 1 = .ok (.iconst 0, 1) := by decide +kernel
theorem dX13_isDay_2 : decode cX13_isDay 2 = .ok (.sipush 400, 3) := by decide +kernel
theorem dX13_isDay_5 : decode cX13_isDay 5 = .ok (.invokestatic 235, 3) := by decide +kernel
theorem dX13_isDay_8 : decode cX13_isDay 8 = .ok (.ireturn, 1) := by decide +kernel
theorem dX13_days_0 : decode cX13_days 0 = .ok (.aload_n 0, 1) := by decide +kernel
theorem dX13_days_1 : decode cX13_days 1 = .ok (.iconst 0, 1) := by decide +kernel
theorem dX13_days_2 : decode cX13_days 2 = .ok (.putfield 228, 3) := by decide +kernel
theorem dX13_days_5 : decode cX13_days 5 = .ok (.iload_n 1, 1) := by decide +kernel
theorem dX13_days_6 : decode cX13_days 6 = .ok (.iconst 0, 1) := by decide +kernel
theorem dX13_days_7 : decode cX13_days 7 = .ok (.sipush 400, 3) := by decide +kernel
theorem dX13_days_10 : decode cX13_days 10 = .ok (.invokestatic 235, 3) := by decide +kernel
theorem dX13_days_13 : decode cX13_days 13 = .ok (.ifCond .eq 15, 3) := by decide +kernel
theorem dX13_days_16 : decode cX13_days 16 = .ok (.aload_n 0, 1) := by decide +kernel
theorem dX13_days_17 : decode cX13_days 17 = .ok (.getfield 232, 3) := by decide +kernel
theorem dX13_days_20 : decode cX13_days 20 = .ok (.iload_n 1, 1) := by decide +kernel
theorem dX13_days_21 : decode cX13_days 21 = .ok (.iadd, 1) := by decide +kernel
theorem dX13_days_22 : decode cX13_days 22 = .ok (.sipush 400, 3) := by decide +kernel
theorem dX13_days_25 : decode cX13_days 25 = .ok (.if_icmp .le 5, 3) := by decide +kernel
theorem dX13_days_28 : decode cX13_days 28 = .ok (.iconst (-1), 1) := by decide +kernel
theorem dX13_days_29 : decode cX13_days 29 = .ok (.ireturn, 1) := by decide +kernel
theorem dX13_days_30 : decode cX13_days 30 = .ok (.aload_n 0, 1) := by decide +kernel
theorem dX13_days_31 : decode cX13_days 31 = .ok (.dup, 1) := by decide +kernel
theorem dX13_days_32 : decode cX13_days 32 = .ok (.getfield 232, 3) := by decide +kernel
theorem dX13_days_35 : decode cX13_days 35 = .ok (.iload_n 1, 1) := by decide +kernel
theorem dX13_days_36 : decode cX13_days 36 = .ok (.iadd, 1) := by decide +kernel
theorem dX13_days_37 : decode cX13_days 37 = .ok (.putfield 232, 3) := by decide +kernel
theorem dX13_days_40 : decode cX13_days 40 = .ok (.aload_n 0, 1) := by decide +kernel
theorem dX13_days_41 : decode cX13_days 41 = .ok (.getfield 232, 3) := by decide +kernel
theorem dX13_days_44 : decode cX13_days 44 = .ok (.ireturn, 1) := by decide +kernel
theorem dX13_isBoat_0 : decode cX13_isBoat 0 = .ok (.iload_n 1, 1) := by decide +kernel
theorem dX13_isBoat_1 : decode cX13_isBoat 1 = .ok (.ifCond .lt 15, 3) := by decide +kernel
theorem dX13_isBoat_4 : decode cX13_isBoat 4 = .ok (.iload_n 1, 1) := by decide +kernel
theorem dX13_isBoat_5 : decode cX13_isBoat 5 = .ok (.aload_n 0, 1) := by decide +kernel
theorem dX13_isBoat_6 : decode cX13_isBoat 6 = .ok (.getfield 239, 3) := by decide +kernel
theorem dX13_isBoat_9 : decode cX13_isBoat 9 = .ok (.if_icmp .ge 7, 3) := by decide +kernel
theorem dX13_isBoat_16 : decode cX13_isBoat 16 = .ok (.iconst 0, 1) := by decide +kernel
theorem dX13_isBoat_17 : decode cX13_isBoat 17 = .ok (.ireturn, 1) := by decide +kernel
theorem dX13_boat_0 : decode cX13_boat 0 = .ok (.aload_n 0, 1) := by decide +kernel
theorem dX13_boat_1 : decode cX13_boat 1 = .ok (.iconst 0, 1) := by decide +kernel
theorem dX13_boat_2 : decode cX13_boat 2 = .ok (.putfield 228, 3) := by decide +kernel
theorem dX13_boat_5 : decode cX13_boat 5 = .ok (.aload_n 0, 1) := by decide +kernel
theorem dX13_boat_6 : decode cX13_boat 6 = .ok (.getfield 239, 3) := by decide +kernel
theorem dX13_boat_9 : decode cX13_boat 9 = .ok (.bipush 16, 2) := by decide +kernel
theorem dX13_boat_11 : decode cX13_boat 11 = .ok (.if_icmp .ne 5, 3) := by decide +kernel
theorem dX13_boat_16 : decode cX13_boat 16 = .ok (.aload_n 0, 1) := by decide +kernel
theorem dX13_boat_17 : decode cX13_boat 17 = .ok (.dup, 1) := by decide +kernel
theorem dX13_boat_18 : decode cX13_boat 18 = .ok (.getfield 239, 3) := by decide +kernel
theorem dX13_boat_21 : decode cX13_boat 21 = .ok (.iconst 1, 1) := by decide +kernel
theorem dX13_boat_22 : decode cX13_boat 22 = .ok (.iadd, 1) := by decide +kernel
theorem dX13_boat_23 : decode cX13_boat 23 = .ok (.putfield 239, 3) := by decide +kernel
theorem dX13_boat_26 : decode cX13_boat 26 = .ok (.aload_n 0, 1) := by decide +kernel
theorem dX13_boat_27 : decode cX13_boat 27 = .ok (.getfield 239, 3) := by decide +kernel
theorem dX13_boat_30 : decode cX13_boat 30 = .ok (.iconst 1, 1) := by decide +kernel
theorem dX13_boat_31 : decode cX13_boat 31 = .ok (.isub, 1) := by decide +kernel
theorem dX13_boat_32 : decode cX13_boat 32 = .ok (.ireturn, 1) := by decide +kernel
theorem dX13_certificate_0 : decode cX13_certificate 0 = .ok (.aload_n 0, 1) := by decide +kernel
theorem dX13_certificate_1 : decode cX13_certificate 1 = .ok (.iconst 0, 1) := by decide +kernel
theorem dX13_certificate_2 : decode cX13_certificate 2 = .ok (.putfield 228, 3) := by decide +kernel
theorem dX13_certificate_5 : decode cX13_certificate 5 = .ok (.aload_n 0, 1) := by decide +kernel
theorem dX13_certificate_6 : decode cX13_certificate 6 = .ok (.getfield 242, 3) := by decide +kernel
theorem dX13_certificate_9 : decode cX13_certificate 9 = .ok (.bipush 80, 2) := by decide +kernel
theorem dX13_certificate_11 : decode cX13_certificate 11 = .ok (.if_icmp .eq 54, 3) := by decide +kernel
theorem dX13_certificate_14 : decode cX13_certificate 14 = .ok (.aload_n 0, 1) := by decide +kernel
theorem dX13_certificate_15 : decode cX13_certificate 15 = .ok (.iload_n 1, 1) := by decide +kernel
theorem dX13_certificate_16 : decode cX13_certificate 16 = .ok (.invokevirtual 245, 3) := by decide +kernel
theorem dX13_certificate_19 : decode cX13_certificate 19 = .ok (.ifCond .eq 46, 3) := by decide +kernel
theorem dX13_certificate_65 : decode cX13_certificate 65 = .ok (.iconst (-1), 1) := by decide +kernel
theorem dX13_certificate_66 : decode cX13_certificate 66 = .ok (.ireturn, 1) := by decide +kernel
theorem dX13_measured_0 : decode cX13_measured 0 = .ok (.aload_n 0, 1) := by decide +kernel
theorem dX13_measured_1 : decode cX13_measured 1 = .ok (.iconst 0, 1) := by decide +kernel
theorem dX13_measured_2 : decode cX13_measured 2 = .ok (.putfield 228, 3) := by decide +kernel
theorem dX13_measured_5 : decode cX13_measured 5 = .ok (.aload_n 0, 1) := by decide +kernel
theorem dX13_measured_6 : decode cX13_measured 6 = .ok (.iload_n 1, 1) := by decide +kernel
theorem dX13_measured_7 : decode cX13_measured 7 = .ok (.invokevirtual 245, 3) := by decide +kernel
theorem dX13_measured_10 : decode cX13_measured 10 = .ok (.ifCond .eq 28, 3) := by decide +kernel
theorem dX13_measured_38 : decode cX13_measured 38 = .ok (.iconst (-1), 1) := by decide +kernel
theorem dX13_measured_39 : decode cX13_measured 39 = .ok (.ireturn, 1) := by decide +kernel
theorem dX13_end_0 : decode cX13_end 0 = .ok (.aload_n 0, 1) := by decide +kernel
theorem dX13_end_1 : decode cX13_end 1 = .ok (.iconst 0, 1) := by decide +kernel
theorem dX13_end_2 : decode cX13_end 2 = .ok (.putfield 228, 3) := by decide +kernel
theorem dX13_end_5 : decode cX13_end 5 = .ok (.iload_n 1, 1) := by decide +kernel
theorem dX13_end_6 : decode cX13_end 6 = .ok (.ifCond .lt 11, 3) := by decide +kernel
theorem dX13_end_9 : decode cX13_end 9 = .ok (.iload_n 1, 1) := by decide +kernel
theorem dX13_end_10 : decode cX13_end 10 = .ok (.aload_n 0, 1) := by decide +kernel
theorem dX13_end_11 : decode cX13_end 11 = .ok (.getfield 259, 3) := by decide +kernel
theorem dX13_end_14 : decode cX13_end 14 = .ok (.if_icmp .le 5, 3) := by decide +kernel
theorem dX13_end_17 : decode cX13_end 17 = .ok (.iconst 0, 1) := by decide +kernel
theorem dX13_end_18 : decode cX13_end 18 = .ok (.ireturn, 1) := by decide +kernel
theorem dX13_end_19 : decode cX13_end 19 = .ok (.aload_n 0, 1) := by decide +kernel
theorem dX13_end_20 : decode cX13_end 20 = .ok (.iload_n 1, 1) := by decide +kernel
theorem dX13_end_21 : decode cX13_end 21 = .ok (.putfield 259, 3) := by decide +kernel
theorem dX13_end_24 : decode cX13_end 24 = .ok (.iconst 1, 1) := by decide +kernel
theorem dX13_end_25 : decode cX13_end 25 = .ok (.ireturn, 1) := by decide +kernel
theorem dX13_look_0 : decode cX13_look 0 = .ok (.aload_n 0, 1) := by decide +kernel
theorem dX13_look_1 : decode cX13_look 1 = .ok (.getfield 270, 3) := by decide +kernel
theorem dX13_look_4 : decode cX13_look 4 = .ok (.aload_n 0, 1) := by decide +kernel
theorem dX13_look_5 : decode cX13_look 5 = .ok (.getfield 273, 3) := by decide +kernel
theorem dX13_look_8 : decode cX13_look 8 = .ok (.if_icmp .ge 35, 3) := by decide +kernel
theorem dX13_look_43 : decode cX13_look 43 = .ok (.aload_n 0, 1) := by decide +kernel
theorem dX13_look_44 : decode cX13_look 44 = .ok (.getfield 270, 3) := by decide +kernel
theorem dX13_look_47 : decode cX13_look 47 = .ok (.aload_n 0, 1) := by decide +kernel
theorem dX13_look_48 : decode cX13_look 48 = .ok (.getfield 273, 3) := by decide +kernel
theorem dX13_look_51 : decode cX13_look 51 = .ok (.if_icmp .ge 24, 3) := by decide +kernel
theorem dX13_look_75 : decode cX13_look 75 = .ok (.iconst (-1), 1) := by decide +kernel
theorem dX13_look_76 : decode cX13_look 76 = .ok (.ireturn, 1) := by decide +kernel
theorem dX13_stop_0 : decode cX13_stop 0 = .ok (.aload_n 0, 1) := by decide +kernel
theorem dX13_stop_1 : decode cX13_stop 1 = .ok (.getfield 279, 3) := by decide +kernel
theorem dX13_stop_4 : decode cX13_stop 4 = .ok (.iconst (-1), 1) := by decide +kernel
theorem dX13_stop_5 : decode cX13_stop 5 = .ok (.if_icmp .ne 11, 3) := by decide +kernel
theorem dX13_stop_8 : decode cX13_stop 8 = .ok (.aload_n 0, 1) := by decide +kernel
theorem dX13_stop_9 : decode cX13_stop 9 = .ok (.aload_n 0, 1) := by decide +kernel
theorem dX13_stop_10 : decode cX13_stop 10 = .ok (.getfield 270, 3) := by decide +kernel
theorem dX13_stop_13 : decode cX13_stop 13 = .ok (.putfield 279, 3) := by decide +kernel
theorem dX13_stop_16 : decode cX13_stop 16 = .ok (.iconst 0, 1) := by decide +kernel
theorem dX13_stop_17 : decode cX13_stop 17 = .ok (.ireturn, 1) := by decide +kernel
theorem dX13_clause_0 : decode cX13_clause 0 = .ok (.aload_n 0, 1) := by decide +kernel
theorem dX13_clause_1 : decode cX13_clause 1 = .ok (.invokevirtual 289, 3) := by decide +kernel
theorem dX13_clause_4 : decode cX13_clause 4 = .ok (.istore_n 1, 1) := by decide +kernel
theorem dX13_clause_5 : decode cX13_clause 5 = .ok (.iload_n 1, 1) := by decide +kernel
theorem dX13_clause_6 : decode cX13_clause 6 = .ok (.iconst (-1), 1) := by decide +kernel
theorem dX13_clause_7 : decode cX13_clause 7 = .ok (.if_icmp .eq 13, 3) := by decide +kernel
theorem dX13_clause_20 : decode cX13_clause 20 = .ok (.aload_n 0, 1) := by decide +kernel
theorem dX13_clause_21 : decode cX13_clause 21 = .ok (.invokevirtual 285, 3) := by decide +kernel
theorem dX13_clause_24 : decode cX13_clause 24 = .ok (.pop, 1) := by decide +kernel
theorem dX13_clause_25 : decode cX13_clause 25 = .ok (.return_, 1) := by decide +kernel
theorem dX13_goThrough_0 : decode cX13_goThrough 0 = .ok (.aload_n 0, 1) := by decide +kernel
theorem dX13_goThrough_1 : decode cX13_goThrough 1 = .ok (.aload_n 1, 1) := by decide +kernel
theorem dX13_goThrough_2 : decode cX13_goThrough 2 = .ok (.putfield 47, 3) := by decide +kernel
theorem dX13_goThrough_5 : decode cX13_goThrough 5 = .ok (.aload_n 0, 1) := by decide +kernel
theorem dX13_goThrough_6 : decode cX13_goThrough 6 = .ok (.iload_n 2, 1) := by decide +kernel
theorem dX13_goThrough_7 : decode cX13_goThrough 7 = .ok (.putfield 276, 3) := by decide +kernel
theorem dX13_goThrough_10 : decode cX13_goThrough 10 = .ok (.aload_n 0, 1) := by decide +kernel
theorem dX13_goThrough_11 : decode cX13_goThrough 11 = .ok (.iload_n 3, 1) := by decide +kernel
theorem dX13_goThrough_12 : decode cX13_goThrough 12 = .ok (.putfield 273, 3) := by decide +kernel
theorem dX13_goThrough_15 : decode cX13_goThrough 15 = .ok (.aload_n 0, 1) := by decide +kernel
theorem dX13_goThrough_16 : decode cX13_goThrough 16 = .ok (.iload 4, 2) := by decide +kernel
theorem dX13_goThrough_18 : decode cX13_goThrough 18 = .ok (.putfield 357, 3) := by decide +kernel
theorem dX13_goThrough_21 : decode cX13_goThrough 21 = .ok (.aload_n 0, 1) := by decide +kernel
theorem dX13_goThrough_22 : decode cX13_goThrough 22 = .ok (.iconst 0, 1) := by decide +kernel
theorem dX13_goThrough_23 : decode cX13_goThrough 23 = .ok (.putfield 270, 3) := by decide +kernel
theorem dX13_goThrough_26 : decode cX13_goThrough 26 = .ok (.aload_n 0, 1) := by decide +kernel
theorem dX13_goThrough_27 : decode cX13_goThrough 27 = .ok (.iconst (-1), 1) := by decide +kernel
theorem dX13_goThrough_28 : decode cX13_goThrough 28 = .ok (.putfield 279, 3) := by decide +kernel
theorem dX13_goThrough_31 : decode cX13_goThrough 31 = .ok (.aload_n 0, 1) := by decide +kernel
theorem dX13_goThrough_32 : decode cX13_goThrough 32 = .ok (.iconst 0, 1) := by decide +kernel
theorem dX13_goThrough_33 : decode cX13_goThrough 33 = .ok (.putfield 282, 3) := by decide +kernel
theorem dX13_goThrough_36 : decode cX13_goThrough 36 = .ok (.aload_n 0, 1) := by decide +kernel
theorem dX13_goThrough_37 : decode cX13_goThrough 37 = .ok (.iconst 0, 1) := by decide +kernel
theorem dX13_goThrough_38 : decode cX13_goThrough 38 = .ok (.putfield 353, 3) := by decide +kernel
theorem dX13_goThrough_41 : decode cX13_goThrough 41 = .ok (.aload_n 0, 1) := by decide +kernel
theorem dX13_goThrough_42 : decode cX13_goThrough 42 = .ok (.iload 4, 2) := by decide +kernel
theorem dX13_goThrough_44 : decode cX13_goThrough 44 = .ok (.bipush 110, 2) := by decide +kernel
theorem dX13_goThrough_46 : decode cX13_goThrough 46 = .ok (.if_icmp .ne 9, 3) := by decide +kernel
theorem dX13_goThrough_55 : decode cX13_goThrough 55 = .ok (.iconst 0, 1) := by decide +kernel
theorem dX13_goThrough_56 : decode cX13_goThrough 56 = .ok (.putfield 360, 3) := by decide +kernel
theorem dX13_goThrough_59 : decode cX13_goThrough 59 = .ok (.aload_n 0, 1) := by decide +kernel
theorem dX13_goThrough_60 : decode cX13_goThrough 60 = .ok (.invokevirtual 363, 3) := by decide +kernel
theorem dX13_goThrough_63 : decode cX13_goThrough 63 = .ok (.aload_n 0, 1) := by decide +kernel
theorem dX13_goThrough_64 : decode cX13_goThrough 64 = .ok (.getfield 279, 3) := by decide +kernel
theorem dX13_goThrough_67 : decode cX13_goThrough 67 = .ok (.iconst (-1), 1) := by decide +kernel
theorem dX13_goThrough_68 : decode cX13_goThrough 68 = .ok (.if_icmp .ne 29, 3) := by decide +kernel
theorem dX13_goThrough_97 : decode cX13_goThrough 97 = .ok (.aload_n 0, 1) := by decide +kernel
theorem dX13_goThrough_98 : decode cX13_goThrough 98 = .ok (.getfield 279, 3) := by decide +kernel
theorem dX13_goThrough_101 : decode cX13_goThrough 101 = .ok (.iconst (-1), 1) := by decide +kernel
theorem dX13_goThrough_102 : decode cX13_goThrough 102 = .ok (.if_icmp .ne 16, 3) := by decide +kernel
theorem dX13_goThrough_118 : decode cX13_goThrough 118 = .ok (.return_, 1) := by decide +kernel
theorem dX13_fault_0 : decode cX13_fault 0 = .ok (.aload_n 0, 1) := by decide +kernel
theorem dX13_fault_1 : decode cX13_fault 1 = .ok (.iconst 0, 1) := by decide +kernel
theorem dX13_fault_2 : decode cX13_fault 2 = .ok (.putfield 228, 3) := by decide +kernel
theorem dX13_fault_5 : decode cX13_fault 5 = .ok (.aload_n 0, 1) := by decide +kernel
theorem dX13_fault_6 : decode cX13_fault 6 = .ok (.aload_n 0, 1) := by decide +kernel
theorem dX13_fault_7 : decode cX13_fault 7 = .ok (.getfield 28, 3) := by decide +kernel
theorem dX13_fault_10 : decode cX13_fault 10 = .ok (.iconst 0, 1) := by decide +kernel
theorem dX13_fault_11 : decode cX13_fault 11 = .ok (.aload_n 0, 1) := by decide +kernel
theorem dX13_fault_12 : decode cX13_fault 12 = .ok (.getfield 259, 3) := by decide +kernel
theorem dX13_fault_15 : decode cX13_fault 15 = .ok (.iconst 0, 1) := by decide +kernel
theorem dX13_fault_16 : decode cX13_fault 16 = .ok (.invokevirtual 366, 3) := by decide +kernel
theorem dX13_fault_19 : decode cX13_fault 19 = .ok (.aload_n 0, 1) := by decide +kernel
theorem dX13_fault_20 : decode cX13_fault 20 = .ok (.getfield 279, 3) := by decide +kernel
theorem dX13_fault_23 : decode cX13_fault 23 = .ok (.ireturn, 1) := by decide +kernel
theorem dX13_rules_0 : decode cX13_rules 0 = .ok (.aload_n 0, 1) := by decide +kernel
theorem dX13_rules_1 : decode cX13_rules 1 = .ok (.iconst 0, 1) := by decide +kernel
theorem dX13_rules_2 : decode cX13_rules 2 = .ok (.putfield 228, 3) := by decide +kernel
theorem dX13_rules_5 : decode cX13_rules 5 = .ok (.aload_n 0, 1) := by decide +kernel
theorem dX13_rules_6 : decode cX13_rules 6 = .ok (.aload_n 0, 1) := by decide +kernel
theorem dX13_rules_7 : decode cX13_rules 7 = .ok (.getfield 28, 3) := by decide +kernel
theorem dX13_rules_10 : decode cX13_rules 10 = .ok (.iconst 0, 1) := by decide +kernel
theorem dX13_rules_11 : decode cX13_rules 11 = .ok (.aload_n 0, 1) := by decide +kernel
theorem dX13_rules_12 : decode cX13_rules 12 = .ok (.getfield 259, 3) := by decide +kernel
theorem dX13_rules_15 : decode cX13_rules 15 = .ok (.iconst 0, 1) := by decide +kernel
theorem dX13_rules_16 : decode cX13_rules 16 = .ok (.invokevirtual 366, 3) := by decide +kernel
theorem dX13_rules_19 : decode cX13_rules 19 = .ok (.aload_n 0, 1) := by decide +kernel
theorem dX13_rules_20 : decode cX13_rules 20 = .ok (.getfield 279, 3) := by decide +kernel
theorem dX13_rules_23 : decode cX13_rules 23 = .ok (.iconst (-1), 1) := by decide +kernel
theorem dX13_rules_24 : decode cX13_rules 24 = .ok (.if_icmp .ne 19, 3) := by decide +kernel
theorem dX13_rules_43 : decode cX13_rules 43 = .ok (.iconst (-1), 1) := by decide +kernel
theorem dX13_rules_44 : decode cX13_rules 44 = .ok (.ireturn, 1) := by decide +kernel
theorem dX13_rulesOn_0 : decode cX13_rulesOn 0 = .ok (.iconst (-1), 1) := by decide +kernel
theorem dX13_rulesOn_1 : decode cX13_rulesOn 1 = .ok (.istore_n 3, 1) := by decide +kernel
theorem dX13_rulesOn_2 : decode cX13_rulesOn 2 = .ok (.iconst 0, 1) := by decide +kernel
theorem dX13_rulesOn_3 : decode cX13_rulesOn 3 = .ok (.istore 4, 2) := by decide +kernel
theorem dX13_rulesOn_5 : decode cX13_rulesOn 5 = .ok (.iload 4, 2) := by decide +kernel
theorem dX13_rulesOn_7 : decode cX13_rulesOn 7 = .ok (.aload_n 0, 1) := by decide +kernel
theorem dX13_rulesOn_8 : decode cX13_rulesOn 8 = .ok (.getfield 370, 3) := by decide +kernel
theorem dX13_rulesOn_11 : decode cX13_rulesOn 11 = .ok (.if_icmp .ge 55, 3) := by decide +kernel
theorem dX13_rulesOn_66 : decode cX13_rulesOn 66 = .ok (.iload_n 3, 1) := by decide +kernel
theorem dX13_rulesOn_67 : decode cX13_rulesOn 67 = .ok (.ireturn, 1) := by decide +kernel
theorem dX13_force_0 : decode cX13_force 0 = .ok (.aload_n 0, 1) := by decide +kernel
theorem dX13_force_1 : decode cX13_force 1 = .ok (.iconst 0, 1) := by decide +kernel
theorem dX13_force_2 : decode cX13_force 2 = .ok (.putfield 228, 3) := by decide +kernel
theorem dX13_force_5 : decode cX13_force 5 = .ok (.iload_n 1, 1) := by decide +kernel
theorem dX13_force_6 : decode cX13_force 6 = .ok (.invokestatic 249, 3) := by decide +kernel
theorem dX13_force_9 : decode cX13_force 9 = .ok (.ifCond .eq 20, 3) := by decide +kernel
theorem dX13_force_12 : decode cX13_force 12 = .ok (.aload_n 0, 1) := by decide +kernel
theorem dX13_force_13 : decode cX13_force 13 = .ok (.iload_n 2, 1) := by decide +kernel
theorem dX13_force_14 : decode cX13_force 14 = .ok (.invokevirtual 252, 3) := by decide +kernel
theorem dX13_force_17 : decode cX13_force 17 = .ok (.ifCond .eq 12, 3) := by decide +kernel
theorem dX13_force_20 : decode cX13_force 20 = .ok (.aload_n 0, 1) := by decide +kernel
theorem dX13_force_21 : decode cX13_force 21 = .ok (.iload_n 1, 1) := by decide +kernel
theorem dX13_force_22 : decode cX13_force 22 = .ok (.iload_n 2, 1) := by decide +kernel
theorem dX13_force_23 : decode cX13_force 23 = .ok (.invokevirtual 373, 3) := by decide +kernel
theorem dX13_force_26 : decode cX13_force 26 = .ok (.goto 4, 3) := by decide +kernel
theorem dX13_force_29 : decode cX13_force 29 = .ok (.iconst (-1), 1) := by decide +kernel
theorem dX13_force_30 : decode cX13_force 30 = .ok (.ireturn, 1) := by decide +kernel
theorem dX13_worth_0 : decode cX13_worth 0 = .ok (.aload_n 0, 1) := by decide +kernel
theorem dX13_worth_1 : decode cX13_worth 1 = .ok (.iload_n 2, 1) := by decide +kernel
theorem dX13_worth_2 : decode cX13_worth 2 = .ok (.iload_n 3, 1) := by decide +kernel
theorem dX13_worth_3 : decode cX13_worth 3 = .ok (.invokevirtual 373, 3) := by decide +kernel
theorem dX13_worth_6 : decode cX13_worth 6 = .ok (.istore 4, 2) := by decide +kernel
theorem dX13_worth_8 : decode cX13_worth 8 = .ok (.iload 4, 2) := by decide +kernel
theorem dX13_worth_10 : decode cX13_worth 10 = .ok (.iconst (-1), 1) := by decide +kernel
theorem dX13_worth_11 : decode cX13_worth 11 = .ok (.if_icmp .ne 17, 3) := by decide +kernel
theorem dX13_worth_14 : decode cX13_worth 14 = .ok (.iload_n 1, 1) := by decide +kernel
theorem dX13_worth_15 : decode cX13_worth 15 = .ok (.bipush 110, 2) := by decide +kernel
theorem dX13_worth_17 : decode cX13_worth 17 = .ok (.if_icmp .ne 9, 3) := by decide +kernel
theorem dX13_worth_26 : decode cX13_worth 26 = .ok (.iconst 0, 1) := by decide +kernel
theorem dX13_worth_27 : decode cX13_worth 27 = .ok (.ireturn, 1) := by decide +kernel
theorem dX13_number_0 : decode cX13_number 0 = .ok (.aload_n 0, 1) := by decide +kernel
theorem dX13_number_1 : decode cX13_number 1 = .ok (.iconst 0, 1) := by decide +kernel
theorem dX13_number_2 : decode cX13_number 2 = .ok (.putfield 228, 3) := by decide +kernel
theorem dX13_number_5 : decode cX13_number 5 = .ok (.aload_n 0, 1) := by decide +kernel
theorem dX13_number_6 : decode cX13_number 6 = .ok (.iload_n 1, 1) := by decide +kernel
theorem dX13_number_7 : decode cX13_number 7 = .ok (.invokevirtual 245, 3) := by decide +kernel
theorem dX13_number_10 : decode cX13_number 10 = .ok (.ifCond .eq 28, 3) := by decide +kernel
theorem dX13_number_38 : decode cX13_number 38 = .ok (.iconst (-1), 1) := by decide +kernel
theorem dX13_number_39 : decode cX13_number 39 = .ok (.ireturn, 1) := by decide +kernel
theorem dX13_isRace_0 : decode cX13_isRace 0 = .ok (.iload_n 1, 1) := by decide +kernel
theorem dX13_isRace_1 : decode cX13_isRace 1 = .ok (.ifCond .lt 15, 3) := by decide +kernel
theorem dX13_isRace_4 : decode cX13_isRace 4 = .ok (.iload_n 1, 1) := by decide +kernel
theorem dX13_isRace_5 : decode cX13_isRace 5 = .ok (.aload_n 0, 1) := by decide +kernel
theorem dX13_isRace_6 : decode cX13_isRace 6 = .ok (.getfield 390, 3) := by decide +kernel
theorem dX13_isRace_9 : decode cX13_isRace 9 = .ok (.if_icmp .ge 7, 3) := by decide +kernel
theorem dX13_isRace_16 : decode cX13_isRace 16 = .ok (.iconst 0, 1) := by decide +kernel
theorem dX13_isRace_17 : decode cX13_isRace 17 = .ok (.ireturn, 1) := by decide +kernel
theorem dX13_swift_0 : decode cX13_swift 0 = .ok (.aload_n 0, 1) := by decide +kernel
theorem dX13_swift_1 : decode cX13_swift 1 = .ok (.iconst 0, 1) := by decide +kernel
theorem dX13_swift_2 : decode cX13_swift 2 = .ok (.putfield 228, 3) := by decide +kernel
theorem dX13_swift_5 : decode cX13_swift 5 = .ok (.aload_n 0, 1) := by decide +kernel
theorem dX13_swift_6 : decode cX13_swift 6 = .ok (.iload_n 1, 1) := by decide +kernel
theorem dX13_swift_7 : decode cX13_swift 7 = .ok (.invokevirtual 393, 3) := by decide +kernel
theorem dX13_swift_10 : decode cX13_swift 10 = .ok (.ifCond .eq 13, 3) := by decide +kernel
theorem dX13_swift_23 : decode cX13_swift 23 = .ok (.iconst 0, 1) := by decide +kernel
theorem dX13_swift_24 : decode cX13_swift 24 = .ok (.ireturn, 1) := by decide +kernel
theorem dX13_isEntry_0 : decode cX13_isEntry 0 = .ok (.aload_n 0, 1) := by decide +kernel
theorem dX13_isEntry_1 : decode cX13_isEntry 1 = .ok (.iload_n 1, 1) := by decide +kernel
theorem dX13_isEntry_2 : decode cX13_isEntry 2 = .ok (.invokevirtual 393, 3) := by decide +kernel
theorem dX13_isEntry_5 : decode cX13_isEntry 5 = .ok (.ifCond .eq 28, 3) := by decide +kernel
theorem dX13_isEntry_33 : decode cX13_isEntry 33 = .ok (.iconst 0, 1) := by decide +kernel
theorem dX13_isEntry_34 : decode cX13_isEntry 34 = .ok (.ireturn, 1) := by decide +kernel
theorem dX13_enter_0 : decode cX13_enter 0 = .ok (.aload_n 0, 1) := by decide +kernel
theorem dX13_enter_1 : decode cX13_enter 1 = .ok (.iconst 0, 1) := by decide +kernel
theorem dX13_enter_2 : decode cX13_enter 2 = .ok (.putfield 228, 3) := by decide +kernel
theorem dX13_enter_5 : decode cX13_enter 5 = .ok (.aload_n 0, 1) := by decide +kernel
theorem dX13_enter_6 : decode cX13_enter 6 = .ok (.iload_n 1, 1) := by decide +kernel
theorem dX13_enter_7 : decode cX13_enter 7 = .ok (.invokevirtual 393, 3) := by decide +kernel
theorem dX13_enter_10 : decode cX13_enter 10 = .ok (.ifCond .eq 24, 3) := by decide +kernel
theorem dX13_enter_34 : decode cX13_enter 34 = .ok (.iconst 0, 1) := by decide +kernel
theorem dX13_enter_35 : decode cX13_enter 35 = .ok (.ireturn, 1) := by decide +kernel
theorem dX13_result_0 : decode cX13_result 0 = .ok (.aload_n 0, 1) := by decide +kernel
theorem dX13_result_1 : decode cX13_result 1 = .ok (.iconst 0, 1) := by decide +kernel
theorem dX13_result_2 : decode cX13_result 2 = .ok (.putfield 228, 3) := by decide +kernel
theorem dX13_result_5 : decode cX13_result 5 = .ok (.aload_n 0, 1) := by decide +kernel
theorem dX13_result_6 : decode cX13_result 6 = .ok (.getfield 399, 3) := by decide +kernel
theorem dX13_result_9 : decode cX13_result 9 = .ok (.sipush 300, 3) := by decide +kernel
theorem dX13_result_12 : decode cX13_result 12 = .ok (.if_icmp .eq 49, 3) := by decide +kernel
theorem dX13_result_15 : decode cX13_result 15 = .ok (.aload_n 0, 1) := by decide +kernel
theorem dX13_result_16 : decode cX13_result 16 = .ok (.iload_n 1, 1) := by decide +kernel
theorem dX13_result_17 : decode cX13_result 17 = .ok (.iload_n 2, 1) := by decide +kernel
theorem dX13_result_18 : decode cX13_result 18 = .ok (.invokevirtual 402, 3) := by decide +kernel
theorem dX13_result_21 : decode cX13_result 21 = .ok (.ifCond .eq 40, 3) := by decide +kernel
theorem dX13_result_61 : decode cX13_result 61 = .ok (.iconst 0, 1) := by decide +kernel
theorem dX13_result_62 : decode cX13_result 62 = .ok (.ireturn, 1) := by decide +kernel
theorem dX13_asks_0 : decode cX13_asks 0 = .ok (.aload_n 0, 1) := by decide +kernel
theorem dX13_asks_1 : decode cX13_asks 1 = .ok (.iconst 0, 1) := by decide +kernel
theorem dX13_asks_2 : decode cX13_asks 2 = .ok (.putfield 228, 3) := by decide +kernel
theorem dX13_asks_5 : decode cX13_asks 5 = .ok (.aload_n 0, 1) := by decide +kernel
theorem dX13_asks_6 : decode cX13_asks 6 = .ok (.iload_n 1, 1) := by decide +kernel
theorem dX13_asks_7 : decode cX13_asks 7 = .ok (.invokevirtual 393, 3) := by decide +kernel
theorem dX13_asks_10 : decode cX13_asks 10 = .ok (.ifCond .eq 33, 3) := by decide +kernel
theorem dX13_asks_43 : decode cX13_asks 43 = .ok (.iconst 0, 1) := by decide +kernel
theorem dX13_asks_44 : decode cX13_asks 44 = .ok (.ireturn, 1) := by decide +kernel
theorem dX13_asksEntry_0 : decode cX13_asksEntry 0 = .ok (.aload_n 0, 1) := by decide +kernel
theorem dX13_asksEntry_1 : decode cX13_asksEntry 1 = .ok (.iload_n 1, 1) := by decide +kernel
theorem dX13_asksEntry_2 : decode cX13_asksEntry 2 = .ok (.iload_n 2, 1) := by decide +kernel
theorem dX13_asksEntry_3 : decode cX13_asksEntry 3 = .ok (.iload_n 3, 1) := by decide +kernel
theorem dX13_asksEntry_4 : decode cX13_asksEntry 4 = .ok (.invokevirtual 413, 3) := by decide +kernel
theorem dX13_asksEntry_7 : decode cX13_asksEntry 7 = .ok (.ifCond .eq 17, 3) := by decide +kernel
theorem dX13_asksEntry_24 : decode cX13_asksEntry 24 = .ok (.iconst 0, 1) := by decide +kernel
theorem dX13_asksEntry_25 : decode cX13_asksEntry 25 = .ok (.ireturn, 1) := by decide +kernel
theorem dX13_coded_0 : decode cX13_coded 0 = .ok (.aload_n 0, 1) := by decide +kernel
theorem dX13_coded_1 : decode cX13_coded 1 = .ok (.iload_n 1, 1) := by decide +kernel
theorem dX13_coded_2 : decode cX13_coded 2 = .ok (.iload_n 2, 1) := by decide +kernel
theorem dX13_coded_3 : decode cX13_coded 3 = .ok (.iload_n 3, 1) := by decide +kernel
theorem dX13_coded_4 : decode cX13_coded 4 = .ok (.invokevirtual 416, 3) := by decide +kernel
theorem dX13_coded_7 : decode cX13_coded 7 = .ok (.ifCond .eq 13, 3) := by decide +kernel
theorem dX13_coded_20 : decode cX13_coded 20 = .ok (.iconst (-1), 1) := by decide +kernel
theorem dX13_coded_21 : decode cX13_coded 21 = .ok (.ireturn, 1) := by decide +kernel
theorem dX13_corrected_0 : decode cX13_corrected 0 = .ok (.aload_n 0, 1) := by decide +kernel
theorem dX13_corrected_1 : decode cX13_corrected 1 = .ok (.iload_n 1, 1) := by decide +kernel
theorem dX13_corrected_2 : decode cX13_corrected 2 = .ok (.iload_n 2, 1) := by decide +kernel
theorem dX13_corrected_3 : decode cX13_corrected 3 = .ok (.iload_n 3, 1) := by decide +kernel
theorem dX13_corrected_4 : decode cX13_corrected 4 = .ok (.invokevirtual 416, 3) := by decide +kernel
theorem dX13_corrected_7 : decode cX13_corrected 7 = .ok (.ifCond .eq 23, 3) := by decide +kernel
theorem dX13_corrected_30 : decode cX13_corrected 30 = .ok (.ldc_w 431, 3) := by decide +kernel
theorem dX13_corrected_33 : decode cX13_corrected 33 = .ok (.ireturn, 1) := by decide +kernel
theorem dX13_placed_0 : decode cX13_placed 0 = .ok (.aload_n 0, 1) := by decide +kernel
theorem dX13_placed_1 : decode cX13_placed 1 = .ok (.iload_n 1, 1) := by decide +kernel
theorem dX13_placed_2 : decode cX13_placed 2 = .ok (.iload_n 2, 1) := by decide +kernel
theorem dX13_placed_3 : decode cX13_placed 3 = .ok (.iload_n 3, 1) := by decide +kernel
theorem dX13_placed_4 : decode cX13_placed 4 = .ok (.invokevirtual 416, 3) := by decide +kernel
theorem dX13_placed_7 : decode cX13_placed 7 = .ok (.ifCond .eq 23, 3) := by decide +kernel
theorem dX13_placed_30 : decode cX13_placed 30 = .ok (.iconst (-1), 1) := by decide +kernel
theorem dX13_placed_31 : decode cX13_placed 31 = .ok (.ireturn, 1) := by decide +kernel
theorem dX13_redress_0 : decode cX13_redress 0 = .ok (.aload_n 0, 1) := by decide +kernel
theorem dX13_redress_1 : decode cX13_redress 1 = .ok (.iconst 0, 1) := by decide +kernel
theorem dX13_redress_2 : decode cX13_redress 2 = .ok (.putfield 228, 3) := by decide +kernel
theorem dX13_redress_5 : decode cX13_redress 5 = .ok (.aload_n 0, 1) := by decide +kernel
theorem dX13_redress_6 : decode cX13_redress 6 = .ok (.getfield 435, 3) := by decide +kernel
theorem dX13_redress_9 : decode cX13_redress 9 = .ok (.bipush 20, 2) := by decide +kernel
theorem dX13_redress_11 : decode cX13_redress 11 = .ok (.if_icmp .eq 25, 3) := by decide +kernel
theorem dX13_redress_14 : decode cX13_redress 14 = .ok (.aload_n 0, 1) := by decide +kernel
theorem dX13_redress_15 : decode cX13_redress 15 = .ok (.iload_n 1, 1) := by decide +kernel
theorem dX13_redress_16 : decode cX13_redress 16 = .ok (.iload_n 2, 1) := by decide +kernel
theorem dX13_redress_17 : decode cX13_redress 17 = .ok (.invokevirtual 402, 3) := by decide +kernel
theorem dX13_redress_20 : decode cX13_redress 20 = .ok (.ifCond .eq 16, 3) := by decide +kernel
theorem dX13_redress_36 : decode cX13_redress 36 = .ok (.iconst 0, 1) := by decide +kernel
theorem dX13_redress_37 : decode cX13_redress 37 = .ok (.ireturn, 1) := by decide +kernel
theorem dX13_points_0 : decode cX13_points 0 = .ok (.aload_n 0, 1) := by decide +kernel
theorem dX13_points_1 : decode cX13_points 1 = .ok (.iload_n 1, 1) := by decide +kernel
theorem dX13_points_2 : decode cX13_points 2 = .ok (.iload_n 2, 1) := by decide +kernel
theorem dX13_points_3 : decode cX13_points 3 = .ok (.iload_n 3, 1) := by decide +kernel
theorem dX13_points_4 : decode cX13_points 4 = .ok (.invokevirtual 413, 3) := by decide +kernel
theorem dX13_points_7 : decode cX13_points 7 = .ok (.ifCond .eq 13, 3) := by decide +kernel
theorem dX13_points_20 : decode cX13_points 20 = .ok (.iconst (-1), 1) := by decide +kernel
theorem dX13_points_21 : decode cX13_points 21 = .ok (.ireturn, 1) := by decide +kernel
theorem dX13_word_0 : decode cX13_word 0 = .ok (.aload_n 0, 1) := by decide +kernel
theorem dX13_word_1 : decode cX13_word 1 = .ok (.iconst 0, 1) := by decide +kernel
theorem dX13_word_2 : decode cX13_word 2 = .ok (.putfield 228, 3) := by decide +kernel
theorem dX13_word_5 : decode cX13_word 5 = .ok (.aload_n 0, 1) := by decide +kernel
theorem dX13_word_6 : decode cX13_word 6 = .ok (.getfield 460, 3) := by decide +kernel
theorem dX13_word_9 : decode cX13_word 9 = .ok (.sipush 200, 3) := by decide +kernel
theorem dX13_word_12 : decode cX13_word 12 = .ok (.if_icmp .eq 73, 3) := by decide +kernel
theorem dX13_word_15 : decode cX13_word 15 = .ok (.aload_n 0, 1) := by decide +kernel
theorem dX13_word_16 : decode cX13_word 16 = .ok (.iload_n 1, 1) := by decide +kernel
theorem dX13_word_17 : decode cX13_word 17 = .ok (.iload_n 2, 1) := by decide +kernel
theorem dX13_word_18 : decode cX13_word 18 = .ok (.invokevirtual 402, 3) := by decide +kernel
theorem dX13_word_21 : decode cX13_word 21 = .ok (.ifCond .eq 64, 3) := by decide +kernel
theorem dX13_word_85 : decode cX13_word 85 = .ok (.iconst (-1), 1) := by decide +kernel
theorem dX13_word_86 : decode cX13_word 86 = .ok (.ireturn, 1) := by decide +kernel
theorem dX13_protest_0 : decode cX13_protest 0 = .ok (.aload_n 0, 1) := by decide +kernel
theorem dX13_protest_1 : decode cX13_protest 1 = .ok (.iconst 0, 1) := by decide +kernel
theorem dX13_protest_2 : decode cX13_protest 2 = .ok (.putfield 228, 3) := by decide +kernel
theorem dX13_protest_5 : decode cX13_protest 5 = .ok (.aload_n 0, 1) := by decide +kernel
theorem dX13_protest_6 : decode cX13_protest 6 = .ok (.getfield 464, 3) := by decide +kernel
theorem dX13_protest_9 : decode cX13_protest 9 = .ok (.bipush 30, 2) := by decide +kernel
theorem dX13_protest_11 : decode cX13_protest 11 = .ok (.if_icmp .eq 38, 3) := by decide +kernel
theorem dX13_protest_14 : decode cX13_protest 14 = .ok (.aload_n 0, 1) := by decide +kernel
theorem dX13_protest_15 : decode cX13_protest 15 = .ok (.iload_n 1, 1) := by decide +kernel
theorem dX13_protest_16 : decode cX13_protest 16 = .ok (.iload_n 2, 1) := by decide +kernel
theorem dX13_protest_17 : decode cX13_protest 17 = .ok (.invokevirtual 402, 3) := by decide +kernel
theorem dX13_protest_20 : decode cX13_protest 20 = .ok (.ifCond .eq 29, 3) := by decide +kernel
theorem dX13_protest_49 : decode cX13_protest 49 = .ok (.iconst (-1), 1) := by decide +kernel
theorem dX13_protest_50 : decode cX13_protest 50 = .ok (.ireturn, 1) := by decide +kernel
theorem dX13_asksProtest_0 : decode cX13_asksProtest 0 = .ok (.aload_n 0, 1) := by decide +kernel
theorem dX13_asksProtest_1 : decode cX13_asksProtest 1 = .ok (.iconst 0, 1) := by decide +kernel
theorem dX13_asksProtest_2 : decode cX13_asksProtest 2 = .ok (.putfield 228, 3) := by decide +kernel
theorem dX13_asksProtest_5 : decode cX13_asksProtest 5 = .ok (.iload_n 1, 1) := by decide +kernel
theorem dX13_asksProtest_6 : decode cX13_asksProtest 6 = .ok (.iconst 0, 1) := by decide +kernel
theorem dX13_asksProtest_7 : decode cX13_asksProtest 7 = .ok (.aload_n 0, 1) := by decide +kernel
theorem dX13_asksProtest_8 : decode cX13_asksProtest 8 = .ok (.getfield 464, 3) := by decide +kernel
theorem dX13_asksProtest_11 : decode cX13_asksProtest 11 = .ok (.iconst 1, 1) := by decide +kernel
theorem dX13_asksProtest_12 : decode cX13_asksProtest 12 = .ok (.isub, 1) := by decide +kernel
theorem dX13_asksProtest_13 : decode cX13_asksProtest 13 = .ok (.invokestatic 235, 3) := by decide +kernel
theorem dX13_asksProtest_16 : decode cX13_asksProtest 16 = .ok (.ifCond .eq 30, 3) := by decide +kernel
theorem dX13_asksProtest_46 : decode cX13_asksProtest 46 = .ok (.iconst 0, 1) := by decide +kernel
theorem dX13_asksProtest_47 : decode cX13_asksProtest 47 = .ok (.ireturn, 1) := by decide +kernel
theorem dX13_states_0 : decode cX13_states 0 = .ok (.aload_n 0, 1) := by decide +kernel
theorem dX13_states_1 : decode cX13_states 1 = .ok (.iload_n 1, 1) := by decide +kernel
theorem dX13_states_2 : decode cX13_states 2 = .ok (.iload_n 2, 1) := by decide +kernel
theorem dX13_states_3 : decode cX13_states 3 = .ok (.iload_n 3, 1) := by decide +kernel
theorem dX13_states_4 : decode cX13_states 4 = .ok (.invokevirtual 481, 3) := by decide +kernel
theorem dX13_states_7 : decode cX13_states 7 = .ok (.ifCond .eq 12, 3) := by decide +kernel
theorem dX13_states_19 : decode cX13_states 19 = .ok (.iconst (-1), 1) := by decide +kernel
theorem dX13_states_20 : decode cX13_states 20 = .ok (.ireturn, 1) := by decide +kernel
theorem dX13_finding_0 : decode cX13_finding 0 = .ok (.aload_n 0, 1) := by decide +kernel
theorem dX13_finding_1 : decode cX13_finding 1 = .ok (.iload_n 1, 1) := by decide +kernel
theorem dX13_finding_2 : decode cX13_finding 2 = .ok (.iload_n 2, 1) := by decide +kernel
theorem dX13_finding_3 : decode cX13_finding 3 = .ok (.iload_n 3, 1) := by decide +kernel
theorem dX13_finding_4 : decode cX13_finding 4 = .ok (.invokevirtual 481, 3) := by decide +kernel
theorem dX13_finding_7 : decode cX13_finding 7 = .ok (.ifCond .eq 13, 3) := by decide +kernel
theorem dX13_finding_20 : decode cX13_finding 20 = .ok (.iconst (-1), 1) := by decide +kernel
theorem dX13_finding_21 : decode cX13_finding 21 = .ok (.ireturn, 1) := by decide +kernel
theorem dX13_decide_0 : decode cX13_decide 0 = .ok (.aload_n 0, 1) := by decide +kernel
theorem dX13_decide_1 : decode cX13_decide 1 = .ok (.iconst 0, 1) := by decide +kernel
theorem dX13_decide_2 : decode cX13_decide 2 = .ok (.putfield 228, 3) := by decide +kernel
theorem dX13_decide_5 : decode cX13_decide 5 = .ok (.iload_n 1, 1) := by decide +kernel
theorem dX13_decide_6 : decode cX13_decide 6 = .ok (.iconst 0, 1) := by decide +kernel
theorem dX13_decide_7 : decode cX13_decide 7 = .ok (.aload_n 0, 1) := by decide +kernel
theorem dX13_decide_8 : decode cX13_decide 8 = .ok (.getfield 464, 3) := by decide +kernel
theorem dX13_decide_11 : decode cX13_decide 11 = .ok (.iconst 1, 1) := by decide +kernel
theorem dX13_decide_12 : decode cX13_decide 12 = .ok (.isub, 1) := by decide +kernel
theorem dX13_decide_13 : decode cX13_decide 13 = .ok (.invokestatic 235, 3) := by decide +kernel
theorem dX13_decide_16 : decode cX13_decide 16 = .ok (.ifCond .eq 12, 3) := by decide +kernel
theorem dX13_decide_28 : decode cX13_decide 28 = .ok (.iconst (-1), 1) := by decide +kernel
theorem dX13_decide_29 : decode cX13_decide 29 = .ok (.ireturn, 1) := by decide +kernel
theorem dX13_reopen_0 : decode cX13_reopen 0 = .ok (.aload_n 0, 1) := by decide +kernel
theorem dX13_reopen_1 : decode cX13_reopen 1 = .ok (.iconst 0, 1) := by decide +kernel
theorem dX13_reopen_2 : decode cX13_reopen 2 = .ok (.putfield 228, 3) := by decide +kernel
theorem dX13_reopen_5 : decode cX13_reopen 5 = .ok (.iload_n 1, 1) := by decide +kernel
theorem dX13_reopen_6 : decode cX13_reopen 6 = .ok (.iconst 0, 1) := by decide +kernel
theorem dX13_reopen_7 : decode cX13_reopen 7 = .ok (.aload_n 0, 1) := by decide +kernel
theorem dX13_reopen_8 : decode cX13_reopen 8 = .ok (.getfield 464, 3) := by decide +kernel
theorem dX13_reopen_11 : decode cX13_reopen 11 = .ok (.iconst 1, 1) := by decide +kernel
theorem dX13_reopen_12 : decode cX13_reopen 12 = .ok (.isub, 1) := by decide +kernel
theorem dX13_reopen_13 : decode cX13_reopen 13 = .ok (.invokestatic 235, 3) := by decide +kernel
theorem dX13_reopen_16 : decode cX13_reopen 16 = .ok (.ifCond .eq 22, 3) := by decide +kernel
theorem dX13_reopen_38 : decode cX13_reopen 38 = .ok (.iconst 0, 1) := by decide +kernel
theorem dX13_reopen_39 : decode cX13_reopen 39 = .ok (.ireturn, 1) := by decide +kernel
theorem dX13_findEven_0 : decode cX13_findEven 0 = .ok (.aload_n 0, 1) := by decide +kernel
theorem dX13_findEven_1 : decode cX13_findEven 1 = .ok (.iconst 0, 1) := by decide +kernel
theorem dX13_findEven_2 : decode cX13_findEven 2 = .ok (.putfield 228, 3) := by decide +kernel
theorem dX13_findEven_5 : decode cX13_findEven 5 = .ok (.iload_n 1, 1) := by decide +kernel
theorem dX13_findEven_6 : decode cX13_findEven 6 = .ok (.iconst 1, 1) := by decide +kernel
theorem dX13_findEven_7 : decode cX13_findEven 7 = .ok (.iconst 1, 1) := by decide +kernel
theorem dX13_findEven_8 : decode cX13_findEven 8 = .ok (.aload_n 0, 1) := by decide +kernel
theorem dX13_findEven_9 : decode cX13_findEven 9 = .ok (.getfield 239, 3) := by decide +kernel
theorem dX13_findEven_12 : decode cX13_findEven 12 = .ok (.ishl, 1) := by decide +kernel
theorem dX13_findEven_13 : decode cX13_findEven 13 = .ok (.iconst 1, 1) := by decide +kernel
theorem dX13_findEven_14 : decode cX13_findEven 14 = .ok (.isub, 1) := by decide +kernel
theorem dX13_findEven_15 : decode cX13_findEven 15 = .ok (.invokestatic 235, 3) := by decide +kernel
theorem dX13_findEven_18 : decode cX13_findEven 18 = .ok (.ifCond .eq 19, 3) := by decide +kernel
theorem dX13_findEven_37 : decode cX13_findEven 37 = .ok (.iconst 0, 1) := by decide +kernel
theorem dX13_findEven_38 : decode cX13_findEven 38 = .ok (.ireturn, 1) := by decide +kernel
theorem dX13_even_0 : decode cX13_even 0 = .ok (.aload_n 0, 1) := by decide +kernel
theorem dX13_even_1 : decode cX13_even 1 = .ok (.iload_n 1, 1) := by decide +kernel
theorem dX13_even_2 : decode cX13_even 2 = .ok (.invokevirtual 525, 3) := by decide +kernel
theorem dX13_even_5 : decode cX13_even 5 = .ok (.ifCond .eq 10, 3) := by decide +kernel
theorem dX13_even_15 : decode cX13_even 15 = .ok (.iconst (-1), 1) := by decide +kernel
theorem dX13_even_16 : decode cX13_even 16 = .ok (.ireturn, 1) := by decide +kernel
theorem dX13_change_0 : decode cX13_change 0 = .ok (.aload_n 0, 1) := by decide +kernel
theorem dX13_change_1 : decode cX13_change 1 = .ok (.iload_n 1, 1) := by decide +kernel
theorem dX13_change_2 : decode cX13_change 2 = .ok (.invokevirtual 525, 3) := by decide +kernel
theorem dX13_change_5 : decode cX13_change 5 = .ok (.ifCond .ne 7, 3) := by decide +kernel
theorem dX13_change_8 : decode cX13_change 8 = .ok (.ldc_w 431, 3) := by decide +kernel
theorem dX13_change_11 : decode cX13_change 11 = .ok (.ireturn, 1) := by decide +kernel
theorem dX13_middle_0 : decode cX13_middle 0 = .ok (.aload_n 0, 1) := by decide +kernel
theorem dX13_middle_1 : decode cX13_middle 1 = .ok (.iconst 0, 1) := by decide +kernel
theorem dX13_middle_2 : decode cX13_middle 2 = .ok (.putfield 228, 3) := by decide +kernel
theorem dX13_middle_5 : decode cX13_middle 5 = .ok (.aload_n 0, 1) := by decide +kernel
theorem dX13_middle_6 : decode cX13_middle 6 = .ok (.iload_n 1, 1) := by decide +kernel
theorem dX13_middle_7 : decode cX13_middle 7 = .ok (.invokevirtual 393, 3) := by decide +kernel
theorem dX13_middle_10 : decode cX13_middle 10 = .ok (.ifCond .eq 20, 3) := by decide +kernel
theorem dX13_middle_30 : decode cX13_middle 30 = .ok (.ldc_w 431, 3) := by decide +kernel
theorem dX13_middle_33 : decode cX13_middle 33 = .ok (.ireturn, 1) := by decide +kernel
theorem dX13_fit_0 : decode cX13_fit 0 = .ok (.aload_n 0, 1) := by decide +kernel
theorem dX13_fit_1 : decode cX13_fit 1 = .ok (.iconst 0, 1) := by decide +kernel
theorem dX13_fit_2 : decode cX13_fit 2 = .ok (.putfield 228, 3) := by decide +kernel
theorem dX13_fit_5 : decode cX13_fit 5 = .ok (.aload_n 0, 1) := by decide +kernel
theorem dX13_fit_6 : decode cX13_fit 6 = .ok (.iload_n 1, 1) := by decide +kernel
theorem dX13_fit_7 : decode cX13_fit 7 = .ok (.invokevirtual 245, 3) := by decide +kernel
theorem dX13_fit_10 : decode cX13_fit 10 = .ok (.ifCond .eq 11, 3) := by decide +kernel
theorem dX13_fit_21 : decode cX13_fit 21 = .ok (.iconst (-1), 1) := by decide +kernel
theorem dX13_fit_22 : decode cX13_fit 22 = .ok (.ireturn, 1) := by decide +kernel
theorem dX13_suspect_0 : decode cX13_suspect 0 = .ok (.aload_n 0, 1) := by decide +kernel
theorem dX13_suspect_1 : decode cX13_suspect 1 = .ok (.iconst 0, 1) := by decide +kernel
theorem dX13_suspect_2 : decode cX13_suspect 2 = .ok (.putfield 228, 3) := by decide +kernel
theorem dX13_suspect_5 : decode cX13_suspect 5 = .ok (.aload_n 0, 1) := by decide +kernel
theorem dX13_suspect_6 : decode cX13_suspect 6 = .ok (.iload_n 1, 1) := by decide +kernel
theorem dX13_suspect_7 : decode cX13_suspect 7 = .ok (.invokevirtual 245, 3) := by decide +kernel
theorem dX13_suspect_10 : decode cX13_suspect 10 = .ok (.ifCond .eq 12, 3) := by decide +kernel
theorem dX13_suspect_22 : decode cX13_suspect 22 = .ok (.ldc_w 431, 3) := by decide +kernel
theorem dX13_suspect_25 : decode cX13_suspect 25 = .ok (.ireturn, 1) := by decide +kernel
theorem dX13_start_0 : decode cX13_start 0 = .ok (.aload_n 0, 1) := by decide +kernel
theorem dX13_start_1 : decode cX13_start 1 = .ok (.iconst 0, 1) := by decide +kernel
theorem dX13_start_2 : decode cX13_start 2 = .ok (.putfield 228, 3) := by decide +kernel
theorem dX13_start_5 : decode cX13_start 5 = .ok (.aload_n 0, 1) := by decide +kernel
theorem dX13_start_6 : decode cX13_start 6 = .ok (.iload_n 1, 1) := by decide +kernel
theorem dX13_start_7 : decode cX13_start 7 = .ok (.iload_n 2, 1) := by decide +kernel
theorem dX13_start_8 : decode cX13_start 8 = .ok (.invokevirtual 402, 3) := by decide +kernel
theorem dX13_start_11 : decode cX13_start 11 = .ok (.ifCond .eq 25, 3) := by decide +kernel
theorem dX13_start_36 : decode cX13_start 36 = .ok (.iconst 0, 1) := by decide +kernel
theorem dX13_start_37 : decode cX13_start 37 = .ok (.ireturn, 1) := by decide +kernel
theorem dX13_lean_0 : decode cX13_lean 0 = .ok (.aload_n 0, 1) := by decide +kernel
theorem dX13_lean_1 : decode cX13_lean 1 = .ok (.iconst 0, 1) := by decide +kernel
theorem dX13_lean_2 : decode cX13_lean 2 = .ok (.putfield 228, 3) := by decide +kernel
theorem dX13_lean_5 : decode cX13_lean 5 = .ok (.aload_n 0, 1) := by decide +kernel
theorem dX13_lean_6 : decode cX13_lean 6 = .ok (.iload_n 1, 1) := by decide +kernel
theorem dX13_lean_7 : decode cX13_lean 7 = .ok (.invokevirtual 393, 3) := by decide +kernel
theorem dX13_lean_10 : decode cX13_lean 10 = .ok (.ifCond .ne 7, 3) := by decide +kernel
theorem dX13_lean_13 : decode cX13_lean 13 = .ok (.ldc_w 431, 3) := by decide +kernel
theorem dX13_lean_16 : decode cX13_lean 16 = .ok (.ireturn, 1) := by decide +kernel
theorem dX13_draw_0 : decode cX13_draw 0 = .ok (.aload_n 0, 1) := by decide +kernel
theorem dX13_draw_1 : decode cX13_draw 1 = .ok (.iconst 0, 1) := by decide +kernel
theorem dX13_draw_2 : decode cX13_draw 2 = .ok (.putfield 228, 3) := by decide +kernel
theorem dX13_draw_5 : decode cX13_draw 5 = .ok (.iconst 0, 1) := by decide +kernel
theorem dX13_draw_6 : decode cX13_draw 6 = .ok (.istore 4, 2) := by decide +kernel
theorem dX13_draw_8 : decode cX13_draw 8 = .ok (.iconst 0, 1) := by decide +kernel
theorem dX13_draw_9 : decode cX13_draw 9 = .ok (.istore 5, 2) := by decide +kernel
theorem dX13_draw_11 : decode cX13_draw 11 = .ok (.iconst 0, 1) := by decide +kernel
theorem dX13_draw_12 : decode cX13_draw 12 = .ok (.istore 6, 2) := by decide +kernel
theorem dX13_draw_14 : decode cX13_draw 14 = .ok (.iload 6, 2) := by decide +kernel
theorem dX13_draw_16 : decode cX13_draw 16 = .ok (.aload_n 0, 1) := by decide +kernel
theorem dX13_draw_17 : decode cX13_draw 17 = .ok (.getfield 239, 3) := by decide +kernel
theorem dX13_draw_20 : decode cX13_draw 20 = .ok (.if_icmp .ge 146, 3) := by decide +kernel
theorem dX13_draw_166 : decode cX13_draw 166 = .ok (.iload_n 1, 1) := by decide +kernel
theorem dX13_draw_167 : decode cX13_draw 167 = .ok (.iconst 1, 1) := by decide +kernel
theorem dX13_draw_168 : decode cX13_draw 168 = .ok (.if_icmp .lt 9, 3) := by decide +kernel
theorem dX13_draw_171 : decode cX13_draw 171 = .ok (.iload_n 1, 1) := by decide +kernel
theorem dX13_draw_172 : decode cX13_draw 172 = .ok (.iload 5, 2) := by decide +kernel
theorem dX13_draw_174 : decode cX13_draw 174 = .ok (.if_icmp .le 5, 3) := by decide +kernel
theorem dX13_draw_177 : decode cX13_draw 177 = .ok (.iconst (-1), 1) := by decide +kernel
theorem dX13_draw_178 : decode cX13_draw 178 = .ok (.ireturn, 1) := by decide +kernel
theorem dX13_told_0 : decode cX13_told 0 = .ok (.aload_n 0, 1) := by decide +kernel
theorem dX13_told_1 : decode cX13_told 1 = .ok (.aload_n 0, 1) := by decide +kernel
theorem dX13_told_2 : decode cX13_told 2 = .ok (.iload_n 1, 1) := by decide +kernel
theorem dX13_told_3 : decode cX13_told 3 = .ok (.invokevirtual 393, 3) := by decide +kernel
theorem dX13_told_6 : decode cX13_told 6 = .ok (.ifCond .eq 17, 3) := by decide +kernel
theorem dX13_told_23 : decode cX13_told 23 = .ok (.iconst 1, 1) := by decide +kernel
theorem dX13_told_24 : decode cX13_told 24 = .ok (.putfield 228, 3) := by decide +kernel
theorem dX13_told_27 : decode cX13_told 27 = .ok (.aload_n 0, 1) := by decide +kernel
theorem dX13_told_28 : decode cX13_told 28 = .ok (.getfield 228, 3) := by decide +kernel
theorem dX13_told_31 : decode cX13_told 31 = .ok (.ifCond .le 5, 3) := by decide +kernel
theorem dX13_told_34 : decode cX13_told 34 = .ok (.iconst 0, 1) := by decide +kernel
theorem dX13_told_35 : decode cX13_told 35 = .ok (.ireturn, 1) := by decide +kernel
theorem dX13_count_0 : decode cX13_count 0 = .ok (.aload_n 0, 1) := by decide +kernel
theorem dX13_count_1 : decode cX13_count 1 = .ok (.iconst 0, 1) := by decide +kernel
theorem dX13_count_2 : decode cX13_count 2 = .ok (.putfield 228, 3) := by decide +kernel
theorem dX13_count_5 : decode cX13_count 5 = .ok (.iload_n 1, 1) := by decide +kernel
theorem dX13_count_6 : decode cX13_count 6 = .ok (.tableswitch 168 0 10 #[58, 63, 68, 73, 78, 83, 88, 93, 98, 103, 108], 58) := by decide +kernel
theorem dX13_count_64 : decode cX13_count 64 = .ok (.aload_n 0, 1) := by decide +kernel
theorem dX13_count_65 : decode cX13_count 65 = .ok (.getfield 232, 3) := by decide +kernel
theorem dX13_count_68 : decode cX13_count 68 = .ok (.ireturn, 1) := by decide +kernel
theorem dX13_count_69 : decode cX13_count 69 = .ok (.aload_n 0, 1) := by decide +kernel
theorem dX13_count_70 : decode cX13_count 70 = .ok (.getfield 239, 3) := by decide +kernel
theorem dX13_count_73 : decode cX13_count 73 = .ok (.ireturn, 1) := by decide +kernel
theorem dX13_count_74 : decode cX13_count 74 = .ok (.aload_n 0, 1) := by decide +kernel
theorem dX13_count_75 : decode cX13_count 75 = .ok (.getfield 242, 3) := by decide +kernel
theorem dX13_count_78 : decode cX13_count 78 = .ok (.ireturn, 1) := by decide +kernel
theorem dX13_count_79 : decode cX13_count 79 = .ok (.aload_n 0, 1) := by decide +kernel
theorem dX13_count_80 : decode cX13_count 80 = .ok (.getfield 370, 3) := by decide +kernel
theorem dX13_count_83 : decode cX13_count 83 = .ok (.ireturn, 1) := by decide +kernel
theorem dX13_count_84 : decode cX13_count 84 = .ok (.aload_n 0, 1) := by decide +kernel
theorem dX13_count_85 : decode cX13_count 85 = .ok (.getfield 390, 3) := by decide +kernel
theorem dX13_count_88 : decode cX13_count 88 = .ok (.ireturn, 1) := by decide +kernel
theorem dX13_count_89 : decode cX13_count 89 = .ok (.aload_n 0, 1) := by decide +kernel
theorem dX13_count_90 : decode cX13_count 90 = .ok (.getfield 399, 3) := by decide +kernel
theorem dX13_count_93 : decode cX13_count 93 = .ok (.ireturn, 1) := by decide +kernel
theorem dX13_count_94 : decode cX13_count 94 = .ok (.aload_n 0, 1) := by decide +kernel
theorem dX13_count_95 : decode cX13_count 95 = .ok (.getfield 460, 3) := by decide +kernel
theorem dX13_count_98 : decode cX13_count 98 = .ok (.ireturn, 1) := by decide +kernel
theorem dX13_count_99 : decode cX13_count 99 = .ok (.aload_n 0, 1) := by decide +kernel
theorem dX13_count_100 : decode cX13_count 100 = .ok (.getfield 464, 3) := by decide +kernel
theorem dX13_count_103 : decode cX13_count 103 = .ok (.ireturn, 1) := by decide +kernel
theorem dX13_count_104 : decode cX13_count 104 = .ok (.aload_n 0, 1) := by decide +kernel
theorem dX13_count_105 : decode cX13_count 105 = .ok (.getfield 259, 3) := by decide +kernel
theorem dX13_count_108 : decode cX13_count 108 = .ok (.ireturn, 1) := by decide +kernel
theorem dX13_count_109 : decode cX13_count 109 = .ok (.aload_n 0, 1) := by decide +kernel
theorem dX13_count_110 : decode cX13_count 110 = .ok (.getfield 435, 3) := by decide +kernel
theorem dX13_count_113 : decode cX13_count 113 = .ok (.ireturn, 1) := by decide +kernel
theorem dX13_count_114 : decode cX13_count 114 = .ok (.iconst 0, 1) := by decide +kernel
theorem dX13_count_115 : decode cX13_count 115 = .ok (.istore_n 2, 1) := by decide +kernel
theorem dX13_count_116 : decode cX13_count 116 = .ok (.iconst 0, 1) := by decide +kernel
theorem dX13_count_117 : decode cX13_count 117 = .ok (.istore_n 3, 1) := by decide +kernel
theorem dX13_count_118 : decode cX13_count 118 = .ok (.iload_n 3, 1) := by decide +kernel
theorem dX13_count_119 : decode cX13_count 119 = .ok (.aload_n 0, 1) := by decide +kernel
theorem dX13_count_120 : decode cX13_count 120 = .ok (.getfield 390, 3) := by decide +kernel
theorem dX13_count_123 : decode cX13_count 123 = .ok (.if_icmp .ge 49, 3) := by decide +kernel
theorem dX13_count_172 : decode cX13_count 172 = .ok (.iload_n 2, 1) := by decide +kernel
theorem dX13_count_173 : decode cX13_count 173 = .ok (.ireturn, 1) := by decide +kernel
theorem dX13_count_174 : decode cX13_count 174 = .ok (.iconst (-1), 1) := by decide +kernel
theorem dX13_count_175 : decode cX13_count 175 = .ok (.ireturn, 1) := by decide +kernel
def A_m_isIn : List Cond := []
def v_m_isIn : List Cond := .code yX13_isIn cX13_isIn 3 (some .boolean) :: (A_m_isIn)
set_option maxHeartbeats 4000000 in
set_option maxRecDepth 100000 in
theorem m_isIn (l : Launch) (n : Int32) (lo : Int32) (hi : Int32)  : Met l yX13_isIn v_m_isIn ({ frames := 0, cells := 0, slots := 0, locals := 0 }) (va_Pc [.int n, .int lo, .int hi] (fun _ => True)) (va_Qi (S := Unit) (fun r _ => (r = 1 ∧ ¬ n < lo ∧ ¬ hi < n) ∨ (r = 0 ∧ (n < lo ∨ hi < n))) (fun _ _ => True) (fun _ => False)) 0 0 (fun _ => False) := by
  refine Met.ofW (cc := cX13_isIn) (maxL := 3) (ret := (some .boolean)) (by decide) rfl ?_
  intro p e s m args below meth c s₁ B hml hv
  obtain ⟨rfl, -⟩ := hv
  have hx := B.exec
  have hb := B.bytes
  have hr := B.returns
  have hts := atoms_spec (ws := v_m_isIn) B.pre
  have hown : s.vm.findClass RX13 = some m.cls := findClass_of_methodNamed B.named
  have hlocks := B.notSynchronized
  have hS : va_S (fun _ : Nat => False) s.heap s.heap [] := va_S.rf
  have hl := lv_entry ([.int n, .int lo, .int hi]) (n := 3) (Nat.le_of_ble_eq_true rfl)
  rw [lg_entry_eq]
  generalize (lg_sl ([.int n, .int lo, .int hi]) ++ List.replicate (3 - (lg_sl ([.int n, .int lo, .int hi])).length) Slot.unset).toArray = ls at hl ⊢
  have hl : lv_has ls 3 [(0, .int n), (1, .int lo), (2, .int hi)] := hl
  refine lv_iload_n hx hb dX13_isIn_0 rfl (lv_at hl 0 rfl) ?_
  refine lv_iload_n hx hb dX13_isIn_1 rfl (lv_at hl 1 rfl) ?_
  refine lv_icmp_lt (tgt := 14) hx hb dX13_isIn_2 (by decide) (fun c1 => ?_) (fun c1 => ?_)
  · --n < lo
    refine lv_iconst (v := 0) hx hb dX13_isIn_14 (by decide) ?_
    exact W.zret (v := (0)) hx hb hr rfl (fun t ht hW => ⟨⟨(0), (), rfl, Or.inr ⟨rfl, Or.inl c1⟩, trivial⟩, hS.F ht⟩) hS.2.2 dX13_isIn_15
  · --¬ n < lo
    refine lv_iload_n hx hb dX13_isIn_5 rfl (lv_at hl 0 rfl) ?_
    refine lv_iload_n hx hb dX13_isIn_6 rfl (lv_at hl 2 rfl) ?_
    refine lv_icmp_gt (tgt := 14) hx hb dX13_isIn_7 (by decide) (fun c2 => ?_) (fun c2 => ?_)
    · --hi < n
      refine lv_iconst (v := 0) hx hb dX13_isIn_14 (by decide) ?_
      exact W.zret (v := (0)) hx hb hr rfl (fun t ht hW => ⟨⟨(0), (), rfl, Or.inr ⟨rfl, Or.inr c2⟩, trivial⟩, hS.F ht⟩) hS.2.2 dX13_isIn_15
    · --¬ hi < n
      refine lv_iconst (v := 1) hx hb dX13_isIn_10 (by decide) ?_
      refine lv_goto (tgt := 15) hx hb dX13_isIn_11 (by decide) ?_
      exact W.zret (v := (1)) hx hb hr rfl (fun t ht hW => ⟨⟨(1), (), rfl, Or.inl ⟨rfl, c1, c2⟩, trivial⟩, hS.F ht⟩) hS.2.2 dX13_isIn_15
def A_m_isDay : List Cond := [.methodLink RX13 235 yX13_isIn, .static yX13_isIn, .initialized RX13, .code yX13_isIn cX13_isIn 3 (some .boolean)]
def v_m_isDay : List Cond := .code yX13_isDay cX13_isDay 1 (some .boolean) :: (A_m_isDay)
theorem gb_m_isDay_m_isIn0 : GoodIn v_m_isDay (.code yX13_isIn cX13_isIn 3 (some .boolean) :: A_m_isIn) := (List.forall_mem_cons.mpr ⟨⟨List.mem_of_getElem? (i := 4) rfl, good_of_word rfl⟩, (fun _ h => nomatch h)⟩)
theorem gb_m_isDay_m_isIn : GoodIn v_m_isDay v_m_isIn := gb_m_isDay_m_isIn0
theorem g_m_isDay_m_isIn_235 : GoodIn v_m_isDay (va_wsS RX13 235 yX13_isIn v_m_isIn) := goodIn_app (List.forall_mem_cons.mpr ⟨⟨List.mem_of_getElem? (i := 1) rfl, good_of_word rfl⟩, (List.forall_mem_cons.mpr ⟨⟨List.mem_of_getElem? (i := 2) rfl, good_of_word rfl⟩, (List.forall_mem_cons.mpr ⟨⟨List.mem_of_getElem? (i := 3) rfl, good_of_word rfl⟩, (fun _ h => nomatch h)⟩)⟩)⟩) gb_m_isDay_m_isIn
set_option maxHeartbeats 4000000 in
set_option maxRecDepth 100000 in
theorem m_isDay (l : Launch) (n : Int32)  : Met l yX13_isDay v_m_isDay ({ frames := 1, cells := 0, slots := 0, locals := 40 }) (va_Pc [.int n] (fun _ => True)) (va_Qi (S := Unit) (fun r _ => (r = 1 ∧ ¬ n < 0 ∧ ¬ 400 < n) ∨ (r = 0 ∧ (n < 0 ∨ 400 < n))) (fun _ _ => True) (fun _ => False)) 0 0 (fun _ => False) := by
  refine Met.ofW (cc := cX13_isDay) (maxL := 1) (ret := (some .boolean)) (by decide) rfl ?_
  intro p e s m args below meth c s₁ B hml hv
  obtain ⟨rfl, -⟩ := hv
  have hx := B.exec
  have hb := B.bytes
  have hr := B.returns
  have hts := atoms_spec (ws := v_m_isDay) B.pre
  have hown : s.vm.findClass RX13 = some m.cls := findClass_of_methodNamed B.named
  have hlocks := B.notSynchronized
  have hS : va_S (fun _ : Nat => False) s.heap s.heap [] := va_S.rf
  have hl := lv_entry ([.int n]) (n := 1) (Nat.le_of_ble_eq_true rfl)
  rw [lg_entry_eq]
  generalize (lg_sl ([.int n]) ++ List.replicate (1 - (lg_sl ([.int n])).length) Slot.unset).toArray = ls at hl ⊢
  have hl : lv_has ls 1 [(0, .int n)] := hl
  refine lv_iload_n hx hb dX13_isDay_0 rfl (lv_at hl 0 rfl) ?_
  refine lv_iconst (v := 0) hx hb dX13_isDay_1 (by decide) ?_
  refine lv_sipush (v := 400) hx hb dX13_isDay_2 (by decide) ?_
  refine va_calli (va_runS (As := [.int n, .int 0, .int 400]) (rest := []) ⟨hx, hb, hml, hown, hts⟩ (m_isIn l n (0) (400)) (va_cwS 3 hts g_m_isDay_m_isIn_235 rfl rfl rfl (by decide +kernel) ⟨Nat.le_of_ble_eq_true rfl, Nat.le_of_ble_eq_true rfl⟩) ⟨fun _ _ _ _ q => q, fun _ _ _ => ⟨rfl, trivial⟩⟩ rfl rfl hl.1 rfl (lv_room (Nat.le_of_ble_eq_true rfl)) dX13_isDay_5 ⟨Nat.le_of_ble_eq_true rfl, Nat.le_of_ble_eq_true rfl⟩) hS (fun _ _ h => h.elim) (fun _ h => h.elim) (fun r1 u2 t H1 locs ht hvm hw hB hz1 hk1 hS => ?_)
  generalize H1 = H at hS ⊢
  rcases hw with ⟨rfl, hw1, hw2⟩ | ⟨rfl, hw1⟩
  · --in
    have d3a := hw1
    have d3b := hw2
    exact W.zret (v := (1)) hx hb hr rfl (fun t ht hW => ⟨⟨(1), (), rfl, Or.inl ⟨rfl, d3a, d3b⟩, trivial⟩, hS.F ht⟩) hS.2.2 dX13_isDay_8
  · --out
    have d4 := hw1
    exact W.zret (v := (0)) hx hb hr rfl (fun t ht hW => ⟨⟨(0), (), rfl, Or.inr ⟨rfl, d4⟩, trivial⟩, hS.F ht⟩) hS.2.2 dX13_isDay_8
def A_m_isKnown : List Cond := [.fieldLink RX13 232 "UnlikeBoatsModel" "now" "I", .methodLink RX13 235 yX13_isIn, .static yX13_isIn, .initialized RX13, .code yX13_isIn cX13_isIn 3 (some .boolean)]
def v_m_isKnown : List Cond := .code yX13_isKnown cX13_isKnown 2 (some .boolean) :: (A_m_isKnown ++ wsX130)
theorem iw_m_isKnown_X13 : ∀ w ∈ wsX130, w ∈ v_m_isKnown := fun _ h => List.mem_cons_of_mem _ (List.mem_append_right _ (h))
theorem gb_m_isKnown_m_isIn0 : GoodIn v_m_isKnown (.code yX13_isIn cX13_isIn 3 (some .boolean) :: A_m_isIn) := (List.forall_mem_cons.mpr ⟨⟨List.mem_of_getElem? (i := 5) rfl, good_of_word rfl⟩, (fun _ h => nomatch h)⟩)
theorem gb_m_isKnown_m_isIn : GoodIn v_m_isKnown v_m_isIn := gb_m_isKnown_m_isIn0
theorem g_m_isKnown_m_isIn_235 : GoodIn v_m_isKnown (va_wsS RX13 235 yX13_isIn v_m_isIn) := goodIn_app (List.forall_mem_cons.mpr ⟨⟨List.mem_of_getElem? (i := 2) rfl, good_of_word rfl⟩, (List.forall_mem_cons.mpr ⟨⟨List.mem_of_getElem? (i := 3) rfl, good_of_word rfl⟩, (List.forall_mem_cons.mpr ⟨⟨List.mem_of_getElem? (i := 4) rfl, good_of_word rfl⟩, (fun _ h => nomatch h)⟩)⟩)⟩) gb_m_isKnown_m_isIn
set_option maxHeartbeats 4000000 in
set_option maxRecDepth 100000 in
theorem m_isKnown (l : Launch) (dC : Nat → ClassId) (dI : Nat → Nat → Nat) (h : Nat) (f : Nat → Value) (a0 : Int32) (hf_now : f 1 = .int 0) : Met l yX13_isKnown v_m_isKnown ({ frames := 1, cells := 0, slots := 0, locals := 40 }) (va_Pc [.ref h, .int a0] (fun U => va_P (dC, dI) vwCl [(h, .inr (14, mL f))] U.heap ∧ va_K (dC, dI) vwCl [] U)) (va_Qi (S := Unit) (fun r _ => (r = 1 ∧ ¬ a0 < 0 ∧ ¬ 0 < a0) ∨ (r = 0 ∧ (a0 < 0 ∨ 0 < a0))) (fun _ _ => True) (fun _ => False)) 0 0 (fun _ => False) := by
  refine Met.ofW (cc := cX13_isKnown) (maxL := 2) (ret := (some .boolean)) (by decide) rfl ?_
  intro p e s m args below meth c s₁ B hml hv
  obtain ⟨rfl, hP, hK⟩ := hv
  have hx := B.exec
  have hb := B.bytes
  have hr := B.returns
  have hts := atoms_spec (ws := v_m_isKnown) B.pre
  have hown : s.vm.findClass RX13 = some m.cls := findClass_of_methodNamed B.named
  have hlocks := B.notSynchronized
  have hS : va_S (fun _ : Nat => False) s.heap s.heap [] := va_S.rf
  have hl := lv_entry ([.ref h, .int a0]) (n := 2) (Nat.le_of_ble_eq_true rfl)
  rw [lg_entry_eq]
  generalize (lg_sl ([.ref h, .int a0]) ++ List.replicate (2 - (lg_sl ([.ref h, .int a0])).length) Slot.unset).toArray = ls at hl ⊢
  have hl : lv_has ls 2 [(0, .ref h), (1, .int a0)] := hl
  refine lv_iload_n hx hb dX13_isKnown_0 rfl (lv_at hl 1 rfl) ?_
  refine lv_iconst (v := 0) hx hb dX13_isKnown_1 (by decide) ?_
  refine lv_aload_n hx hb dX13_isKnown_2 rfl (lv_at hl 0 rfl) ?_
  refine va_get (D := (dC, dI)) (ci := 14) (v := .int 0) (C := RX13) (T := TX13) (N := 97) hx hb hts iw_m_isKnown_X13 hown hK hP 0 rfl rfl 1 (by decide) (hts (.fieldLink RX13 232 "UnlikeBoatsModel" "now" "I") (List.mem_of_getElem? (i := 1) rfl)) (fun _ h9 => h9) (mL_some (Nat.le_of_ble_eq_true rfl) hf_now) dX13_isKnown_3 ?_
  refine va_calli (va_runS (As := [.int a0, .int 0, .int 0]) (rest := []) ⟨hx, hb, hml, hown, hts⟩ (m_isIn l a0 (0) (0)) (va_cwS 3 hts g_m_isKnown_m_isIn_235 rfl rfl rfl (by decide +kernel) ⟨Nat.le_of_ble_eq_true rfl, Nat.le_of_ble_eq_true rfl⟩) ⟨fun _ _ _ _ q => q, fun _ _ _ => ⟨rfl, trivial⟩⟩ rfl rfl hl.1 rfl (lv_room (Nat.le_of_ble_eq_true rfl)) dX13_isKnown_6 ⟨Nat.le_of_ble_eq_true rfl, Nat.le_of_ble_eq_true rfl⟩) hS (fun _ _ h => h.elim) (fun _ h => h.elim) (fun r1 u2 t H1 locs ht hvm hw hB hz1 hk1 hS => ?_)
  have hP := ub_keep hP hk1
  generalize H1 = H at hP hS ⊢
  rcases hw with ⟨rfl, hw1, hw2⟩ | ⟨rfl, hw1⟩
  · --in
    have d3a := hw1
    have d3b := hw2
    exact W.zret (v := (1)) hx hb hr rfl (fun t ht hW => ⟨⟨(1), (), rfl, Or.inl ⟨rfl, d3a, d3b⟩, trivial⟩, hS.F ht⟩) hS.2.2 dX13_isKnown_9
  · --out
    have d4 := hw1
    exact W.zret (v := (0)) hx hb hr rfl (fun t ht hW => ⟨⟨(0), (), rfl, Or.inr ⟨rfl, d4⟩, trivial⟩, hS.F ht⟩) hS.2.2 dX13_isKnown_9
def A_m_isBoat : List Cond := [.fieldLink RX13 239 "UnlikeBoatsModel" "boats" "I"]
def v_m_isBoat : List Cond := .code yX13_isBoat cX13_isBoat 2 (some .boolean) :: (A_m_isBoat ++ wsX130)
theorem iw_m_isBoat_X13 : ∀ w ∈ wsX130, w ∈ v_m_isBoat := fun _ h => List.mem_cons_of_mem _ (List.mem_append_right _ (h))
set_option maxHeartbeats 4000000 in
set_option maxRecDepth 100000 in
theorem m_isBoat (l : Launch) (dC : Nat → ClassId) (dI : Nat → Nat → Nat) (h : Nat) (f : Nat → Value) (a0 : Int32) (hf_boats : f 8 = .int 0) : Met l yX13_isBoat v_m_isBoat ({ frames := 0, cells := 0, slots := 0, locals := 0 }) (va_Pc [.ref h, .int a0] (fun U => va_P (dC, dI) vwCl [(h, .inr (14, mL f))] U.heap ∧ va_K (dC, dI) vwCl [] U)) (va_Qi (S := Unit) (fun r _ => r = 0) (fun _ _ => True) (fun _ => False)) 0 0 (fun _ => False) := by
  refine Met.ofW (cc := cX13_isBoat) (maxL := 2) (ret := (some .boolean)) (by decide) rfl ?_
  intro p e s m args below meth c s₁ B hml hv
  obtain ⟨rfl, hP, hK⟩ := hv
  have hx := B.exec
  have hb := B.bytes
  have hr := B.returns
  have hts := atoms_spec (ws := v_m_isBoat) B.pre
  have hown : s.vm.findClass RX13 = some m.cls := findClass_of_methodNamed B.named
  have hlocks := B.notSynchronized
  have hS : va_S (fun _ : Nat => False) s.heap s.heap [] := va_S.rf
  have hl := lv_entry ([.ref h, .int a0]) (n := 2) (Nat.le_of_ble_eq_true rfl)
  rw [lg_entry_eq]
  generalize (lg_sl ([.ref h, .int a0]) ++ List.replicate (2 - (lg_sl ([.ref h, .int a0])).length) Slot.unset).toArray = ls at hl ⊢
  have hl : lv_has ls 2 [(0, .ref h), (1, .int a0)] := hl
  refine lv_iload_n hx hb dX13_isBoat_0 rfl (lv_at hl 1 rfl) ?_
  refine lv_if_lt (tgt := 16) hx hb dX13_isBoat_1 (by decide) (fun c1 => ?_) (fun c1 => ?_)
  · --a0 < 0
    refine lv_iconst (v := 0) hx hb dX13_isBoat_16 (by decide) ?_
    exact W.zret (v := (0)) hx hb hr rfl (fun t ht hW => ⟨⟨(0), (), rfl, rfl, trivial⟩, hS.F ht⟩) hS.2.2 dX13_isBoat_17
  · --¬ a0 < 0
    refine lv_iload_n hx hb dX13_isBoat_4 rfl (lv_at hl 1 rfl) ?_
    refine lv_aload_n hx hb dX13_isBoat_5 rfl (lv_at hl 0 rfl) ?_
    refine va_get (D := (dC, dI)) (ci := 14) (v := .int 0) (C := RX13) (T := TX13) (N := 97) hx hb hts iw_m_isBoat_X13 hown hK hP 0 rfl rfl 8 (by decide) (hts (.fieldLink RX13 239 "UnlikeBoatsModel" "boats" "I") (List.mem_of_getElem? (i := 1) rfl)) (fun _ h9 => h9) (mL_some (Nat.le_of_ble_eq_true rfl) hf_boats) dX13_isBoat_6 ?_
    refine lv_icmp_ge (tgt := 16) hx hb dX13_isBoat_9 (by decide) (fun c2 => ?_) (fun c2 => by first | exact absurd c2 (ub_le c1) | exact absurd (ub_le c1) c2)
    refine lv_iconst (v := 0) hx hb dX13_isBoat_16 (by decide) ?_
    exact W.zret (v := (0)) hx hb hr rfl (fun t ht hW => ⟨⟨(0), (), rfl, rfl, trivial⟩, hS.F ht⟩) hS.2.2 dX13_isBoat_17
def A_m_isRace : List Cond := [.fieldLink RX13 390 "UnlikeBoatsModel" "races" "I"]
def v_m_isRace : List Cond := .code yX13_isRace cX13_isRace 2 (some .boolean) :: (A_m_isRace ++ wsX130)
theorem iw_m_isRace_X13 : ∀ w ∈ wsX130, w ∈ v_m_isRace := fun _ h => List.mem_cons_of_mem _ (List.mem_append_right _ (h))
set_option maxHeartbeats 4000000 in
set_option maxRecDepth 100000 in
theorem m_isRace (l : Launch) (dC : Nat → ClassId) (dI : Nat → Nat → Nat) (h : Nat) (f : Nat → Value) (a0 : Int32) (hf_races : f 46 = .int 0) : Met l yX13_isRace v_m_isRace ({ frames := 0, cells := 0, slots := 0, locals := 0 }) (va_Pc [.ref h, .int a0] (fun U => va_P (dC, dI) vwCl [(h, .inr (14, mL f))] U.heap ∧ va_K (dC, dI) vwCl [] U)) (va_Qi (S := Unit) (fun r _ => r = 0) (fun _ _ => True) (fun _ => False)) 0 0 (fun _ => False) := by
  refine Met.ofW (cc := cX13_isRace) (maxL := 2) (ret := (some .boolean)) (by decide) rfl ?_
  intro p e s m args below meth c s₁ B hml hv
  obtain ⟨rfl, hP, hK⟩ := hv
  have hx := B.exec
  have hb := B.bytes
  have hr := B.returns
  have hts := atoms_spec (ws := v_m_isRace) B.pre
  have hown : s.vm.findClass RX13 = some m.cls := findClass_of_methodNamed B.named
  have hlocks := B.notSynchronized
  have hS : va_S (fun _ : Nat => False) s.heap s.heap [] := va_S.rf
  have hl := lv_entry ([.ref h, .int a0]) (n := 2) (Nat.le_of_ble_eq_true rfl)
  rw [lg_entry_eq]
  generalize (lg_sl ([.ref h, .int a0]) ++ List.replicate (2 - (lg_sl ([.ref h, .int a0])).length) Slot.unset).toArray = ls at hl ⊢
  have hl : lv_has ls 2 [(0, .ref h), (1, .int a0)] := hl
  refine lv_iload_n hx hb dX13_isRace_0 rfl (lv_at hl 1 rfl) ?_
  refine lv_if_lt (tgt := 16) hx hb dX13_isRace_1 (by decide) (fun c1 => ?_) (fun c1 => ?_)
  · --a0 < 0
    refine lv_iconst (v := 0) hx hb dX13_isRace_16 (by decide) ?_
    exact W.zret (v := (0)) hx hb hr rfl (fun t ht hW => ⟨⟨(0), (), rfl, rfl, trivial⟩, hS.F ht⟩) hS.2.2 dX13_isRace_17
  · --¬ a0 < 0
    refine lv_iload_n hx hb dX13_isRace_4 rfl (lv_at hl 1 rfl) ?_
    refine lv_aload_n hx hb dX13_isRace_5 rfl (lv_at hl 0 rfl) ?_
    refine va_get (D := (dC, dI)) (ci := 14) (v := .int 0) (C := RX13) (T := TX13) (N := 97) hx hb hts iw_m_isRace_X13 hown hK hP 0 rfl rfl 46 (by decide) (hts (.fieldLink RX13 390 "UnlikeBoatsModel" "races" "I") (List.mem_of_getElem? (i := 1) rfl)) (fun _ h9 => h9) (mL_some (Nat.le_of_ble_eq_true rfl) hf_races) dX13_isRace_6 ?_
    refine lv_icmp_ge (tgt := 16) hx hb dX13_isRace_9 (by decide) (fun c2 => ?_) (fun c2 => by first | exact absurd c2 (ub_le c1) | exact absurd (ub_le c1) c2)
    refine lv_iconst (v := 0) hx hb dX13_isRace_16 (by decide) ?_
    exact W.zret (v := (0)) hx hb hr rfl (fun t ht hW => ⟨⟨(0), (), rfl, rfl, trivial⟩, hS.F ht⟩) hS.2.2 dX13_isRace_17
def A_m_isEntry : List Cond := [.methodLink RX13 393 yX13_isRace, .instanceMethod yX13_isRace, .selects RX13 yX13_isRace yX13_isRace, .initialized RX13, .code yX13_isRace cX13_isRace 2 (some .boolean), .fieldLink RX13 390 "UnlikeBoatsModel" "races" "I"]
def v_m_isEntry : List Cond := .code yX13_isEntry cX13_isEntry 3 (some .boolean) :: (A_m_isEntry ++ wsX130)
theorem iw_m_isEntry_X13 : ∀ w ∈ wsX130, w ∈ v_m_isEntry := fun _ h => List.mem_cons_of_mem _ (List.mem_append_right _ (h))
theorem gb_m_isEntry_m_isRace0 : GoodIn v_m_isEntry (.code yX13_isRace cX13_isRace 2 (some .boolean) :: A_m_isRace) := (List.forall_mem_cons.mpr ⟨⟨List.mem_of_getElem? (i := 5) rfl, good_of_word rfl⟩, (List.forall_mem_cons.mpr ⟨⟨List.mem_of_getElem? (i := 6) rfl, good_of_word rfl⟩, (fun _ h => nomatch h)⟩)⟩)
theorem gb_m_isEntry_m_isRace : GoodIn v_m_isEntry v_m_isRace := (goodIn_ca gb_m_isEntry_m_isRace0 (goodIn_sub iw_m_isEntry_X13 gw_X13))
theorem g_m_isEntry_m_isRace_393 : GoodIn v_m_isEntry (wsV RX13 393 RX13 yX13_isRace v_m_isRace) := goodIn_app (List.forall_mem_cons.mpr ⟨⟨List.mem_of_getElem? (i := 1) rfl, good_of_word rfl⟩, (List.forall_mem_cons.mpr ⟨⟨List.mem_of_getElem? (i := 2) rfl, good_of_word rfl⟩, (List.forall_mem_cons.mpr ⟨⟨List.mem_of_getElem? (i := 3) rfl, good_of_word rfl⟩, (List.forall_mem_cons.mpr ⟨⟨List.mem_of_getElem? (i := 4) rfl, good_of_word rfl⟩, (fun _ h => nomatch h)⟩)⟩)⟩)⟩) gb_m_isEntry_m_isRace
set_option maxHeartbeats 4000000 in
set_option maxRecDepth 100000 in
theorem m_isEntry (l : Launch) (dC : Nat → ClassId) (dI : Nat → Nat → Nat) (h : Nat) (f : Nat → Value) (a0 : Int32) (a1 : Int32) (hf_races : f 46 = .int 0) : Met l yX13_isEntry v_m_isEntry ({ frames := 1, cells := 0, slots := 0, locals := 40 }) (va_Pc [.ref h, .int a0, .int a1] (fun U => va_P (dC, dI) vwCl [(h, .inr (14, mL f))] U.heap ∧ va_K (dC, dI) vwCl [] U)) (va_Qi (S := Unit) (fun r _ => r = 0) (fun _ _ => True) (fun _ => False)) 0 0 (fun _ => False) := by
  refine Met.ofW (cc := cX13_isEntry) (maxL := 3) (ret := (some .boolean)) (by decide) rfl ?_
  intro p e s m args below meth c s₁ B hml hv
  obtain ⟨rfl, hP, hK⟩ := hv
  have hx := B.exec
  have hb := B.bytes
  have hr := B.returns
  have hts := atoms_spec (ws := v_m_isEntry) B.pre
  have hown : s.vm.findClass RX13 = some m.cls := findClass_of_methodNamed B.named
  have hlocks := B.notSynchronized
  have hS : va_S (fun _ : Nat => False) s.heap s.heap [] := va_S.rf
  have hl := lv_entry ([.ref h, .int a0, .int a1]) (n := 3) (Nat.le_of_ble_eq_true rfl)
  rw [lg_entry_eq]
  generalize (lg_sl ([.ref h, .int a0, .int a1]) ++ List.replicate (3 - (lg_sl ([.ref h, .int a0, .int a1])).length) Slot.unset).toArray = ls at hl ⊢
  have hl : lv_has ls 3 [(0, .ref h), (1, .int a0), (2, .int a1)] := hl
  refine lv_aload_n hx hb dX13_isEntry_0 rfl (lv_at hl 0 rfl) ?_
  refine lv_iload_n hx hb dX13_isEntry_1 rfl (lv_at hl 1 rfl) ?_
  have hPc := hP.sub (ws' := [(h, .inr (14, mL f))]) [0] rfl
  have hKc := hK.sub (tys' := []) [] rfl
  refine va_calli (va_runV (As := [.int a0]) (rest := []) ⟨hx, hb, hml, hown, hts⟩ (m_isRace l dC dI h f a0 hf_races) (cwV 1 hts g_m_isEntry_m_isRace_393 rfl rfl rfl (by decide +kernel) ⟨Nat.le_of_ble_eq_true rfl, Nat.le_of_ble_eq_true rfl⟩) ⟨fun a U g mk q => by obtain ⟨e0, qP, qK⟩ := q; exact ⟨e0, qP, va_K.moved (u := U) (U := U.calling g mk a) (Vm.Alike.refl U.vm) qK⟩, va_recv hK hP (ci := 14) (q0 := 0) rfl rfl, fun U hU hW => ⟨rfl, by rw [hU]; exact hPc, va_K.moved hW.alike hKc⟩⟩ rfl rfl hl.1 rfl (lv_room (Nat.le_of_ble_eq_true rfl)) dX13_isEntry_2 ⟨Nat.le_of_ble_eq_true rfl, Nat.le_of_ble_eq_true rfl⟩) hS (fun _ _ h => h.elim) (fun _ h => h.elim) (fun r1 u2 t H1 locs ht hvm hw hB hz1 hk1 hS => ?_)
  have hP := ub_keep hP hk1
  generalize H1 = H at hP hS ⊢
  obtain rfl : (0 : Int32) = r1 := hw.symm
  refine lv_if_eq (tgt := 33) hx hb dX13_isEntry_5 (by decide) (fun c3 => ?_) (fun c3 => by first | exact absurd c3 (by decide) | exact absurd (by decide) c3)
  refine lv_iconst (v := 0) hx hb dX13_isEntry_33 (by decide) ?_
  exact W.zret (v := (0)) hx hb hr rfl (fun t ht hW => ⟨⟨(0), (), rfl, rfl, trivial⟩, hS.F ht⟩) hS.2.2 dX13_isEntry_34
def A_m_rulesOn : List Cond := [.fieldLink RX13 370 "UnlikeBoatsModel" "rules" "I"]
def v_m_rulesOn : List Cond := .code yX13_rulesOn cX13_rulesOn 5 (some .int) :: (A_m_rulesOn ++ wsX130)
theorem iw_m_rulesOn_X13 : ∀ w ∈ wsX130, w ∈ v_m_rulesOn := fun _ h => List.mem_cons_of_mem _ (List.mem_append_right _ (h))
set_option maxHeartbeats 4000000 in
set_option maxRecDepth 100000 in
theorem m_rulesOn (l : Launch) (dC : Nat → ClassId) (dI : Nat → Nat → Nat) (h : Nat) (f : Nat → Value) (a0 : Int32) (a1 : Int32) (hf_rules : f 17 = .int 0) : Met l yX13_rulesOn v_m_rulesOn ({ frames := 0, cells := 0, slots := 0, locals := 0 }) (va_Pc [.ref h, .int a0, .int a1] (fun U => va_P (dC, dI) vwCl [(h, .inr (14, mL f))] U.heap ∧ va_K (dC, dI) vwCl [] U)) (va_Qi (S := Unit) (fun r _ => r = -1) (fun _ _ => True) (fun _ => False)) 0 0 (fun _ => False) := by
  refine Met.ofW (cc := cX13_rulesOn) (maxL := 5) (ret := (some .int)) (by decide) rfl ?_
  intro p e s m args below meth c s₁ B hml hv
  obtain ⟨rfl, hP, hK⟩ := hv
  have hx := B.exec
  have hb := B.bytes
  have hr := B.returns
  have hts := atoms_spec (ws := v_m_rulesOn) B.pre
  have hown : s.vm.findClass RX13 = some m.cls := findClass_of_methodNamed B.named
  have hlocks := B.notSynchronized
  have hS : va_S (fun _ : Nat => False) s.heap s.heap [] := va_S.rf
  have hl := lv_entry ([.ref h, .int a0, .int a1]) (n := 5) (Nat.le_of_ble_eq_true rfl)
  rw [lg_entry_eq]
  generalize (lg_sl ([.ref h, .int a0, .int a1]) ++ List.replicate (5 - (lg_sl ([.ref h, .int a0, .int a1])).length) Slot.unset).toArray = ls at hl ⊢
  have hl : lv_has ls 5 [(0, .ref h), (1, .int a0), (2, .int a1)] := hl
  refine lv_iconst (v := -1) hx hb dX13_rulesOn_0 (by decide) ?_
  refine lv_istore_n (lv' := [(3, .int (-1)), (0, .ref h), (1, .int a0), (2, .int a1)]) hx hb dX13_rulesOn_1 rfl hl (by decide) rfl (fun ls hl => ?_)
  refine lv_iconst (v := 0) hx hb dX13_rulesOn_2 (by decide) ?_
  refine lv_istore (lv' := [(4, .int 0), (3, .int (-1)), (0, .ref h), (1, .int a0), (2, .int a1)]) hx hb dX13_rulesOn_3 hl (by decide) rfl (fun ls hl => ?_)
  refine lv_iload hx hb dX13_rulesOn_5 (lv_at hl 0 rfl) ?_
  refine lv_aload_n hx hb dX13_rulesOn_7 rfl (lv_at hl 2 rfl) ?_
  refine va_get (D := (dC, dI)) (ci := 14) (v := .int 0) (C := RX13) (T := TX13) (N := 97) hx hb hts iw_m_rulesOn_X13 hown hK hP 0 rfl rfl 17 (by decide) (hts (.fieldLink RX13 370 "UnlikeBoatsModel" "rules" "I") (List.mem_of_getElem? (i := 1) rfl)) (fun _ h9 => h9) (mL_some (Nat.le_of_ble_eq_true rfl) hf_rules) dX13_rulesOn_8 ?_
  refine lv_icmp_ge (tgt := 66) hx hb dX13_rulesOn_11 (by decide) (fun c1 => ?_) (fun c1 => by first | exact absurd c1 (by decide) | exact absurd (by decide) c1)
  refine lv_iload_n hx hb dX13_rulesOn_66 rfl (lv_at hl 1 rfl) ?_
  exact W.iret (v := (-1)) hx hb hr (fun t ht hW => ⟨⟨(-1), (), rfl, rfl, trivial⟩, hS.F ht⟩) hS.2.2 dX13_rulesOn_67
def A_m_worth : List Cond := [.methodLink RX13 373 yX13_rulesOn, .instanceMethod yX13_rulesOn, .selects RX13 yX13_rulesOn yX13_rulesOn, .initialized RX13, .code yX13_rulesOn cX13_rulesOn 5 (some .int), .fieldLink RX13 370 "UnlikeBoatsModel" "rules" "I"]
def v_m_worth : List Cond := .code yX13_worth cX13_worth 5 (some .int) :: (A_m_worth ++ wsX130)
theorem iw_m_worth_X13 : ∀ w ∈ wsX130, w ∈ v_m_worth := fun _ h => List.mem_cons_of_mem _ (List.mem_append_right _ (h))
theorem gb_m_worth_m_rulesOn0 : GoodIn v_m_worth (.code yX13_rulesOn cX13_rulesOn 5 (some .int) :: A_m_rulesOn) := (List.forall_mem_cons.mpr ⟨⟨List.mem_of_getElem? (i := 5) rfl, good_of_word rfl⟩, (List.forall_mem_cons.mpr ⟨⟨List.mem_of_getElem? (i := 6) rfl, good_of_word rfl⟩, (fun _ h => nomatch h)⟩)⟩)
theorem gb_m_worth_m_rulesOn : GoodIn v_m_worth v_m_rulesOn := (goodIn_ca gb_m_worth_m_rulesOn0 (goodIn_sub iw_m_worth_X13 gw_X13))
theorem g_m_worth_m_rulesOn_373 : GoodIn v_m_worth (wsV RX13 373 RX13 yX13_rulesOn v_m_rulesOn) := goodIn_app (List.forall_mem_cons.mpr ⟨⟨List.mem_of_getElem? (i := 1) rfl, good_of_word rfl⟩, (List.forall_mem_cons.mpr ⟨⟨List.mem_of_getElem? (i := 2) rfl, good_of_word rfl⟩, (List.forall_mem_cons.mpr ⟨⟨List.mem_of_getElem? (i := 3) rfl, good_of_word rfl⟩, (List.forall_mem_cons.mpr ⟨⟨List.mem_of_getElem? (i := 4) rfl, good_of_word rfl⟩, (fun _ h => nomatch h)⟩)⟩)⟩)⟩) gb_m_worth_m_rulesOn
set_option maxHeartbeats 4000000 in
set_option maxRecDepth 100000 in
theorem m_worth (l : Launch) (dC : Nat → ClassId) (dI : Nat → Nat → Nat) (h : Nat) (f : Nat → Value) (a0 : Int32) (a1 : Int32) (hf_rules : f 17 = .int 0) : Met l yX13_worth v_m_worth ({ frames := 1, cells := 0, slots := 0, locals := 40 }) (va_Pc [.ref h, .int 116, .int a0, .int a1] (fun U => va_P (dC, dI) vwCl [(h, .inr (14, mL f))] U.heap ∧ va_K (dC, dI) vwCl [] U)) (va_Qi (S := Unit) (fun r _ => r = 0) (fun _ _ => True) (fun _ => False)) 0 0 (fun _ => False) := by
  refine Met.ofW (cc := cX13_worth) (maxL := 5) (ret := (some .int)) (by decide) rfl ?_
  intro p e s m args below meth c s₁ B hml hv
  obtain ⟨rfl, hP, hK⟩ := hv
  have hx := B.exec
  have hb := B.bytes
  have hr := B.returns
  have hts := atoms_spec (ws := v_m_worth) B.pre
  have hown : s.vm.findClass RX13 = some m.cls := findClass_of_methodNamed B.named
  have hlocks := B.notSynchronized
  have hS : va_S (fun _ : Nat => False) s.heap s.heap [] := va_S.rf
  have hl := lv_entry ([.ref h, .int 116, .int a0, .int a1]) (n := 5) (Nat.le_of_ble_eq_true rfl)
  rw [lg_entry_eq]
  generalize (lg_sl ([.ref h, .int 116, .int a0, .int a1]) ++ List.replicate (5 - (lg_sl ([.ref h, .int 116, .int a0, .int a1])).length) Slot.unset).toArray = ls at hl ⊢
  have hl : lv_has ls 5 [(0, .ref h), (1, .int 116), (2, .int a0), (3, .int a1)] := hl
  refine lv_aload_n hx hb dX13_worth_0 rfl (lv_at hl 0 rfl) ?_
  refine lv_iload_n hx hb dX13_worth_1 rfl (lv_at hl 2 rfl) ?_
  refine lv_iload_n hx hb dX13_worth_2 rfl (lv_at hl 3 rfl) ?_
  have hPc := hP.sub (ws' := [(h, .inr (14, mL f))]) [0] rfl
  have hKc := hK.sub (tys' := []) [] rfl
  refine va_calli (va_runV (As := [.int a0, .int a1]) (rest := []) ⟨hx, hb, hml, hown, hts⟩ (m_rulesOn l dC dI h f a0 a1 hf_rules) (cwV 2 hts g_m_worth_m_rulesOn_373 rfl rfl rfl (by decide +kernel) ⟨Nat.le_of_ble_eq_true rfl, Nat.le_of_ble_eq_true rfl⟩) ⟨fun a U g mk q => by obtain ⟨e0, qP, qK⟩ := q; exact ⟨e0, qP, va_K.moved (u := U) (U := U.calling g mk a) (Vm.Alike.refl U.vm) qK⟩, va_recv hK hP (ci := 14) (q0 := 0) rfl rfl, fun U hU hW => ⟨rfl, by rw [hU]; exact hPc, va_K.moved hW.alike hKc⟩⟩ rfl rfl hl.1 rfl (lv_room (Nat.le_of_ble_eq_true rfl)) dX13_worth_3 ⟨Nat.le_of_ble_eq_true rfl, Nat.le_of_ble_eq_true rfl⟩) hS (fun _ _ h => h.elim) (fun _ h => h.elim) (fun r1 u2 t H1 locs ht hvm hw hB hz1 hk1 hS => ?_)
  have hP := ub_keep hP hk1
  generalize H1 = H at hP hS ⊢
  obtain rfl : (-1 : Int32) = r1 := hw.symm
  refine lv_istore (lv' := [(4, .int (-1)), (0, .ref h), (1, .int 116), (2, .int a0), (3, .int a1)]) hx hb dX13_worth_6 hl (by decide) rfl (fun ls hl => ?_)
  refine lv_iload hx hb dX13_worth_8 (lv_at hl 0 rfl) ?_
  refine lv_iconst (v := -1) hx hb dX13_worth_10 (by decide) ?_
  refine lv_icmp_ne (tgt := 28) hx hb dX13_worth_11 (by decide) (fun c3 => by first | exact absurd c3 (by decide) | exact absurd (by decide) c3) (fun c3 => ?_)
  refine lv_iload_n hx hb dX13_worth_14 rfl (lv_at hl 2 rfl) ?_
  refine lv_bipush (v := 110) hx hb dX13_worth_15 (by decide) ?_
  refine lv_icmp_ne (tgt := 26) hx hb dX13_worth_17 (by decide) (fun c4 => ?_) (fun c4 => by first | exact absurd c4 (by decide) | exact absurd (by decide) c4)
  refine lv_iconst (v := 0) hx hb dX13_worth_26 (by decide) ?_
  exact W.iret (v := (0)) hx hb hr (fun t ht hW => ⟨⟨(0), (), rfl, rfl, trivial⟩, hS.F ht⟩) hS.2.2 dX13_worth_27
def A_m_days : List Cond := [.fieldLink RX13 228 "UnlikeBoatsModel" "thrown" "I", .methodLink RX13 235 yX13_isIn, .static yX13_isIn, .initialized RX13, .fieldLink RX13 232 "UnlikeBoatsModel" "now" "I", .code yX13_isIn cX13_isIn 3 (some .boolean)]
def v_m_days : List Cond := .code yX13_days cX13_days 2 (some .int) :: (A_m_days ++ wsX130)
theorem iw_m_days_X13 : ∀ w ∈ wsX130, w ∈ v_m_days := fun _ h => List.mem_cons_of_mem _ (List.mem_append_right _ (h))
theorem gb_m_days_m_isIn0 : GoodIn v_m_days (.code yX13_isIn cX13_isIn 3 (some .boolean) :: A_m_isIn) := (List.forall_mem_cons.mpr ⟨⟨List.mem_of_getElem? (i := 6) rfl, good_of_word rfl⟩, (fun _ h => nomatch h)⟩)
theorem gb_m_days_m_isIn : GoodIn v_m_days v_m_isIn := gb_m_days_m_isIn0
theorem g_m_days_m_isIn_235 : GoodIn v_m_days (va_wsS RX13 235 yX13_isIn v_m_isIn) := goodIn_app (List.forall_mem_cons.mpr ⟨⟨List.mem_of_getElem? (i := 2) rfl, good_of_word rfl⟩, (List.forall_mem_cons.mpr ⟨⟨List.mem_of_getElem? (i := 3) rfl, good_of_word rfl⟩, (List.forall_mem_cons.mpr ⟨⟨List.mem_of_getElem? (i := 4) rfl, good_of_word rfl⟩, (fun _ h => nomatch h)⟩)⟩)⟩) gb_m_days_m_isIn
set_option maxHeartbeats 4000000 in
set_option maxRecDepth 100000 in
theorem m_days (l : Launch) (dC : Nat → ClassId) (dI : Nat → Nat → Nat) (h : Nat) (f : Nat → Value) (a0 : Int32) (sz : Nat) (hf_thrown : f 0 = .int 0) (hf_now : f 1 = .int 0) : Met l yX13_days v_m_days ({ frames := 1, cells := 0, slots := 0, locals := 40 }) (va_Pc [.ref h, .int a0] (fun U => U.heap.size = sz ∧ va_P (dC, dI) vwCl [(h, .inr (14, mL f))] U.heap ∧ va_K (dC, dI) vwCl [] U ∧ va_D (fun _ => True) [(h, .inr (14, mL f))])) (va_Qi (S := Unit) (fun r _ => r = if a0 < 0 ∨ 400 < a0 then -1 else a0) (fun _ _ => True) (va_A [(h, .inr (14, mL f))] sz)) 0 0 (va_A [(h, .inr (14, mL f))] sz) := by
  refine Met.ofW (cc := cX13_days) (maxL := 2) (ret := (some .int)) (by decide) rfl ?_
  intro p e s m args below meth c s₁ B hml hv
  obtain ⟨rfl, hsz, hP, hK, hD0⟩ := hv
  have hx := B.exec
  have hb := B.bytes
  have hr := B.returns
  have hts := atoms_spec (ws := v_m_days) B.pre
  have hown : s.vm.findClass RX13 = some m.cls := findClass_of_methodNamed B.named
  have hlocks := B.notSynchronized
  subst hsz
  have hD := hD0.self (sz := s.heap.size)
  generalize hAe : va_A [(h, .inr (14, mL f))] s.heap.size = A at hD ⊢
  have hA : ∀ q : Nat, s.heap.size ≤ q → A q := fun q h => by rw [← hAe]; exact Or.inr h
  have hS : va_S A s.heap s.heap [] := va_S.rf
  have hP : va_P (dC, dI) vwCl [(h, .inr (14, mL f))] s.heap := hP
  have hl := lv_entry ([.ref h, .int a0]) (n := 2) (Nat.le_of_ble_eq_true rfl)
  rw [lg_entry_eq]
  generalize (lg_sl ([.ref h, .int a0]) ++ List.replicate (2 - (lg_sl ([.ref h, .int a0])).length) Slot.unset).toArray = ls at hl ⊢
  have hl : lv_has ls 2 [(0, .ref h), (1, .int a0)] := hl
  refine lv_aload_n hx hb dX13_days_0 rfl (lv_at hl 0 rfl) ?_
  refine lv_iconst (v := 0) hx hb dX13_days_1 (by decide) ?_
  refine va_put (D := (dC, dI)) (ci := 14) (v := .int 0) (ty := .int) (C := RX13) (T := TX13) (N := 97) hx hb hts iw_m_days_X13 tyX13 tyX13_ok nmX13 hown hK hP hD hS 0 rfl rfl 0 (by decide) (hts (.fieldLink RX13 228 "UnlikeBoatsModel" "thrown" "I") (List.mem_of_getElem? (i := 1) rfl)) (fun _ h9 => h9) rfl (by decide +kernel) rfl rfl (mL_lt (Nat.le_of_ble_eq_true rfl)) dX13_days_2 (fun H locs hP hD hS => ?_)
  have hP : va_P (dC, dI) vwCl [(h, .inr (14, (mL f).set 0 (.int 0)))] H := hP
  have hD : va_D A [(h, .inr (14, (mL f).set 0 (.int 0)))] := hD
  rw [mL_same hf_thrown] at hP hD
  refine lv_iload_n hx hb dX13_days_5 rfl (lv_at hl 1 rfl) ?_
  refine lv_iconst (v := 0) hx hb dX13_days_6 (by decide) ?_
  refine lv_sipush (v := 400) hx hb dX13_days_7 (by decide) ?_
  refine va_calli (va_runS (As := [.int a0, .int 0, .int 400]) (rest := []) ⟨hx, hb, hml, hown, hts⟩ (m_isIn l a0 (0) (400)) (va_cwS 3 hts g_m_days_m_isIn_235 rfl rfl rfl (by decide +kernel) ⟨Nat.le_of_ble_eq_true rfl, Nat.le_of_ble_eq_true rfl⟩) ⟨fun _ _ _ _ q => q, fun _ _ _ => ⟨rfl, trivial⟩⟩ rfl rfl hl.1 rfl (lv_room (Nat.le_of_ble_eq_true rfl)) dX13_days_10 ⟨Nat.le_of_ble_eq_true rfl, Nat.le_of_ble_eq_true rfl⟩) hS (fun _ _ h => h.elim) (fun _ h => h.elim) (fun r1 u2 t H1 locs ht hvm hw hB hz1 hk1 hS => ?_)
  have hP := ub_keep hP hk1
  generalize H1 = H at hP hS ⊢
  rcases hw with ⟨rfl, hw1, hw2⟩ | ⟨rfl, hw1⟩
  · --in
    have d3a := hw1
    have d3b := hw2
    refine lv_if_eq (tgt := 28) hx hb dX13_days_13 (by decide) (fun c4 => by first | exact absurd c4 (by decide) | exact absurd (by decide) c4) (fun c4 => ?_)
    refine lv_aload_n hx hb dX13_days_16 rfl (lv_at hl 0 rfl) ?_
    refine va_get (D := (dC, dI)) (ci := 14) (v := .int 0) (C := RX13) (T := TX13) (N := 97) hx hb hts iw_m_days_X13 hown hK hP 0 rfl rfl 1 (by decide) (hts (.fieldLink RX13 232 "UnlikeBoatsModel" "now" "I") (List.mem_of_getElem? (i := 5) rfl)) (fun _ h9 => h9) (mL_some (Nat.le_of_ble_eq_true rfl) hf_now) dX13_days_17 ?_
    refine lv_iload_n hx hb dX13_days_20 rfl (lv_at hl 1 rfl) ?_
    refine lv_iadd hx hb dX13_days_21 ?_
    refine lv_topi (fun y5 ey5 => ?_)
    obtain rfl : (a0 : Int32) = y5 := (ey5.trans (Int32.zero_add _)).symm
    refine lv_sipush (v := 400) hx hb dX13_days_22 (by decide) ?_
    refine lv_icmp_le (tgt := 30) hx hb dX13_days_25 (by decide) (fun c6 => ?_) (fun c6 => by first | exact absurd c6 (ub_le d3b) | exact absurd (ub_le d3b) c6)
    refine lv_aload_n hx hb dX13_days_30 rfl (lv_at hl 0 rfl) ?_
    refine lv_dup hx hb dX13_days_31 rfl ?_
    refine va_get (D := (dC, dI)) (ci := 14) (v := .int 0) (C := RX13) (T := TX13) (N := 97) hx hb hts iw_m_days_X13 hown hK hP 0 rfl rfl 1 (by decide) (hts (.fieldLink RX13 232 "UnlikeBoatsModel" "now" "I") (List.mem_of_getElem? (i := 5) rfl)) (fun _ h9 => h9) (mL_some (Nat.le_of_ble_eq_true rfl) hf_now) dX13_days_32 ?_
    refine lv_iload_n hx hb dX13_days_35 rfl (lv_at hl 1 rfl) ?_
    refine lv_iadd hx hb dX13_days_36 ?_
    refine lv_topi (fun y7 ey7 => ?_)
    obtain rfl : (a0 : Int32) = y7 := (ey7.trans (Int32.zero_add _)).symm
    refine va_put (D := (dC, dI)) (ci := 14) (v := .int a0) (ty := .int) (C := RX13) (T := TX13) (N := 97) hx hb hts iw_m_days_X13 tyX13 tyX13_ok nmX13 hown hK hP hD hS 0 rfl rfl 1 (by decide) (hts (.fieldLink RX13 232 "UnlikeBoatsModel" "now" "I") (List.mem_of_getElem? (i := 5) rfl)) (fun _ h9 => h9) rfl (by decide +kernel) rfl rfl (mL_lt (Nat.le_of_ble_eq_true rfl)) dX13_days_37 (fun H locs hP hD hS => ?_)
    have hP : va_P (dC, dI) vwCl [(h, .inr (14, (mL f).set 1 (.int a0)))] H := hP
    have hD : va_D A [(h, .inr (14, (mL f).set 1 (.int a0)))] := hD
    obtain ⟨g8, eg8⟩ : ∃ z9, z9 = va_up f 1 (.int a0) := ⟨_, rfl⟩
    rw [mL_upd, ← eg8] at hP hD
    have hg8_0 : g8 0 = .int 0 := by rw [eg8]; exact (va_up_ne _ _ (by decide)).trans hf_thrown
    have hg8_1 : g8 1 = .int a0 := by rw [eg8]; exact va_up_self _ _ _
    refine lv_aload_n hx hb dX13_days_40 rfl (lv_at hl 0 rfl) ?_
    refine va_get (D := (dC, dI)) (ci := 14) (v := .int a0) (C := RX13) (T := TX13) (N := 97) hx hb hts iw_m_days_X13 hown hK hP 0 rfl rfl 1 (by decide) (hts (.fieldLink RX13 232 "UnlikeBoatsModel" "now" "I") (List.mem_of_getElem? (i := 5) rfl)) (fun _ h9 => h9) (mL_some (Nat.le_of_ble_eq_true rfl) hg8_1) dX13_days_41 ?_
    exact W.iret (v := a0) hx hb hr (fun t ht hW => ⟨⟨a0, (), rfl, by rw [if_neg (fun hh => hh.elim d3a d3b)], trivial⟩, hS.F ht⟩) hS.2.2 dX13_days_44
  · --out
    have d9 := hw1
    refine lv_if_eq (tgt := 28) hx hb dX13_days_13 (by decide) (fun c10 => ?_) (fun c10 => by first | exact absurd c10 (by decide) | exact absurd (by decide) c10)
    refine lv_iconst (v := -1) hx hb dX13_days_28 (by decide) ?_
    exact W.iret (v := (-1)) hx hb hr (fun t ht hW => ⟨⟨(-1), (), rfl, by rw [if_pos d9], trivial⟩, hS.F ht⟩) hS.2.2 dX13_days_29
def A_m_boat : List Cond := [.fieldLink RX13 228 "UnlikeBoatsModel" "thrown" "I", .fieldLink RX13 239 "UnlikeBoatsModel" "boats" "I"]
def v_m_boat : List Cond := .code yX13_boat cX13_boat 1 (some .int) :: (A_m_boat ++ wsX130)
theorem iw_m_boat_X13 : ∀ w ∈ wsX130, w ∈ v_m_boat := fun _ h => List.mem_cons_of_mem _ (List.mem_append_right _ (h))
set_option maxHeartbeats 4000000 in
set_option maxRecDepth 100000 in
theorem m_boat (l : Launch) (dC : Nat → ClassId) (dI : Nat → Nat → Nat) (h : Nat) (f : Nat → Value) (sz : Nat) (hf_thrown : f 0 = .int 0) (hf_boats : f 8 = .int 0) : Met l yX13_boat v_m_boat ({ frames := 0, cells := 0, slots := 0, locals := 0 }) (va_Pc [.ref h] (fun U => U.heap.size = sz ∧ va_P (dC, dI) vwCl [(h, .inr (14, mL f))] U.heap ∧ va_K (dC, dI) vwCl [] U ∧ va_D (fun _ => True) [(h, .inr (14, mL f))])) (va_Qi (S := Unit) (fun r _ => r = 0) (fun _ _ => True) (va_A [(h, .inr (14, mL f))] sz)) 0 0 (va_A [(h, .inr (14, mL f))] sz) := by
  refine Met.ofW (cc := cX13_boat) (maxL := 1) (ret := (some .int)) (by decide) rfl ?_
  intro p e s m args below meth c s₁ B hml hv
  obtain ⟨rfl, hsz, hP, hK, hD0⟩ := hv
  have hx := B.exec
  have hb := B.bytes
  have hr := B.returns
  have hts := atoms_spec (ws := v_m_boat) B.pre
  have hown : s.vm.findClass RX13 = some m.cls := findClass_of_methodNamed B.named
  have hlocks := B.notSynchronized
  subst hsz
  have hD := hD0.self (sz := s.heap.size)
  generalize hAe : va_A [(h, .inr (14, mL f))] s.heap.size = A at hD ⊢
  have hA : ∀ q : Nat, s.heap.size ≤ q → A q := fun q h => by rw [← hAe]; exact Or.inr h
  have hS : va_S A s.heap s.heap [] := va_S.rf
  have hP : va_P (dC, dI) vwCl [(h, .inr (14, mL f))] s.heap := hP
  have hl := lv_entry ([.ref h]) (n := 1) (Nat.le_of_ble_eq_true rfl)
  rw [lg_entry_eq]
  generalize (lg_sl ([.ref h]) ++ List.replicate (1 - (lg_sl ([.ref h])).length) Slot.unset).toArray = ls at hl ⊢
  have hl : lv_has ls 1 [(0, .ref h)] := hl
  refine lv_aload_n hx hb dX13_boat_0 rfl (lv_at hl 0 rfl) ?_
  refine lv_iconst (v := 0) hx hb dX13_boat_1 (by decide) ?_
  refine va_put (D := (dC, dI)) (ci := 14) (v := .int 0) (ty := .int) (C := RX13) (T := TX13) (N := 97) hx hb hts iw_m_boat_X13 tyX13 tyX13_ok nmX13 hown hK hP hD hS 0 rfl rfl 0 (by decide) (hts (.fieldLink RX13 228 "UnlikeBoatsModel" "thrown" "I") (List.mem_of_getElem? (i := 1) rfl)) (fun _ h9 => h9) rfl (by decide +kernel) rfl rfl (mL_lt (Nat.le_of_ble_eq_true rfl)) dX13_boat_2 (fun H locs hP hD hS => ?_)
  have hP : va_P (dC, dI) vwCl [(h, .inr (14, (mL f).set 0 (.int 0)))] H := hP
  have hD : va_D A [(h, .inr (14, (mL f).set 0 (.int 0)))] := hD
  rw [mL_same hf_thrown] at hP hD
  refine lv_aload_n hx hb dX13_boat_5 rfl (lv_at hl 0 rfl) ?_
  refine va_get (D := (dC, dI)) (ci := 14) (v := .int 0) (C := RX13) (T := TX13) (N := 97) hx hb hts iw_m_boat_X13 hown hK hP 0 rfl rfl 8 (by decide) (hts (.fieldLink RX13 239 "UnlikeBoatsModel" "boats" "I") (List.mem_of_getElem? (i := 2) rfl)) (fun _ h9 => h9) (mL_some (Nat.le_of_ble_eq_true rfl) hf_boats) dX13_boat_6 ?_
  refine lv_bipush (v := 16) hx hb dX13_boat_9 (by decide) ?_
  refine lv_icmp_ne (tgt := 16) hx hb dX13_boat_11 (by decide) (fun c1 => ?_) (fun c1 => by first | exact absurd c1 (by decide) | exact absurd (by decide) c1)
  refine lv_aload_n hx hb dX13_boat_16 rfl (lv_at hl 0 rfl) ?_
  refine lv_dup hx hb dX13_boat_17 rfl ?_
  refine va_get (D := (dC, dI)) (ci := 14) (v := .int 0) (C := RX13) (T := TX13) (N := 97) hx hb hts iw_m_boat_X13 hown hK hP 0 rfl rfl 8 (by decide) (hts (.fieldLink RX13 239 "UnlikeBoatsModel" "boats" "I") (List.mem_of_getElem? (i := 2) rfl)) (fun _ h9 => h9) (mL_some (Nat.le_of_ble_eq_true rfl) hf_boats) dX13_boat_18 ?_
  refine lv_iconst (v := 1) hx hb dX13_boat_21 (by decide) ?_
  refine lv_iadd hx hb dX13_boat_22 ?_
  refine lv_topi (fun y2 ey2 => ?_)
  obtain rfl : (1 : Int32) = y2 := (ey2.trans (by decide)).symm
  refine va_put (D := (dC, dI)) (ci := 14) (v := .int 1) (ty := .int) (C := RX13) (T := TX13) (N := 97) hx hb hts iw_m_boat_X13 tyX13 tyX13_ok nmX13 hown hK hP hD hS 0 rfl rfl 8 (by decide) (hts (.fieldLink RX13 239 "UnlikeBoatsModel" "boats" "I") (List.mem_of_getElem? (i := 2) rfl)) (fun _ h9 => h9) rfl (by decide +kernel) rfl rfl (mL_lt (Nat.le_of_ble_eq_true rfl)) dX13_boat_23 (fun H locs hP hD hS => ?_)
  have hP : va_P (dC, dI) vwCl [(h, .inr (14, (mL f).set 8 (.int 1)))] H := hP
  have hD : va_D A [(h, .inr (14, (mL f).set 8 (.int 1)))] := hD
  obtain ⟨g3, eg3⟩ : ∃ z9, z9 = va_up f 8 (.int 1) := ⟨_, rfl⟩
  rw [mL_upd, ← eg3] at hP hD
  have hg3_0 : g3 0 = .int 0 := by rw [eg3]; exact (va_up_ne _ _ (by decide)).trans hf_thrown
  have hg3_8 : g3 8 = .int 1 := by rw [eg3]; exact va_up_self _ _ _
  refine lv_aload_n hx hb dX13_boat_26 rfl (lv_at hl 0 rfl) ?_
  refine va_get (D := (dC, dI)) (ci := 14) (v := .int 1) (C := RX13) (T := TX13) (N := 97) hx hb hts iw_m_boat_X13 hown hK hP 0 rfl rfl 8 (by decide) (hts (.fieldLink RX13 239 "UnlikeBoatsModel" "boats" "I") (List.mem_of_getElem? (i := 2) rfl)) (fun _ h9 => h9) (mL_some (Nat.le_of_ble_eq_true rfl) hg3_8) dX13_boat_27 ?_
  refine lv_iconst (v := 1) hx hb dX13_boat_30 (by decide) ?_
  refine lv_isub hx hb dX13_boat_31 ?_
  refine lv_topi (fun y4 ey4 => ?_)
  obtain rfl : (0 : Int32) = y4 := (ey4.trans (by decide)).symm
  exact W.iret (v := (0)) hx hb hr (fun t ht hW => ⟨⟨(0), (), rfl, rfl, trivial⟩, hS.F ht⟩) hS.2.2 dX13_boat_32
def A_m_certificate : List Cond := [.fieldLink RX13 228 "UnlikeBoatsModel" "thrown" "I", .fieldLink RX13 242 "UnlikeBoatsModel" "certs" "I", .methodLink RX13 245 yX13_isBoat, .instanceMethod yX13_isBoat, .selects RX13 yX13_isBoat yX13_isBoat, .initialized RX13, .code yX13_isBoat cX13_isBoat 2 (some .boolean), .fieldLink RX13 239 "UnlikeBoatsModel" "boats" "I"]
def v_m_certificate : List Cond := .code yX13_certificate cX13_certificate 6 (some .int) :: (A_m_certificate ++ wsX130)
theorem iw_m_certificate_X13 : ∀ w ∈ wsX130, w ∈ v_m_certificate := fun _ h => List.mem_cons_of_mem _ (List.mem_append_right _ (h))
theorem gb_m_certificate_m_isBoat0 : GoodIn v_m_certificate (.code yX13_isBoat cX13_isBoat 2 (some .boolean) :: A_m_isBoat) := (List.forall_mem_cons.mpr ⟨⟨List.mem_of_getElem? (i := 7) rfl, good_of_word rfl⟩, (List.forall_mem_cons.mpr ⟨⟨List.mem_of_getElem? (i := 8) rfl, good_of_word rfl⟩, (fun _ h => nomatch h)⟩)⟩)
theorem gb_m_certificate_m_isBoat : GoodIn v_m_certificate v_m_isBoat := (goodIn_ca gb_m_certificate_m_isBoat0 (goodIn_sub iw_m_certificate_X13 gw_X13))
theorem g_m_certificate_m_isBoat_245 : GoodIn v_m_certificate (wsV RX13 245 RX13 yX13_isBoat v_m_isBoat) := goodIn_app (List.forall_mem_cons.mpr ⟨⟨List.mem_of_getElem? (i := 3) rfl, good_of_word rfl⟩, (List.forall_mem_cons.mpr ⟨⟨List.mem_of_getElem? (i := 4) rfl, good_of_word rfl⟩, (List.forall_mem_cons.mpr ⟨⟨List.mem_of_getElem? (i := 5) rfl, good_of_word rfl⟩, (List.forall_mem_cons.mpr ⟨⟨List.mem_of_getElem? (i := 6) rfl, good_of_word rfl⟩, (fun _ h => nomatch h)⟩)⟩)⟩)⟩) gb_m_certificate_m_isBoat
set_option maxHeartbeats 4000000 in
set_option maxRecDepth 100000 in
theorem m_certificate (l : Launch) (dC : Nat → ClassId) (dI : Nat → Nat → Nat) (h : Nat) (f : Nat → Value) (a0 : Int32) (a1 : Int32) (a2 : Int32) (a3 : Int32) (a4 : Int32) (sz : Nat) (hf_thrown : f 0 = .int 0) (hf_certs : f 9 = .int 0) (hf_boats : f 8 = .int 0) : Met l yX13_certificate v_m_certificate ({ frames := 1, cells := 0, slots := 0, locals := 40 }) (va_Pc [.ref h, .int a0, .int a1, .int a2, .int a3, .int a4] (fun U => U.heap.size = sz ∧ va_P (dC, dI) vwCl [(h, .inr (14, mL f))] U.heap ∧ va_K (dC, dI) vwCl [] U ∧ va_D (fun _ => True) [(h, .inr (14, mL f))])) (va_Qi (S := Unit) (fun r _ => r = -1) (fun _ _ => True) (va_A [(h, .inr (14, mL f))] sz)) 0 0 (va_A [(h, .inr (14, mL f))] sz) := by
  refine Met.ofW (cc := cX13_certificate) (maxL := 6) (ret := (some .int)) (by decide) rfl ?_
  intro p e s m args below meth c s₁ B hml hv
  obtain ⟨rfl, hsz, hP, hK, hD0⟩ := hv
  have hx := B.exec
  have hb := B.bytes
  have hr := B.returns
  have hts := atoms_spec (ws := v_m_certificate) B.pre
  have hown : s.vm.findClass RX13 = some m.cls := findClass_of_methodNamed B.named
  have hlocks := B.notSynchronized
  subst hsz
  have hD := hD0.self (sz := s.heap.size)
  generalize hAe : va_A [(h, .inr (14, mL f))] s.heap.size = A at hD ⊢
  have hA : ∀ q : Nat, s.heap.size ≤ q → A q := fun q h => by rw [← hAe]; exact Or.inr h
  have hS : va_S A s.heap s.heap [] := va_S.rf
  have hP : va_P (dC, dI) vwCl [(h, .inr (14, mL f))] s.heap := hP
  have hl := lv_entry ([.ref h, .int a0, .int a1, .int a2, .int a3, .int a4]) (n := 6) (Nat.le_of_ble_eq_true rfl)
  rw [lg_entry_eq]
  generalize (lg_sl ([.ref h, .int a0, .int a1, .int a2, .int a3, .int a4]) ++ List.replicate (6 - (lg_sl ([.ref h, .int a0, .int a1, .int a2, .int a3, .int a4])).length) Slot.unset).toArray = ls at hl ⊢
  have hl : lv_has ls 6 [(0, .ref h), (1, .int a0), (2, .int a1), (3, .int a2), (4, .int a3), (5, .int a4)] := hl
  refine lv_aload_n hx hb dX13_certificate_0 rfl (lv_at hl 0 rfl) ?_
  refine lv_iconst (v := 0) hx hb dX13_certificate_1 (by decide) ?_
  refine va_put (D := (dC, dI)) (ci := 14) (v := .int 0) (ty := .int) (C := RX13) (T := TX13) (N := 97) hx hb hts iw_m_certificate_X13 tyX13 tyX13_ok nmX13 hown hK hP hD hS 0 rfl rfl 0 (by decide) (hts (.fieldLink RX13 228 "UnlikeBoatsModel" "thrown" "I") (List.mem_of_getElem? (i := 1) rfl)) (fun _ h9 => h9) rfl (by decide +kernel) rfl rfl (mL_lt (Nat.le_of_ble_eq_true rfl)) dX13_certificate_2 (fun H locs hP hD hS => ?_)
  have hP : va_P (dC, dI) vwCl [(h, .inr (14, (mL f).set 0 (.int 0)))] H := hP
  have hD : va_D A [(h, .inr (14, (mL f).set 0 (.int 0)))] := hD
  rw [mL_same hf_thrown] at hP hD
  refine lv_aload_n hx hb dX13_certificate_5 rfl (lv_at hl 0 rfl) ?_
  refine va_get (D := (dC, dI)) (ci := 14) (v := .int 0) (C := RX13) (T := TX13) (N := 97) hx hb hts iw_m_certificate_X13 hown hK hP 0 rfl rfl 9 (by decide) (hts (.fieldLink RX13 242 "UnlikeBoatsModel" "certs" "I") (List.mem_of_getElem? (i := 2) rfl)) (fun _ h9 => h9) (mL_some (Nat.le_of_ble_eq_true rfl) hf_certs) dX13_certificate_6 ?_
  refine lv_bipush (v := 80) hx hb dX13_certificate_9 (by decide) ?_
  refine lv_icmp_eq (tgt := 65) hx hb dX13_certificate_11 (by decide) (fun c1 => by first | exact absurd c1 (by decide) | exact absurd (by decide) c1) (fun c1 => ?_)
  refine lv_aload_n hx hb dX13_certificate_14 rfl (lv_at hl 0 rfl) ?_
  refine lv_iload_n hx hb dX13_certificate_15 rfl (lv_at hl 1 rfl) ?_
  have hPc := hP.sub (ws' := [(h, .inr (14, mL f))]) [0] rfl
  have hKc := hK.sub (tys' := []) [] rfl
  refine va_calli (va_runV (As := [.int a0]) (rest := []) ⟨hx, hb, hml, hown, hts⟩ (m_isBoat l dC dI h f a0 hf_boats) (cwV 1 hts g_m_certificate_m_isBoat_245 rfl rfl rfl (by decide +kernel) ⟨Nat.le_of_ble_eq_true rfl, Nat.le_of_ble_eq_true rfl⟩) ⟨fun a U g mk q => by obtain ⟨e0, qP, qK⟩ := q; exact ⟨e0, qP, va_K.moved (u := U) (U := U.calling g mk a) (Vm.Alike.refl U.vm) qK⟩, va_recv hK hP (ci := 14) (q0 := 0) rfl rfl, fun U hU hW => ⟨rfl, by rw [hU]; exact hPc, va_K.moved hW.alike hKc⟩⟩ rfl rfl hl.1 rfl (lv_room (Nat.le_of_ble_eq_true rfl)) dX13_certificate_16 ⟨Nat.le_of_ble_eq_true rfl, Nat.le_of_ble_eq_true rfl⟩) hS (fun _ _ h => h.elim) (fun _ h => h.elim) (fun r2 u3 t H1 locs ht hvm hw hB hz1 hk1 hS => ?_)
  have hP := ub_keep hP hk1
  generalize H1 = H at hP hS ⊢
  obtain rfl : (0 : Int32) = r2 := hw.symm
  refine lv_if_eq (tgt := 65) hx hb dX13_certificate_19 (by decide) (fun c4 => ?_) (fun c4 => by first | exact absurd c4 (by decide) | exact absurd (by decide) c4)
  refine lv_iconst (v := -1) hx hb dX13_certificate_65 (by decide) ?_
  exact W.iret (v := (-1)) hx hb hr (fun t ht hW => ⟨⟨(-1), (), rfl, rfl, trivial⟩, hS.F ht⟩) hS.2.2 dX13_certificate_66
def A_m_measured : List Cond := [.fieldLink RX13 228 "UnlikeBoatsModel" "thrown" "I", .methodLink RX13 245 yX13_isBoat, .instanceMethod yX13_isBoat, .selects RX13 yX13_isBoat yX13_isBoat, .initialized RX13, .code yX13_isBoat cX13_isBoat 2 (some .boolean), .fieldLink RX13 239 "UnlikeBoatsModel" "boats" "I"]
def v_m_measured : List Cond := .code yX13_measured cX13_measured 4 (some .int) :: (A_m_measured ++ wsX130)
theorem iw_m_measured_X13 : ∀ w ∈ wsX130, w ∈ v_m_measured := fun _ h => List.mem_cons_of_mem _ (List.mem_append_right _ (h))
theorem gb_m_measured_m_isBoat0 : GoodIn v_m_measured (.code yX13_isBoat cX13_isBoat 2 (some .boolean) :: A_m_isBoat) := (List.forall_mem_cons.mpr ⟨⟨List.mem_of_getElem? (i := 6) rfl, good_of_word rfl⟩, (List.forall_mem_cons.mpr ⟨⟨List.mem_of_getElem? (i := 7) rfl, good_of_word rfl⟩, (fun _ h => nomatch h)⟩)⟩)
theorem gb_m_measured_m_isBoat : GoodIn v_m_measured v_m_isBoat := (goodIn_ca gb_m_measured_m_isBoat0 (goodIn_sub iw_m_measured_X13 gw_X13))
theorem g_m_measured_m_isBoat_245 : GoodIn v_m_measured (wsV RX13 245 RX13 yX13_isBoat v_m_isBoat) := goodIn_app (List.forall_mem_cons.mpr ⟨⟨List.mem_of_getElem? (i := 2) rfl, good_of_word rfl⟩, (List.forall_mem_cons.mpr ⟨⟨List.mem_of_getElem? (i := 3) rfl, good_of_word rfl⟩, (List.forall_mem_cons.mpr ⟨⟨List.mem_of_getElem? (i := 4) rfl, good_of_word rfl⟩, (List.forall_mem_cons.mpr ⟨⟨List.mem_of_getElem? (i := 5) rfl, good_of_word rfl⟩, (fun _ h => nomatch h)⟩)⟩)⟩)⟩) gb_m_measured_m_isBoat
set_option maxHeartbeats 4000000 in
set_option maxRecDepth 100000 in
theorem m_measured (l : Launch) (dC : Nat → ClassId) (dI : Nat → Nat → Nat) (h : Nat) (f : Nat → Value) (a0 : Int32) (a1 : Int32) (a2 : Int32) (sz : Nat) (hf_thrown : f 0 = .int 0) (hf_boats : f 8 = .int 0) : Met l yX13_measured v_m_measured ({ frames := 1, cells := 0, slots := 0, locals := 40 }) (va_Pc [.ref h, .int a0, .int a1, .int a2] (fun U => U.heap.size = sz ∧ va_P (dC, dI) vwCl [(h, .inr (14, mL f))] U.heap ∧ va_K (dC, dI) vwCl [] U ∧ va_D (fun _ => True) [(h, .inr (14, mL f))])) (va_Qi (S := Unit) (fun r _ => r = -1) (fun _ _ => True) (va_A [(h, .inr (14, mL f))] sz)) 0 0 (va_A [(h, .inr (14, mL f))] sz) := by
  refine Met.ofW (cc := cX13_measured) (maxL := 4) (ret := (some .int)) (by decide) rfl ?_
  intro p e s m args below meth c s₁ B hml hv
  obtain ⟨rfl, hsz, hP, hK, hD0⟩ := hv
  have hx := B.exec
  have hb := B.bytes
  have hr := B.returns
  have hts := atoms_spec (ws := v_m_measured) B.pre
  have hown : s.vm.findClass RX13 = some m.cls := findClass_of_methodNamed B.named
  have hlocks := B.notSynchronized
  subst hsz
  have hD := hD0.self (sz := s.heap.size)
  generalize hAe : va_A [(h, .inr (14, mL f))] s.heap.size = A at hD ⊢
  have hA : ∀ q : Nat, s.heap.size ≤ q → A q := fun q h => by rw [← hAe]; exact Or.inr h
  have hS : va_S A s.heap s.heap [] := va_S.rf
  have hP : va_P (dC, dI) vwCl [(h, .inr (14, mL f))] s.heap := hP
  have hl := lv_entry ([.ref h, .int a0, .int a1, .int a2]) (n := 4) (Nat.le_of_ble_eq_true rfl)
  rw [lg_entry_eq]
  generalize (lg_sl ([.ref h, .int a0, .int a1, .int a2]) ++ List.replicate (4 - (lg_sl ([.ref h, .int a0, .int a1, .int a2])).length) Slot.unset).toArray = ls at hl ⊢
  have hl : lv_has ls 4 [(0, .ref h), (1, .int a0), (2, .int a1), (3, .int a2)] := hl
  refine lv_aload_n hx hb dX13_measured_0 rfl (lv_at hl 0 rfl) ?_
  refine lv_iconst (v := 0) hx hb dX13_measured_1 (by decide) ?_
  refine va_put (D := (dC, dI)) (ci := 14) (v := .int 0) (ty := .int) (C := RX13) (T := TX13) (N := 97) hx hb hts iw_m_measured_X13 tyX13 tyX13_ok nmX13 hown hK hP hD hS 0 rfl rfl 0 (by decide) (hts (.fieldLink RX13 228 "UnlikeBoatsModel" "thrown" "I") (List.mem_of_getElem? (i := 1) rfl)) (fun _ h9 => h9) rfl (by decide +kernel) rfl rfl (mL_lt (Nat.le_of_ble_eq_true rfl)) dX13_measured_2 (fun H locs hP hD hS => ?_)
  have hP : va_P (dC, dI) vwCl [(h, .inr (14, (mL f).set 0 (.int 0)))] H := hP
  have hD : va_D A [(h, .inr (14, (mL f).set 0 (.int 0)))] := hD
  rw [mL_same hf_thrown] at hP hD
  refine lv_aload_n hx hb dX13_measured_5 rfl (lv_at hl 0 rfl) ?_
  refine lv_iload_n hx hb dX13_measured_6 rfl (lv_at hl 1 rfl) ?_
  have hPc := hP.sub (ws' := [(h, .inr (14, mL f))]) [0] rfl
  have hKc := hK.sub (tys' := []) [] rfl
  refine va_calli (va_runV (As := [.int a0]) (rest := []) ⟨hx, hb, hml, hown, hts⟩ (m_isBoat l dC dI h f a0 hf_boats) (cwV 1 hts g_m_measured_m_isBoat_245 rfl rfl rfl (by decide +kernel) ⟨Nat.le_of_ble_eq_true rfl, Nat.le_of_ble_eq_true rfl⟩) ⟨fun a U g mk q => by obtain ⟨e0, qP, qK⟩ := q; exact ⟨e0, qP, va_K.moved (u := U) (U := U.calling g mk a) (Vm.Alike.refl U.vm) qK⟩, va_recv hK hP (ci := 14) (q0 := 0) rfl rfl, fun U hU hW => ⟨rfl, by rw [hU]; exact hPc, va_K.moved hW.alike hKc⟩⟩ rfl rfl hl.1 rfl (lv_room (Nat.le_of_ble_eq_true rfl)) dX13_measured_7 ⟨Nat.le_of_ble_eq_true rfl, Nat.le_of_ble_eq_true rfl⟩) hS (fun _ _ h => h.elim) (fun _ h => h.elim) (fun r1 u2 t H1 locs ht hvm hw hB hz1 hk1 hS => ?_)
  have hP := ub_keep hP hk1
  generalize H1 = H at hP hS ⊢
  obtain rfl : (0 : Int32) = r1 := hw.symm
  refine lv_if_eq (tgt := 38) hx hb dX13_measured_10 (by decide) (fun c3 => ?_) (fun c3 => by first | exact absurd c3 (by decide) | exact absurd (by decide) c3)
  refine lv_iconst (v := -1) hx hb dX13_measured_38 (by decide) ?_
  exact W.iret (v := (-1)) hx hb hr (fun t ht hW => ⟨⟨(-1), (), rfl, rfl, trivial⟩, hS.F ht⟩) hS.2.2 dX13_measured_39
def A_m_end : List Cond := [.fieldLink RX13 228 "UnlikeBoatsModel" "thrown" "I", .fieldLink RX13 259 "UnlikeBoatsModel" "length" "I"]
def v_m_end : List Cond := .code yX13_end cX13_end 2 (some .boolean) :: (A_m_end ++ wsX130)
theorem iw_m_end_X13 : ∀ w ∈ wsX130, w ∈ v_m_end := fun _ h => List.mem_cons_of_mem _ (List.mem_append_right _ (h))
set_option maxHeartbeats 4000000 in
set_option maxRecDepth 100000 in
theorem m_end (l : Launch) (dC : Nat → ClassId) (dI : Nat → Nat → Nat) (h : Nat) (f : Nat → Value) (a0 : Int32) (sz : Nat) (hf_thrown : f 0 = .int 0) (hf_length : f 16 = .int 0) : Met l yX13_end v_m_end ({ frames := 0, cells := 0, slots := 0, locals := 0 }) (va_Pc [.ref h, .int a0] (fun U => U.heap.size = sz ∧ va_P (dC, dI) vwCl [(h, .inr (14, mL f))] U.heap ∧ va_K (dC, dI) vwCl [] U ∧ va_D (fun _ => True) [(h, .inr (14, mL f))])) (va_Qi (S := Unit) (fun r _ => r = if a0 < 0 ∨ 0 < a0 then 0 else 1) (fun _ _ => True) (va_A [(h, .inr (14, mL f))] sz)) 0 0 (va_A [(h, .inr (14, mL f))] sz) := by
  refine Met.ofW (cc := cX13_end) (maxL := 2) (ret := (some .boolean)) (by decide) rfl ?_
  intro p e s m args below meth c s₁ B hml hv
  obtain ⟨rfl, hsz, hP, hK, hD0⟩ := hv
  have hx := B.exec
  have hb := B.bytes
  have hr := B.returns
  have hts := atoms_spec (ws := v_m_end) B.pre
  have hown : s.vm.findClass RX13 = some m.cls := findClass_of_methodNamed B.named
  have hlocks := B.notSynchronized
  subst hsz
  have hD := hD0.self (sz := s.heap.size)
  generalize hAe : va_A [(h, .inr (14, mL f))] s.heap.size = A at hD ⊢
  have hA : ∀ q : Nat, s.heap.size ≤ q → A q := fun q h => by rw [← hAe]; exact Or.inr h
  have hS : va_S A s.heap s.heap [] := va_S.rf
  have hP : va_P (dC, dI) vwCl [(h, .inr (14, mL f))] s.heap := hP
  have hl := lv_entry ([.ref h, .int a0]) (n := 2) (Nat.le_of_ble_eq_true rfl)
  rw [lg_entry_eq]
  generalize (lg_sl ([.ref h, .int a0]) ++ List.replicate (2 - (lg_sl ([.ref h, .int a0])).length) Slot.unset).toArray = ls at hl ⊢
  have hl : lv_has ls 2 [(0, .ref h), (1, .int a0)] := hl
  refine lv_aload_n hx hb dX13_end_0 rfl (lv_at hl 0 rfl) ?_
  refine lv_iconst (v := 0) hx hb dX13_end_1 (by decide) ?_
  refine va_put (D := (dC, dI)) (ci := 14) (v := .int 0) (ty := .int) (C := RX13) (T := TX13) (N := 97) hx hb hts iw_m_end_X13 tyX13 tyX13_ok nmX13 hown hK hP hD hS 0 rfl rfl 0 (by decide) (hts (.fieldLink RX13 228 "UnlikeBoatsModel" "thrown" "I") (List.mem_of_getElem? (i := 1) rfl)) (fun _ h9 => h9) rfl (by decide +kernel) rfl rfl (mL_lt (Nat.le_of_ble_eq_true rfl)) dX13_end_2 (fun H locs hP hD hS => ?_)
  have hP : va_P (dC, dI) vwCl [(h, .inr (14, (mL f).set 0 (.int 0)))] H := hP
  have hD : va_D A [(h, .inr (14, (mL f).set 0 (.int 0)))] := hD
  rw [mL_same hf_thrown] at hP hD
  refine lv_iload_n hx hb dX13_end_5 rfl (lv_at hl 1 rfl) ?_
  refine lv_if_lt (tgt := 17) hx hb dX13_end_6 (by decide) (fun c1 => ?_) (fun c1 => ?_)
  · --a0 < 0
    refine lv_iconst (v := 0) hx hb dX13_end_17 (by decide) ?_
    exact W.zret (v := (0)) hx hb hr rfl (fun t ht hW => ⟨⟨(0), (), rfl, by rw [if_pos (Or.inl c1)], trivial⟩, hS.F ht⟩) hS.2.2 dX13_end_18
  · --¬ a0 < 0
    refine lv_iload_n hx hb dX13_end_9 rfl (lv_at hl 1 rfl) ?_
    refine lv_aload_n hx hb dX13_end_10 rfl (lv_at hl 0 rfl) ?_
    refine va_get (D := (dC, dI)) (ci := 14) (v := .int 0) (C := RX13) (T := TX13) (N := 97) hx hb hts iw_m_end_X13 hown hK hP 0 rfl rfl 16 (by decide) (hts (.fieldLink RX13 259 "UnlikeBoatsModel" "length" "I") (List.mem_of_getElem? (i := 2) rfl)) (fun _ h9 => h9) (mL_some (Nat.le_of_ble_eq_true rfl) hf_length) dX13_end_11 ?_
    refine lv_icmp_le (tgt := 19) hx hb dX13_end_14 (by decide) (fun c2 => ?_) (fun c2 => ?_)
    · --a0 ≤ 0
      refine lv_aload_n hx hb dX13_end_19 rfl (lv_at hl 0 rfl) ?_
      refine lv_iload_n hx hb dX13_end_20 rfl (lv_at hl 1 rfl) ?_
      refine va_put (D := (dC, dI)) (ci := 14) (v := .int a0) (ty := .int) (C := RX13) (T := TX13) (N := 97) hx hb hts iw_m_end_X13 tyX13 tyX13_ok nmX13 hown hK hP hD hS 0 rfl rfl 16 (by decide) (hts (.fieldLink RX13 259 "UnlikeBoatsModel" "length" "I") (List.mem_of_getElem? (i := 2) rfl)) (fun _ h9 => h9) rfl (by decide +kernel) rfl rfl (mL_lt (Nat.le_of_ble_eq_true rfl)) dX13_end_21 (fun H locs hP hD hS => ?_)
      have hP : va_P (dC, dI) vwCl [(h, .inr (14, (mL f).set 16 (.int a0)))] H := hP
      have hD : va_D A [(h, .inr (14, (mL f).set 16 (.int a0)))] := hD
      obtain ⟨g3, eg3⟩ : ∃ z9, z9 = va_up f 16 (.int a0) := ⟨_, rfl⟩
      rw [mL_upd, ← eg3] at hP hD
      have hg3_0 : g3 0 = .int 0 := by rw [eg3]; exact (va_up_ne _ _ (by decide)).trans hf_thrown
      have hg3_16 : g3 16 = .int a0 := by rw [eg3]; exact va_up_self _ _ _
      refine lv_iconst (v := 1) hx hb dX13_end_24 (by decide) ?_
      exact W.zret (v := (1)) hx hb hr rfl (fun t ht hW => ⟨⟨(1), (), rfl, by rw [if_neg (fun hh => hh.elim c1 (ub_nlt c2))], trivial⟩, hS.F ht⟩) hS.2.2 dX13_end_25
    · --¬ a0 ≤ 0
      refine lv_iconst (v := 0) hx hb dX13_end_17 (by decide) ?_
      exact W.zret (v := (0)) hx hb hr rfl (fun t ht hW => ⟨⟨(0), (), rfl, by rw [if_pos (Or.inr (ub_lt c2))], trivial⟩, hS.F ht⟩) hS.2.2 dX13_end_18
def A_m_force : List Cond := [.fieldLink RX13 228 "UnlikeBoatsModel" "thrown" "I", .methodLink RX13 249 yX13_isDay, .static yX13_isDay, .initialized RX13, .methodLink RX13 252 yX13_isKnown, .instanceMethod yX13_isKnown, .selects RX13 yX13_isKnown yX13_isKnown, .methodLink RX13 373 yX13_rulesOn, .instanceMethod yX13_rulesOn, .selects RX13 yX13_rulesOn yX13_rulesOn, .code yX13_isDay cX13_isDay 1 (some .boolean), .methodLink RX13 235 yX13_isIn, .static yX13_isIn, .code yX13_isIn cX13_isIn 3 (some .boolean), .code yX13_isKnown cX13_isKnown 2 (some .boolean), .fieldLink RX13 232 "UnlikeBoatsModel" "now" "I", .code yX13_rulesOn cX13_rulesOn 5 (some .int), .fieldLink RX13 370 "UnlikeBoatsModel" "rules" "I"]
def v_m_force : List Cond := .code yX13_force cX13_force 3 (some .int) :: (A_m_force ++ wsX130)
theorem iw_m_force_X13 : ∀ w ∈ wsX130, w ∈ v_m_force := fun _ h => List.mem_cons_of_mem _ (List.mem_append_right _ (h))
theorem gb_m_force_m_isDay0 : GoodIn v_m_force (.code yX13_isDay cX13_isDay 1 (some .boolean) :: A_m_isDay) := (List.forall_mem_cons.mpr ⟨⟨List.mem_of_getElem? (i := 11) rfl, good_of_word rfl⟩, (List.forall_mem_cons.mpr ⟨⟨List.mem_of_getElem? (i := 12) rfl, good_of_word rfl⟩, (List.forall_mem_cons.mpr ⟨⟨List.mem_of_getElem? (i := 13) rfl, good_of_word rfl⟩, (List.forall_mem_cons.mpr ⟨⟨List.mem_of_getElem? (i := 4) rfl, good_of_word rfl⟩, (List.forall_mem_cons.mpr ⟨⟨List.mem_of_getElem? (i := 14) rfl, good_of_word rfl⟩, (fun _ h => nomatch h)⟩)⟩)⟩)⟩)⟩)
theorem gb_m_force_m_isDay : GoodIn v_m_force v_m_isDay := gb_m_force_m_isDay0
theorem g_m_force_m_isDay_249 : GoodIn v_m_force (va_wsS RX13 249 yX13_isDay v_m_isDay) := goodIn_app (List.forall_mem_cons.mpr ⟨⟨List.mem_of_getElem? (i := 2) rfl, good_of_word rfl⟩, (List.forall_mem_cons.mpr ⟨⟨List.mem_of_getElem? (i := 3) rfl, good_of_word rfl⟩, (List.forall_mem_cons.mpr ⟨⟨List.mem_of_getElem? (i := 4) rfl, good_of_word rfl⟩, (fun _ h => nomatch h)⟩)⟩)⟩) gb_m_force_m_isDay
theorem gb_m_force_m_isKnown0 : GoodIn v_m_force (.code yX13_isKnown cX13_isKnown 2 (some .boolean) :: A_m_isKnown) := (List.forall_mem_cons.mpr ⟨⟨List.mem_of_getElem? (i := 15) rfl, good_of_word rfl⟩, (List.forall_mem_cons.mpr ⟨⟨List.mem_of_getElem? (i := 16) rfl, good_of_word rfl⟩, (List.forall_mem_cons.mpr ⟨⟨List.mem_of_getElem? (i := 12) rfl, good_of_word rfl⟩, (List.forall_mem_cons.mpr ⟨⟨List.mem_of_getElem? (i := 13) rfl, good_of_word rfl⟩, (List.forall_mem_cons.mpr ⟨⟨List.mem_of_getElem? (i := 4) rfl, good_of_word rfl⟩, (List.forall_mem_cons.mpr ⟨⟨List.mem_of_getElem? (i := 14) rfl, good_of_word rfl⟩, (fun _ h => nomatch h)⟩)⟩)⟩)⟩)⟩)⟩)
theorem gb_m_force_m_isKnown : GoodIn v_m_force v_m_isKnown := (goodIn_ca gb_m_force_m_isKnown0 (goodIn_sub iw_m_force_X13 gw_X13))
theorem g_m_force_m_isKnown_252 : GoodIn v_m_force (wsV RX13 252 RX13 yX13_isKnown v_m_isKnown) := goodIn_app (List.forall_mem_cons.mpr ⟨⟨List.mem_of_getElem? (i := 5) rfl, good_of_word rfl⟩, (List.forall_mem_cons.mpr ⟨⟨List.mem_of_getElem? (i := 6) rfl, good_of_word rfl⟩, (List.forall_mem_cons.mpr ⟨⟨List.mem_of_getElem? (i := 7) rfl, good_of_word rfl⟩, (List.forall_mem_cons.mpr ⟨⟨List.mem_of_getElem? (i := 4) rfl, good_of_word rfl⟩, (fun _ h => nomatch h)⟩)⟩)⟩)⟩) gb_m_force_m_isKnown
theorem gb_m_force_m_rulesOn0 : GoodIn v_m_force (.code yX13_rulesOn cX13_rulesOn 5 (some .int) :: A_m_rulesOn) := (List.forall_mem_cons.mpr ⟨⟨List.mem_of_getElem? (i := 17) rfl, good_of_word rfl⟩, (List.forall_mem_cons.mpr ⟨⟨List.mem_of_getElem? (i := 18) rfl, good_of_word rfl⟩, (fun _ h => nomatch h)⟩)⟩)
theorem gb_m_force_m_rulesOn : GoodIn v_m_force v_m_rulesOn := (goodIn_ca gb_m_force_m_rulesOn0 (goodIn_sub iw_m_force_X13 gw_X13))
theorem g_m_force_m_rulesOn_373 : GoodIn v_m_force (wsV RX13 373 RX13 yX13_rulesOn v_m_rulesOn) := goodIn_app (List.forall_mem_cons.mpr ⟨⟨List.mem_of_getElem? (i := 8) rfl, good_of_word rfl⟩, (List.forall_mem_cons.mpr ⟨⟨List.mem_of_getElem? (i := 9) rfl, good_of_word rfl⟩, (List.forall_mem_cons.mpr ⟨⟨List.mem_of_getElem? (i := 10) rfl, good_of_word rfl⟩, (List.forall_mem_cons.mpr ⟨⟨List.mem_of_getElem? (i := 4) rfl, good_of_word rfl⟩, (fun _ h => nomatch h)⟩)⟩)⟩)⟩) gb_m_force_m_rulesOn
set_option maxHeartbeats 4000000 in
set_option maxRecDepth 100000 in
theorem m_force (l : Launch) (dC : Nat → ClassId) (dI : Nat → Nat → Nat) (h : Nat) (f : Nat → Value) (a0 : Int32) (a1 : Int32) (sz : Nat) (hf_thrown : f 0 = .int 0) (hf_now : f 1 = .int 0) (hf_rules : f 17 = .int 0) : Met l yX13_force v_m_force ({ frames := 2, cells := 0, slots := 0, locals := 80 }) (va_Pc [.ref h, .int a0, .int a1] (fun U => U.heap.size = sz ∧ va_P (dC, dI) vwCl [(h, .inr (14, mL f))] U.heap ∧ va_K (dC, dI) vwCl [] U ∧ va_D (fun _ => True) [(h, .inr (14, mL f))])) (va_Qi (S := Unit) (fun r _ => r = -1) (fun _ _ => True) (va_A [(h, .inr (14, mL f))] sz)) 0 0 (va_A [(h, .inr (14, mL f))] sz) := by
  refine Met.ofW (cc := cX13_force) (maxL := 3) (ret := (some .int)) (by decide) rfl ?_
  intro p e s m args below meth c s₁ B hml hv
  obtain ⟨rfl, hsz, hP, hK, hD0⟩ := hv
  have hx := B.exec
  have hb := B.bytes
  have hr := B.returns
  have hts := atoms_spec (ws := v_m_force) B.pre
  have hown : s.vm.findClass RX13 = some m.cls := findClass_of_methodNamed B.named
  have hlocks := B.notSynchronized
  subst hsz
  have hD := hD0.self (sz := s.heap.size)
  generalize hAe : va_A [(h, .inr (14, mL f))] s.heap.size = A at hD ⊢
  have hA : ∀ q : Nat, s.heap.size ≤ q → A q := fun q h => by rw [← hAe]; exact Or.inr h
  have hS : va_S A s.heap s.heap [] := va_S.rf
  have hP : va_P (dC, dI) vwCl [(h, .inr (14, mL f))] s.heap := hP
  have hl := lv_entry ([.ref h, .int a0, .int a1]) (n := 3) (Nat.le_of_ble_eq_true rfl)
  rw [lg_entry_eq]
  generalize (lg_sl ([.ref h, .int a0, .int a1]) ++ List.replicate (3 - (lg_sl ([.ref h, .int a0, .int a1])).length) Slot.unset).toArray = ls at hl ⊢
  have hl : lv_has ls 3 [(0, .ref h), (1, .int a0), (2, .int a1)] := hl
  refine lv_aload_n hx hb dX13_force_0 rfl (lv_at hl 0 rfl) ?_
  refine lv_iconst (v := 0) hx hb dX13_force_1 (by decide) ?_
  refine va_put (D := (dC, dI)) (ci := 14) (v := .int 0) (ty := .int) (C := RX13) (T := TX13) (N := 97) hx hb hts iw_m_force_X13 tyX13 tyX13_ok nmX13 hown hK hP hD hS 0 rfl rfl 0 (by decide) (hts (.fieldLink RX13 228 "UnlikeBoatsModel" "thrown" "I") (List.mem_of_getElem? (i := 1) rfl)) (fun _ h9 => h9) rfl (by decide +kernel) rfl rfl (mL_lt (Nat.le_of_ble_eq_true rfl)) dX13_force_2 (fun H locs hP hD hS => ?_)
  have hP : va_P (dC, dI) vwCl [(h, .inr (14, (mL f).set 0 (.int 0)))] H := hP
  have hD : va_D A [(h, .inr (14, (mL f).set 0 (.int 0)))] := hD
  rw [mL_same hf_thrown] at hP hD
  refine lv_iload_n hx hb dX13_force_5 rfl (lv_at hl 1 rfl) ?_
  refine va_calli (va_runS (As := [.int a0]) (rest := []) ⟨hx, hb, hml, hown, hts⟩ (m_isDay l a0) (va_cwS 1 hts g_m_force_m_isDay_249 rfl rfl rfl (by decide +kernel) ⟨Nat.le_of_ble_eq_true rfl, Nat.le_of_ble_eq_true rfl⟩) ⟨fun _ _ _ _ q => q, fun _ _ _ => ⟨rfl, trivial⟩⟩ rfl rfl hl.1 rfl (lv_room (Nat.le_of_ble_eq_true rfl)) dX13_force_6 ⟨Nat.le_of_ble_eq_true rfl, Nat.le_of_ble_eq_true rfl⟩) hS (fun _ _ h => h.elim) (fun _ h => h.elim) (fun r1 u2 t H1 locs ht hvm hw hB hz1 hk1 hS => ?_)
  have hP := ub_keep hP hk1
  generalize H1 = H at hP hS ⊢
  rcases hw with ⟨rfl, hw1, hw2⟩ | ⟨rfl, hw1⟩
  · --in
    have d3a := hw1
    have d3b := hw2
    refine lv_if_eq (tgt := 29) hx hb dX13_force_9 (by decide) (fun c4 => by first | exact absurd c4 (by decide) | exact absurd (by decide) c4) (fun c4 => ?_)
    refine lv_aload_n hx hb dX13_force_12 rfl (lv_at hl 0 rfl) ?_
    refine lv_iload_n hx hb dX13_force_13 rfl (lv_at hl 2 rfl) ?_
    have hPc := hP.sub (ws' := [(h, .inr (14, mL f))]) [0] rfl
    have hKc := hK.sub (tys' := []) [] rfl
    refine va_calli (va_runV (As := [.int a1]) (rest := []) ⟨hx, hb, hml, hown, hts⟩ (m_isKnown l dC dI h f a1 hf_now) (cwV 1 hts g_m_force_m_isKnown_252 rfl rfl rfl (by decide +kernel) ⟨Nat.le_of_ble_eq_true rfl, Nat.le_of_ble_eq_true rfl⟩) ⟨fun a U g mk q => by obtain ⟨e0, qP, qK⟩ := q; exact ⟨e0, qP, va_K.moved (u := U) (U := U.calling g mk a) (Vm.Alike.refl U.vm) qK⟩, va_recv hK hP (ci := 14) (q0 := 0) rfl rfl, fun U hU hW => ⟨rfl, by rw [hU]; exact hPc, va_K.moved hW.alike hKc⟩⟩ rfl rfl hl.1 rfl (lv_room (Nat.le_of_ble_eq_true rfl)) dX13_force_14 ⟨Nat.le_of_ble_eq_true rfl, Nat.le_of_ble_eq_true rfl⟩) hS (fun _ _ h => h.elim) (fun _ h => h.elim) (fun r5 u6 t H1 locs ht hvm hw hB hz1 hk1 hS => ?_)
    have hP := ub_keep hP hk1
    generalize H1 = H at hP hS ⊢
    rcases hw with ⟨rfl, hw1, hw2⟩ | ⟨rfl, hw1⟩
    · --in
      have d7a := hw1
      have d7b := hw2
      refine lv_if_eq (tgt := 29) hx hb dX13_force_17 (by decide) (fun c8 => by first | exact absurd c8 (by decide) | exact absurd (by decide) c8) (fun c8 => ?_)
      refine lv_aload_n hx hb dX13_force_20 rfl (lv_at hl 0 rfl) ?_
      refine lv_iload_n hx hb dX13_force_21 rfl (lv_at hl 1 rfl) ?_
      refine lv_iload_n hx hb dX13_force_22 rfl (lv_at hl 2 rfl) ?_
      have hPc := hP.sub (ws' := [(h, .inr (14, mL f))]) [0] rfl
      have hKc := hK.sub (tys' := []) [] rfl
      refine va_calli (va_runV (As := [.int a0, .int a1]) (rest := []) ⟨hx, hb, hml, hown, hts⟩ (m_rulesOn l dC dI h f a0 a1 hf_rules) (cwV 2 hts g_m_force_m_rulesOn_373 rfl rfl rfl (by decide +kernel) ⟨Nat.le_of_ble_eq_true rfl, Nat.le_of_ble_eq_true rfl⟩) ⟨fun a U g mk q => by obtain ⟨e0, qP, qK⟩ := q; exact ⟨e0, qP, va_K.moved (u := U) (U := U.calling g mk a) (Vm.Alike.refl U.vm) qK⟩, va_recv hK hP (ci := 14) (q0 := 0) rfl rfl, fun U hU hW => ⟨rfl, by rw [hU]; exact hPc, va_K.moved hW.alike hKc⟩⟩ rfl rfl hl.1 rfl (lv_room (Nat.le_of_ble_eq_true rfl)) dX13_force_23 ⟨Nat.le_of_ble_eq_true rfl, Nat.le_of_ble_eq_true rfl⟩) hS (fun _ _ h => h.elim) (fun _ h => h.elim) (fun r9 u10 t H1 locs ht hvm hw hB hz1 hk1 hS => ?_)
      have hP := ub_keep hP hk1
      generalize H1 = H at hP hS ⊢
      obtain rfl : (-1 : Int32) = r9 := hw.symm
      refine lv_goto (tgt := 30) hx hb dX13_force_26 (by decide) ?_
      exact W.iret (v := (-1)) hx hb hr (fun t ht hW => ⟨⟨(-1), (), rfl, rfl, trivial⟩, hS.F ht⟩) hS.2.2 dX13_force_30
    · --out
      have d11 := hw1
      refine lv_if_eq (tgt := 29) hx hb dX13_force_17 (by decide) (fun c12 => ?_) (fun c12 => by first | exact absurd c12 (by decide) | exact absurd (by decide) c12)
      refine lv_iconst (v := -1) hx hb dX13_force_29 (by decide) ?_
      exact W.iret (v := (-1)) hx hb hr (fun t ht hW => ⟨⟨(-1), (), rfl, rfl, trivial⟩, hS.F ht⟩) hS.2.2 dX13_force_30
  · --out
    have d13 := hw1
    refine lv_if_eq (tgt := 29) hx hb dX13_force_9 (by decide) (fun c14 => ?_) (fun c14 => by first | exact absurd c14 (by decide) | exact absurd (by decide) c14)
    refine lv_iconst (v := -1) hx hb dX13_force_29 (by decide) ?_
    exact W.iret (v := (-1)) hx hb hr (fun t ht hW => ⟨⟨(-1), (), rfl, rfl, trivial⟩, hS.F ht⟩) hS.2.2 dX13_force_30
def A_m_number : List Cond := [.fieldLink RX13 228 "UnlikeBoatsModel" "thrown" "I", .methodLink RX13 245 yX13_isBoat, .instanceMethod yX13_isBoat, .selects RX13 yX13_isBoat yX13_isBoat, .initialized RX13, .code yX13_isBoat cX13_isBoat 2 (some .boolean), .fieldLink RX13 239 "UnlikeBoatsModel" "boats" "I"]
def v_m_number : List Cond := .code yX13_number cX13_number 4 (some .int) :: (A_m_number ++ wsX130)
theorem iw_m_number_X13 : ∀ w ∈ wsX130, w ∈ v_m_number := fun _ h => List.mem_cons_of_mem _ (List.mem_append_right _ (h))
theorem gb_m_number_m_isBoat0 : GoodIn v_m_number (.code yX13_isBoat cX13_isBoat 2 (some .boolean) :: A_m_isBoat) := (List.forall_mem_cons.mpr ⟨⟨List.mem_of_getElem? (i := 6) rfl, good_of_word rfl⟩, (List.forall_mem_cons.mpr ⟨⟨List.mem_of_getElem? (i := 7) rfl, good_of_word rfl⟩, (fun _ h => nomatch h)⟩)⟩)
theorem gb_m_number_m_isBoat : GoodIn v_m_number v_m_isBoat := (goodIn_ca gb_m_number_m_isBoat0 (goodIn_sub iw_m_number_X13 gw_X13))
theorem g_m_number_m_isBoat_245 : GoodIn v_m_number (wsV RX13 245 RX13 yX13_isBoat v_m_isBoat) := goodIn_app (List.forall_mem_cons.mpr ⟨⟨List.mem_of_getElem? (i := 2) rfl, good_of_word rfl⟩, (List.forall_mem_cons.mpr ⟨⟨List.mem_of_getElem? (i := 3) rfl, good_of_word rfl⟩, (List.forall_mem_cons.mpr ⟨⟨List.mem_of_getElem? (i := 4) rfl, good_of_word rfl⟩, (List.forall_mem_cons.mpr ⟨⟨List.mem_of_getElem? (i := 5) rfl, good_of_word rfl⟩, (fun _ h => nomatch h)⟩)⟩)⟩)⟩) gb_m_number_m_isBoat
set_option maxHeartbeats 4000000 in
set_option maxRecDepth 100000 in
theorem m_number (l : Launch) (dC : Nat → ClassId) (dI : Nat → Nat → Nat) (h : Nat) (f : Nat → Value) (a0 : Int32) (a1 : Int32) (a2 : Int32) (sz : Nat) (hf_thrown : f 0 = .int 0) (hf_boats : f 8 = .int 0) : Met l yX13_number v_m_number ({ frames := 1, cells := 0, slots := 0, locals := 40 }) (va_Pc [.ref h, .int a0, .int a1, .int a2] (fun U => U.heap.size = sz ∧ va_P (dC, dI) vwCl [(h, .inr (14, mL f))] U.heap ∧ va_K (dC, dI) vwCl [] U ∧ va_D (fun _ => True) [(h, .inr (14, mL f))])) (va_Qi (S := Unit) (fun r _ => r = -1) (fun _ _ => True) (va_A [(h, .inr (14, mL f))] sz)) 0 0 (va_A [(h, .inr (14, mL f))] sz) := by
  refine Met.ofW (cc := cX13_number) (maxL := 4) (ret := (some .int)) (by decide) rfl ?_
  intro p e s m args below meth c s₁ B hml hv
  obtain ⟨rfl, hsz, hP, hK, hD0⟩ := hv
  have hx := B.exec
  have hb := B.bytes
  have hr := B.returns
  have hts := atoms_spec (ws := v_m_number) B.pre
  have hown : s.vm.findClass RX13 = some m.cls := findClass_of_methodNamed B.named
  have hlocks := B.notSynchronized
  subst hsz
  have hD := hD0.self (sz := s.heap.size)
  generalize hAe : va_A [(h, .inr (14, mL f))] s.heap.size = A at hD ⊢
  have hA : ∀ q : Nat, s.heap.size ≤ q → A q := fun q h => by rw [← hAe]; exact Or.inr h
  have hS : va_S A s.heap s.heap [] := va_S.rf
  have hP : va_P (dC, dI) vwCl [(h, .inr (14, mL f))] s.heap := hP
  have hl := lv_entry ([.ref h, .int a0, .int a1, .int a2]) (n := 4) (Nat.le_of_ble_eq_true rfl)
  rw [lg_entry_eq]
  generalize (lg_sl ([.ref h, .int a0, .int a1, .int a2]) ++ List.replicate (4 - (lg_sl ([.ref h, .int a0, .int a1, .int a2])).length) Slot.unset).toArray = ls at hl ⊢
  have hl : lv_has ls 4 [(0, .ref h), (1, .int a0), (2, .int a1), (3, .int a2)] := hl
  refine lv_aload_n hx hb dX13_number_0 rfl (lv_at hl 0 rfl) ?_
  refine lv_iconst (v := 0) hx hb dX13_number_1 (by decide) ?_
  refine va_put (D := (dC, dI)) (ci := 14) (v := .int 0) (ty := .int) (C := RX13) (T := TX13) (N := 97) hx hb hts iw_m_number_X13 tyX13 tyX13_ok nmX13 hown hK hP hD hS 0 rfl rfl 0 (by decide) (hts (.fieldLink RX13 228 "UnlikeBoatsModel" "thrown" "I") (List.mem_of_getElem? (i := 1) rfl)) (fun _ h9 => h9) rfl (by decide +kernel) rfl rfl (mL_lt (Nat.le_of_ble_eq_true rfl)) dX13_number_2 (fun H locs hP hD hS => ?_)
  have hP : va_P (dC, dI) vwCl [(h, .inr (14, (mL f).set 0 (.int 0)))] H := hP
  have hD : va_D A [(h, .inr (14, (mL f).set 0 (.int 0)))] := hD
  rw [mL_same hf_thrown] at hP hD
  refine lv_aload_n hx hb dX13_number_5 rfl (lv_at hl 0 rfl) ?_
  refine lv_iload_n hx hb dX13_number_6 rfl (lv_at hl 1 rfl) ?_
  have hPc := hP.sub (ws' := [(h, .inr (14, mL f))]) [0] rfl
  have hKc := hK.sub (tys' := []) [] rfl
  refine va_calli (va_runV (As := [.int a0]) (rest := []) ⟨hx, hb, hml, hown, hts⟩ (m_isBoat l dC dI h f a0 hf_boats) (cwV 1 hts g_m_number_m_isBoat_245 rfl rfl rfl (by decide +kernel) ⟨Nat.le_of_ble_eq_true rfl, Nat.le_of_ble_eq_true rfl⟩) ⟨fun a U g mk q => by obtain ⟨e0, qP, qK⟩ := q; exact ⟨e0, qP, va_K.moved (u := U) (U := U.calling g mk a) (Vm.Alike.refl U.vm) qK⟩, va_recv hK hP (ci := 14) (q0 := 0) rfl rfl, fun U hU hW => ⟨rfl, by rw [hU]; exact hPc, va_K.moved hW.alike hKc⟩⟩ rfl rfl hl.1 rfl (lv_room (Nat.le_of_ble_eq_true rfl)) dX13_number_7 ⟨Nat.le_of_ble_eq_true rfl, Nat.le_of_ble_eq_true rfl⟩) hS (fun _ _ h => h.elim) (fun _ h => h.elim) (fun r1 u2 t H1 locs ht hvm hw hB hz1 hk1 hS => ?_)
  have hP := ub_keep hP hk1
  generalize H1 = H at hP hS ⊢
  obtain rfl : (0 : Int32) = r1 := hw.symm
  refine lv_if_eq (tgt := 38) hx hb dX13_number_10 (by decide) (fun c3 => ?_) (fun c3 => by first | exact absurd c3 (by decide) | exact absurd (by decide) c3)
  refine lv_iconst (v := -1) hx hb dX13_number_38 (by decide) ?_
  exact W.iret (v := (-1)) hx hb hr (fun t ht hW => ⟨⟨(-1), (), rfl, rfl, trivial⟩, hS.F ht⟩) hS.2.2 dX13_number_39
def A_m_swift : List Cond := [.fieldLink RX13 228 "UnlikeBoatsModel" "thrown" "I", .methodLink RX13 393 yX13_isRace, .instanceMethod yX13_isRace, .selects RX13 yX13_isRace yX13_isRace, .initialized RX13, .code yX13_isRace cX13_isRace 2 (some .boolean), .fieldLink RX13 390 "UnlikeBoatsModel" "races" "I"]
def v_m_swift : List Cond := .code yX13_swift cX13_swift 3 (some .boolean) :: (A_m_swift ++ wsX130)
theorem iw_m_swift_X13 : ∀ w ∈ wsX130, w ∈ v_m_swift := fun _ h => List.mem_cons_of_mem _ (List.mem_append_right _ (h))
theorem gb_m_swift_m_isRace0 : GoodIn v_m_swift (.code yX13_isRace cX13_isRace 2 (some .boolean) :: A_m_isRace) := (List.forall_mem_cons.mpr ⟨⟨List.mem_of_getElem? (i := 6) rfl, good_of_word rfl⟩, (List.forall_mem_cons.mpr ⟨⟨List.mem_of_getElem? (i := 7) rfl, good_of_word rfl⟩, (fun _ h => nomatch h)⟩)⟩)
theorem gb_m_swift_m_isRace : GoodIn v_m_swift v_m_isRace := (goodIn_ca gb_m_swift_m_isRace0 (goodIn_sub iw_m_swift_X13 gw_X13))
theorem g_m_swift_m_isRace_393 : GoodIn v_m_swift (wsV RX13 393 RX13 yX13_isRace v_m_isRace) := goodIn_app (List.forall_mem_cons.mpr ⟨⟨List.mem_of_getElem? (i := 2) rfl, good_of_word rfl⟩, (List.forall_mem_cons.mpr ⟨⟨List.mem_of_getElem? (i := 3) rfl, good_of_word rfl⟩, (List.forall_mem_cons.mpr ⟨⟨List.mem_of_getElem? (i := 4) rfl, good_of_word rfl⟩, (List.forall_mem_cons.mpr ⟨⟨List.mem_of_getElem? (i := 5) rfl, good_of_word rfl⟩, (fun _ h => nomatch h)⟩)⟩)⟩)⟩) gb_m_swift_m_isRace
set_option maxHeartbeats 4000000 in
set_option maxRecDepth 100000 in
theorem m_swift (l : Launch) (dC : Nat → ClassId) (dI : Nat → Nat → Nat) (h : Nat) (f : Nat → Value) (a0 : Int32) (a1 : Int32) (sz : Nat) (hf_thrown : f 0 = .int 0) (hf_races : f 46 = .int 0) : Met l yX13_swift v_m_swift ({ frames := 1, cells := 0, slots := 0, locals := 40 }) (va_Pc [.ref h, .int a0, .int a1] (fun U => U.heap.size = sz ∧ va_P (dC, dI) vwCl [(h, .inr (14, mL f))] U.heap ∧ va_K (dC, dI) vwCl [] U ∧ va_D (fun _ => True) [(h, .inr (14, mL f))])) (va_Qi (S := Unit) (fun r _ => r = 0) (fun _ _ => True) (va_A [(h, .inr (14, mL f))] sz)) 0 0 (va_A [(h, .inr (14, mL f))] sz) := by
  refine Met.ofW (cc := cX13_swift) (maxL := 3) (ret := (some .boolean)) (by decide) rfl ?_
  intro p e s m args below meth c s₁ B hml hv
  obtain ⟨rfl, hsz, hP, hK, hD0⟩ := hv
  have hx := B.exec
  have hb := B.bytes
  have hr := B.returns
  have hts := atoms_spec (ws := v_m_swift) B.pre
  have hown : s.vm.findClass RX13 = some m.cls := findClass_of_methodNamed B.named
  have hlocks := B.notSynchronized
  subst hsz
  have hD := hD0.self (sz := s.heap.size)
  generalize hAe : va_A [(h, .inr (14, mL f))] s.heap.size = A at hD ⊢
  have hA : ∀ q : Nat, s.heap.size ≤ q → A q := fun q h => by rw [← hAe]; exact Or.inr h
  have hS : va_S A s.heap s.heap [] := va_S.rf
  have hP : va_P (dC, dI) vwCl [(h, .inr (14, mL f))] s.heap := hP
  have hl := lv_entry ([.ref h, .int a0, .int a1]) (n := 3) (Nat.le_of_ble_eq_true rfl)
  rw [lg_entry_eq]
  generalize (lg_sl ([.ref h, .int a0, .int a1]) ++ List.replicate (3 - (lg_sl ([.ref h, .int a0, .int a1])).length) Slot.unset).toArray = ls at hl ⊢
  have hl : lv_has ls 3 [(0, .ref h), (1, .int a0), (2, .int a1)] := hl
  refine lv_aload_n hx hb dX13_swift_0 rfl (lv_at hl 0 rfl) ?_
  refine lv_iconst (v := 0) hx hb dX13_swift_1 (by decide) ?_
  refine va_put (D := (dC, dI)) (ci := 14) (v := .int 0) (ty := .int) (C := RX13) (T := TX13) (N := 97) hx hb hts iw_m_swift_X13 tyX13 tyX13_ok nmX13 hown hK hP hD hS 0 rfl rfl 0 (by decide) (hts (.fieldLink RX13 228 "UnlikeBoatsModel" "thrown" "I") (List.mem_of_getElem? (i := 1) rfl)) (fun _ h9 => h9) rfl (by decide +kernel) rfl rfl (mL_lt (Nat.le_of_ble_eq_true rfl)) dX13_swift_2 (fun H locs hP hD hS => ?_)
  have hP : va_P (dC, dI) vwCl [(h, .inr (14, (mL f).set 0 (.int 0)))] H := hP
  have hD : va_D A [(h, .inr (14, (mL f).set 0 (.int 0)))] := hD
  rw [mL_same hf_thrown] at hP hD
  refine lv_aload_n hx hb dX13_swift_5 rfl (lv_at hl 0 rfl) ?_
  refine lv_iload_n hx hb dX13_swift_6 rfl (lv_at hl 1 rfl) ?_
  have hPc := hP.sub (ws' := [(h, .inr (14, mL f))]) [0] rfl
  have hKc := hK.sub (tys' := []) [] rfl
  refine va_calli (va_runV (As := [.int a0]) (rest := []) ⟨hx, hb, hml, hown, hts⟩ (m_isRace l dC dI h f a0 hf_races) (cwV 1 hts g_m_swift_m_isRace_393 rfl rfl rfl (by decide +kernel) ⟨Nat.le_of_ble_eq_true rfl, Nat.le_of_ble_eq_true rfl⟩) ⟨fun a U g mk q => by obtain ⟨e0, qP, qK⟩ := q; exact ⟨e0, qP, va_K.moved (u := U) (U := U.calling g mk a) (Vm.Alike.refl U.vm) qK⟩, va_recv hK hP (ci := 14) (q0 := 0) rfl rfl, fun U hU hW => ⟨rfl, by rw [hU]; exact hPc, va_K.moved hW.alike hKc⟩⟩ rfl rfl hl.1 rfl (lv_room (Nat.le_of_ble_eq_true rfl)) dX13_swift_7 ⟨Nat.le_of_ble_eq_true rfl, Nat.le_of_ble_eq_true rfl⟩) hS (fun _ _ h => h.elim) (fun _ h => h.elim) (fun r1 u2 t H1 locs ht hvm hw hB hz1 hk1 hS => ?_)
  have hP := ub_keep hP hk1
  generalize H1 = H at hP hS ⊢
  obtain rfl : (0 : Int32) = r1 := hw.symm
  refine lv_if_eq (tgt := 23) hx hb dX13_swift_10 (by decide) (fun c3 => ?_) (fun c3 => by first | exact absurd c3 (by decide) | exact absurd (by decide) c3)
  refine lv_iconst (v := 0) hx hb dX13_swift_23 (by decide) ?_
  exact W.zret (v := (0)) hx hb hr rfl (fun t ht hW => ⟨⟨(0), (), rfl, rfl, trivial⟩, hS.F ht⟩) hS.2.2 dX13_swift_24
def A_m_enter : List Cond := [.fieldLink RX13 228 "UnlikeBoatsModel" "thrown" "I", .methodLink RX13 393 yX13_isRace, .instanceMethod yX13_isRace, .selects RX13 yX13_isRace yX13_isRace, .initialized RX13, .code yX13_isRace cX13_isRace 2 (some .boolean), .fieldLink RX13 390 "UnlikeBoatsModel" "races" "I"]
def v_m_enter : List Cond := .code yX13_enter cX13_enter 3 (some .boolean) :: (A_m_enter ++ wsX130)
theorem iw_m_enter_X13 : ∀ w ∈ wsX130, w ∈ v_m_enter := fun _ h => List.mem_cons_of_mem _ (List.mem_append_right _ (h))
theorem gb_m_enter_m_isRace0 : GoodIn v_m_enter (.code yX13_isRace cX13_isRace 2 (some .boolean) :: A_m_isRace) := (List.forall_mem_cons.mpr ⟨⟨List.mem_of_getElem? (i := 6) rfl, good_of_word rfl⟩, (List.forall_mem_cons.mpr ⟨⟨List.mem_of_getElem? (i := 7) rfl, good_of_word rfl⟩, (fun _ h => nomatch h)⟩)⟩)
theorem gb_m_enter_m_isRace : GoodIn v_m_enter v_m_isRace := (goodIn_ca gb_m_enter_m_isRace0 (goodIn_sub iw_m_enter_X13 gw_X13))
theorem g_m_enter_m_isRace_393 : GoodIn v_m_enter (wsV RX13 393 RX13 yX13_isRace v_m_isRace) := goodIn_app (List.forall_mem_cons.mpr ⟨⟨List.mem_of_getElem? (i := 2) rfl, good_of_word rfl⟩, (List.forall_mem_cons.mpr ⟨⟨List.mem_of_getElem? (i := 3) rfl, good_of_word rfl⟩, (List.forall_mem_cons.mpr ⟨⟨List.mem_of_getElem? (i := 4) rfl, good_of_word rfl⟩, (List.forall_mem_cons.mpr ⟨⟨List.mem_of_getElem? (i := 5) rfl, good_of_word rfl⟩, (fun _ h => nomatch h)⟩)⟩)⟩)⟩) gb_m_enter_m_isRace
set_option maxHeartbeats 4000000 in
set_option maxRecDepth 100000 in
theorem m_enter (l : Launch) (dC : Nat → ClassId) (dI : Nat → Nat → Nat) (h : Nat) (f : Nat → Value) (a0 : Int32) (a1 : Int32) (sz : Nat) (hf_thrown : f 0 = .int 0) (hf_races : f 46 = .int 0) : Met l yX13_enter v_m_enter ({ frames := 1, cells := 0, slots := 0, locals := 40 }) (va_Pc [.ref h, .int a0, .int a1] (fun U => U.heap.size = sz ∧ va_P (dC, dI) vwCl [(h, .inr (14, mL f))] U.heap ∧ va_K (dC, dI) vwCl [] U ∧ va_D (fun _ => True) [(h, .inr (14, mL f))])) (va_Qi (S := Unit) (fun r _ => r = 0) (fun _ _ => True) (va_A [(h, .inr (14, mL f))] sz)) 0 0 (va_A [(h, .inr (14, mL f))] sz) := by
  refine Met.ofW (cc := cX13_enter) (maxL := 3) (ret := (some .boolean)) (by decide) rfl ?_
  intro p e s m args below meth c s₁ B hml hv
  obtain ⟨rfl, hsz, hP, hK, hD0⟩ := hv
  have hx := B.exec
  have hb := B.bytes
  have hr := B.returns
  have hts := atoms_spec (ws := v_m_enter) B.pre
  have hown : s.vm.findClass RX13 = some m.cls := findClass_of_methodNamed B.named
  have hlocks := B.notSynchronized
  subst hsz
  have hD := hD0.self (sz := s.heap.size)
  generalize hAe : va_A [(h, .inr (14, mL f))] s.heap.size = A at hD ⊢
  have hA : ∀ q : Nat, s.heap.size ≤ q → A q := fun q h => by rw [← hAe]; exact Or.inr h
  have hS : va_S A s.heap s.heap [] := va_S.rf
  have hP : va_P (dC, dI) vwCl [(h, .inr (14, mL f))] s.heap := hP
  have hl := lv_entry ([.ref h, .int a0, .int a1]) (n := 3) (Nat.le_of_ble_eq_true rfl)
  rw [lg_entry_eq]
  generalize (lg_sl ([.ref h, .int a0, .int a1]) ++ List.replicate (3 - (lg_sl ([.ref h, .int a0, .int a1])).length) Slot.unset).toArray = ls at hl ⊢
  have hl : lv_has ls 3 [(0, .ref h), (1, .int a0), (2, .int a1)] := hl
  refine lv_aload_n hx hb dX13_enter_0 rfl (lv_at hl 0 rfl) ?_
  refine lv_iconst (v := 0) hx hb dX13_enter_1 (by decide) ?_
  refine va_put (D := (dC, dI)) (ci := 14) (v := .int 0) (ty := .int) (C := RX13) (T := TX13) (N := 97) hx hb hts iw_m_enter_X13 tyX13 tyX13_ok nmX13 hown hK hP hD hS 0 rfl rfl 0 (by decide) (hts (.fieldLink RX13 228 "UnlikeBoatsModel" "thrown" "I") (List.mem_of_getElem? (i := 1) rfl)) (fun _ h9 => h9) rfl (by decide +kernel) rfl rfl (mL_lt (Nat.le_of_ble_eq_true rfl)) dX13_enter_2 (fun H locs hP hD hS => ?_)
  have hP : va_P (dC, dI) vwCl [(h, .inr (14, (mL f).set 0 (.int 0)))] H := hP
  have hD : va_D A [(h, .inr (14, (mL f).set 0 (.int 0)))] := hD
  rw [mL_same hf_thrown] at hP hD
  refine lv_aload_n hx hb dX13_enter_5 rfl (lv_at hl 0 rfl) ?_
  refine lv_iload_n hx hb dX13_enter_6 rfl (lv_at hl 1 rfl) ?_
  have hPc := hP.sub (ws' := [(h, .inr (14, mL f))]) [0] rfl
  have hKc := hK.sub (tys' := []) [] rfl
  refine va_calli (va_runV (As := [.int a0]) (rest := []) ⟨hx, hb, hml, hown, hts⟩ (m_isRace l dC dI h f a0 hf_races) (cwV 1 hts g_m_enter_m_isRace_393 rfl rfl rfl (by decide +kernel) ⟨Nat.le_of_ble_eq_true rfl, Nat.le_of_ble_eq_true rfl⟩) ⟨fun a U g mk q => by obtain ⟨e0, qP, qK⟩ := q; exact ⟨e0, qP, va_K.moved (u := U) (U := U.calling g mk a) (Vm.Alike.refl U.vm) qK⟩, va_recv hK hP (ci := 14) (q0 := 0) rfl rfl, fun U hU hW => ⟨rfl, by rw [hU]; exact hPc, va_K.moved hW.alike hKc⟩⟩ rfl rfl hl.1 rfl (lv_room (Nat.le_of_ble_eq_true rfl)) dX13_enter_7 ⟨Nat.le_of_ble_eq_true rfl, Nat.le_of_ble_eq_true rfl⟩) hS (fun _ _ h => h.elim) (fun _ h => h.elim) (fun r1 u2 t H1 locs ht hvm hw hB hz1 hk1 hS => ?_)
  have hP := ub_keep hP hk1
  generalize H1 = H at hP hS ⊢
  obtain rfl : (0 : Int32) = r1 := hw.symm
  refine lv_if_eq (tgt := 34) hx hb dX13_enter_10 (by decide) (fun c3 => ?_) (fun c3 => by first | exact absurd c3 (by decide) | exact absurd (by decide) c3)
  refine lv_iconst (v := 0) hx hb dX13_enter_34 (by decide) ?_
  exact W.zret (v := (0)) hx hb hr rfl (fun t ht hW => ⟨⟨(0), (), rfl, rfl, trivial⟩, hS.F ht⟩) hS.2.2 dX13_enter_35
def A_m_result : List Cond := [.fieldLink RX13 228 "UnlikeBoatsModel" "thrown" "I", .fieldLink RX13 399 "UnlikeBoatsModel" "results" "I", .methodLink RX13 402 yX13_isEntry, .instanceMethod yX13_isEntry, .selects RX13 yX13_isEntry yX13_isEntry, .initialized RX13, .code yX13_isEntry cX13_isEntry 3 (some .boolean), .methodLink RX13 393 yX13_isRace, .instanceMethod yX13_isRace, .selects RX13 yX13_isRace yX13_isRace, .code yX13_isRace cX13_isRace 2 (some .boolean), .fieldLink RX13 390 "UnlikeBoatsModel" "races" "I"]
def v_m_result : List Cond := .code yX13_result cX13_result 5 (some .boolean) :: (A_m_result ++ wsX130)
theorem iw_m_result_X13 : ∀ w ∈ wsX130, w ∈ v_m_result := fun _ h => List.mem_cons_of_mem _ (List.mem_append_right _ (h))
theorem gb_m_result_m_isEntry0 : GoodIn v_m_result (.code yX13_isEntry cX13_isEntry 3 (some .boolean) :: A_m_isEntry) := (List.forall_mem_cons.mpr ⟨⟨List.mem_of_getElem? (i := 7) rfl, good_of_word rfl⟩, (List.forall_mem_cons.mpr ⟨⟨List.mem_of_getElem? (i := 8) rfl, good_of_word rfl⟩, (List.forall_mem_cons.mpr ⟨⟨List.mem_of_getElem? (i := 9) rfl, good_of_word rfl⟩, (List.forall_mem_cons.mpr ⟨⟨List.mem_of_getElem? (i := 10) rfl, good_of_word rfl⟩, (List.forall_mem_cons.mpr ⟨⟨List.mem_of_getElem? (i := 6) rfl, good_of_word rfl⟩, (List.forall_mem_cons.mpr ⟨⟨List.mem_of_getElem? (i := 11) rfl, good_of_word rfl⟩, (List.forall_mem_cons.mpr ⟨⟨List.mem_of_getElem? (i := 12) rfl, good_of_word rfl⟩, (fun _ h => nomatch h)⟩)⟩)⟩)⟩)⟩)⟩)⟩)
theorem gb_m_result_m_isEntry : GoodIn v_m_result v_m_isEntry := (goodIn_ca gb_m_result_m_isEntry0 (goodIn_sub iw_m_result_X13 gw_X13))
theorem g_m_result_m_isEntry_402 : GoodIn v_m_result (wsV RX13 402 RX13 yX13_isEntry v_m_isEntry) := goodIn_app (List.forall_mem_cons.mpr ⟨⟨List.mem_of_getElem? (i := 3) rfl, good_of_word rfl⟩, (List.forall_mem_cons.mpr ⟨⟨List.mem_of_getElem? (i := 4) rfl, good_of_word rfl⟩, (List.forall_mem_cons.mpr ⟨⟨List.mem_of_getElem? (i := 5) rfl, good_of_word rfl⟩, (List.forall_mem_cons.mpr ⟨⟨List.mem_of_getElem? (i := 6) rfl, good_of_word rfl⟩, (fun _ h => nomatch h)⟩)⟩)⟩)⟩) gb_m_result_m_isEntry
set_option maxHeartbeats 4000000 in
set_option maxRecDepth 100000 in
theorem m_result (l : Launch) (dC : Nat → ClassId) (dI : Nat → Nat → Nat) (h : Nat) (f : Nat → Value) (a0 : Int32) (a1 : Int32) (a2 : Int32) (a3 : Int32) (sz : Nat) (hf_thrown : f 0 = .int 0) (hf_results : f 47 = .int 0) (hf_races : f 46 = .int 0) : Met l yX13_result v_m_result ({ frames := 2, cells := 0, slots := 0, locals := 80 }) (va_Pc [.ref h, .int a0, .int a1, .int a2, .int a3] (fun U => U.heap.size = sz ∧ va_P (dC, dI) vwCl [(h, .inr (14, mL f))] U.heap ∧ va_K (dC, dI) vwCl [] U ∧ va_D (fun _ => True) [(h, .inr (14, mL f))])) (va_Qi (S := Unit) (fun r _ => r = 0) (fun _ _ => True) (va_A [(h, .inr (14, mL f))] sz)) 0 0 (va_A [(h, .inr (14, mL f))] sz) := by
  refine Met.ofW (cc := cX13_result) (maxL := 5) (ret := (some .boolean)) (by decide) rfl ?_
  intro p e s m args below meth c s₁ B hml hv
  obtain ⟨rfl, hsz, hP, hK, hD0⟩ := hv
  have hx := B.exec
  have hb := B.bytes
  have hr := B.returns
  have hts := atoms_spec (ws := v_m_result) B.pre
  have hown : s.vm.findClass RX13 = some m.cls := findClass_of_methodNamed B.named
  have hlocks := B.notSynchronized
  subst hsz
  have hD := hD0.self (sz := s.heap.size)
  generalize hAe : va_A [(h, .inr (14, mL f))] s.heap.size = A at hD ⊢
  have hA : ∀ q : Nat, s.heap.size ≤ q → A q := fun q h => by rw [← hAe]; exact Or.inr h
  have hS : va_S A s.heap s.heap [] := va_S.rf
  have hP : va_P (dC, dI) vwCl [(h, .inr (14, mL f))] s.heap := hP
  have hl := lv_entry ([.ref h, .int a0, .int a1, .int a2, .int a3]) (n := 5) (Nat.le_of_ble_eq_true rfl)
  rw [lg_entry_eq]
  generalize (lg_sl ([.ref h, .int a0, .int a1, .int a2, .int a3]) ++ List.replicate (5 - (lg_sl ([.ref h, .int a0, .int a1, .int a2, .int a3])).length) Slot.unset).toArray = ls at hl ⊢
  have hl : lv_has ls 5 [(0, .ref h), (1, .int a0), (2, .int a1), (3, .int a2), (4, .int a3)] := hl
  refine lv_aload_n hx hb dX13_result_0 rfl (lv_at hl 0 rfl) ?_
  refine lv_iconst (v := 0) hx hb dX13_result_1 (by decide) ?_
  refine va_put (D := (dC, dI)) (ci := 14) (v := .int 0) (ty := .int) (C := RX13) (T := TX13) (N := 97) hx hb hts iw_m_result_X13 tyX13 tyX13_ok nmX13 hown hK hP hD hS 0 rfl rfl 0 (by decide) (hts (.fieldLink RX13 228 "UnlikeBoatsModel" "thrown" "I") (List.mem_of_getElem? (i := 1) rfl)) (fun _ h9 => h9) rfl (by decide +kernel) rfl rfl (mL_lt (Nat.le_of_ble_eq_true rfl)) dX13_result_2 (fun H locs hP hD hS => ?_)
  have hP : va_P (dC, dI) vwCl [(h, .inr (14, (mL f).set 0 (.int 0)))] H := hP
  have hD : va_D A [(h, .inr (14, (mL f).set 0 (.int 0)))] := hD
  rw [mL_same hf_thrown] at hP hD
  refine lv_aload_n hx hb dX13_result_5 rfl (lv_at hl 0 rfl) ?_
  refine va_get (D := (dC, dI)) (ci := 14) (v := .int 0) (C := RX13) (T := TX13) (N := 97) hx hb hts iw_m_result_X13 hown hK hP 0 rfl rfl 47 (by decide) (hts (.fieldLink RX13 399 "UnlikeBoatsModel" "results" "I") (List.mem_of_getElem? (i := 2) rfl)) (fun _ h9 => h9) (mL_some (Nat.le_of_ble_eq_true rfl) hf_results) dX13_result_6 ?_
  refine lv_sipush (v := 300) hx hb dX13_result_9 (by decide) ?_
  refine lv_icmp_eq (tgt := 61) hx hb dX13_result_12 (by decide) (fun c1 => by first | exact absurd c1 (by decide) | exact absurd (by decide) c1) (fun c1 => ?_)
  refine lv_aload_n hx hb dX13_result_15 rfl (lv_at hl 0 rfl) ?_
  refine lv_iload_n hx hb dX13_result_16 rfl (lv_at hl 1 rfl) ?_
  refine lv_iload_n hx hb dX13_result_17 rfl (lv_at hl 2 rfl) ?_
  have hPc := hP.sub (ws' := [(h, .inr (14, mL f))]) [0] rfl
  have hKc := hK.sub (tys' := []) [] rfl
  refine va_calli (va_runV (As := [.int a0, .int a1]) (rest := []) ⟨hx, hb, hml, hown, hts⟩ (m_isEntry l dC dI h f a0 a1 hf_races) (cwV 2 hts g_m_result_m_isEntry_402 rfl rfl rfl (by decide +kernel) ⟨Nat.le_of_ble_eq_true rfl, Nat.le_of_ble_eq_true rfl⟩) ⟨fun a U g mk q => by obtain ⟨e0, qP, qK⟩ := q; exact ⟨e0, qP, va_K.moved (u := U) (U := U.calling g mk a) (Vm.Alike.refl U.vm) qK⟩, va_recv hK hP (ci := 14) (q0 := 0) rfl rfl, fun U hU hW => ⟨rfl, by rw [hU]; exact hPc, va_K.moved hW.alike hKc⟩⟩ rfl rfl hl.1 rfl (lv_room (Nat.le_of_ble_eq_true rfl)) dX13_result_18 ⟨Nat.le_of_ble_eq_true rfl, Nat.le_of_ble_eq_true rfl⟩) hS (fun _ _ h => h.elim) (fun _ h => h.elim) (fun r2 u3 t H1 locs ht hvm hw hB hz1 hk1 hS => ?_)
  have hP := ub_keep hP hk1
  generalize H1 = H at hP hS ⊢
  obtain rfl : (0 : Int32) = r2 := hw.symm
  refine lv_if_eq (tgt := 61) hx hb dX13_result_21 (by decide) (fun c4 => ?_) (fun c4 => by first | exact absurd c4 (by decide) | exact absurd (by decide) c4)
  refine lv_iconst (v := 0) hx hb dX13_result_61 (by decide) ?_
  exact W.zret (v := (0)) hx hb hr rfl (fun t ht hW => ⟨⟨(0), (), rfl, rfl, trivial⟩, hS.F ht⟩) hS.2.2 dX13_result_62
def A_m_asks : List Cond := [.fieldLink RX13 228 "UnlikeBoatsModel" "thrown" "I", .methodLink RX13 393 yX13_isRace, .instanceMethod yX13_isRace, .selects RX13 yX13_isRace yX13_isRace, .initialized RX13, .code yX13_isRace cX13_isRace 2 (some .boolean), .fieldLink RX13 390 "UnlikeBoatsModel" "races" "I"]
def v_m_asks : List Cond := .code yX13_asks cX13_asks 4 (some .boolean) :: (A_m_asks ++ wsX130)
theorem iw_m_asks_X13 : ∀ w ∈ wsX130, w ∈ v_m_asks := fun _ h => List.mem_cons_of_mem _ (List.mem_append_right _ (h))
theorem gb_m_asks_m_isRace0 : GoodIn v_m_asks (.code yX13_isRace cX13_isRace 2 (some .boolean) :: A_m_isRace) := (List.forall_mem_cons.mpr ⟨⟨List.mem_of_getElem? (i := 6) rfl, good_of_word rfl⟩, (List.forall_mem_cons.mpr ⟨⟨List.mem_of_getElem? (i := 7) rfl, good_of_word rfl⟩, (fun _ h => nomatch h)⟩)⟩)
theorem gb_m_asks_m_isRace : GoodIn v_m_asks v_m_isRace := (goodIn_ca gb_m_asks_m_isRace0 (goodIn_sub iw_m_asks_X13 gw_X13))
theorem g_m_asks_m_isRace_393 : GoodIn v_m_asks (wsV RX13 393 RX13 yX13_isRace v_m_isRace) := goodIn_app (List.forall_mem_cons.mpr ⟨⟨List.mem_of_getElem? (i := 2) rfl, good_of_word rfl⟩, (List.forall_mem_cons.mpr ⟨⟨List.mem_of_getElem? (i := 3) rfl, good_of_word rfl⟩, (List.forall_mem_cons.mpr ⟨⟨List.mem_of_getElem? (i := 4) rfl, good_of_word rfl⟩, (List.forall_mem_cons.mpr ⟨⟨List.mem_of_getElem? (i := 5) rfl, good_of_word rfl⟩, (fun _ h => nomatch h)⟩)⟩)⟩)⟩) gb_m_asks_m_isRace
set_option maxHeartbeats 4000000 in
set_option maxRecDepth 100000 in
theorem m_asks (l : Launch) (dC : Nat → ClassId) (dI : Nat → Nat → Nat) (h : Nat) (f : Nat → Value) (a0 : Int32) (a1 : Int32) (a2 : Int32) (sz : Nat) (hf_thrown : f 0 = .int 0) (hf_races : f 46 = .int 0) : Met l yX13_asks v_m_asks ({ frames := 1, cells := 0, slots := 0, locals := 40 }) (va_Pc [.ref h, .int a0, .int a1, .int a2] (fun U => U.heap.size = sz ∧ va_P (dC, dI) vwCl [(h, .inr (14, mL f))] U.heap ∧ va_K (dC, dI) vwCl [] U ∧ va_D (fun _ => True) [(h, .inr (14, mL f))])) (va_Qi (S := Unit) (fun r _ => r = 0) (fun _ _ => True) (va_A [(h, .inr (14, mL f))] sz)) 0 0 (va_A [(h, .inr (14, mL f))] sz) := by
  refine Met.ofW (cc := cX13_asks) (maxL := 4) (ret := (some .boolean)) (by decide) rfl ?_
  intro p e s m args below meth c s₁ B hml hv
  obtain ⟨rfl, hsz, hP, hK, hD0⟩ := hv
  have hx := B.exec
  have hb := B.bytes
  have hr := B.returns
  have hts := atoms_spec (ws := v_m_asks) B.pre
  have hown : s.vm.findClass RX13 = some m.cls := findClass_of_methodNamed B.named
  have hlocks := B.notSynchronized
  subst hsz
  have hD := hD0.self (sz := s.heap.size)
  generalize hAe : va_A [(h, .inr (14, mL f))] s.heap.size = A at hD ⊢
  have hA : ∀ q : Nat, s.heap.size ≤ q → A q := fun q h => by rw [← hAe]; exact Or.inr h
  have hS : va_S A s.heap s.heap [] := va_S.rf
  have hP : va_P (dC, dI) vwCl [(h, .inr (14, mL f))] s.heap := hP
  have hl := lv_entry ([.ref h, .int a0, .int a1, .int a2]) (n := 4) (Nat.le_of_ble_eq_true rfl)
  rw [lg_entry_eq]
  generalize (lg_sl ([.ref h, .int a0, .int a1, .int a2]) ++ List.replicate (4 - (lg_sl ([.ref h, .int a0, .int a1, .int a2])).length) Slot.unset).toArray = ls at hl ⊢
  have hl : lv_has ls 4 [(0, .ref h), (1, .int a0), (2, .int a1), (3, .int a2)] := hl
  refine lv_aload_n hx hb dX13_asks_0 rfl (lv_at hl 0 rfl) ?_
  refine lv_iconst (v := 0) hx hb dX13_asks_1 (by decide) ?_
  refine va_put (D := (dC, dI)) (ci := 14) (v := .int 0) (ty := .int) (C := RX13) (T := TX13) (N := 97) hx hb hts iw_m_asks_X13 tyX13 tyX13_ok nmX13 hown hK hP hD hS 0 rfl rfl 0 (by decide) (hts (.fieldLink RX13 228 "UnlikeBoatsModel" "thrown" "I") (List.mem_of_getElem? (i := 1) rfl)) (fun _ h9 => h9) rfl (by decide +kernel) rfl rfl (mL_lt (Nat.le_of_ble_eq_true rfl)) dX13_asks_2 (fun H locs hP hD hS => ?_)
  have hP : va_P (dC, dI) vwCl [(h, .inr (14, (mL f).set 0 (.int 0)))] H := hP
  have hD : va_D A [(h, .inr (14, (mL f).set 0 (.int 0)))] := hD
  rw [mL_same hf_thrown] at hP hD
  refine lv_aload_n hx hb dX13_asks_5 rfl (lv_at hl 0 rfl) ?_
  refine lv_iload_n hx hb dX13_asks_6 rfl (lv_at hl 1 rfl) ?_
  have hPc := hP.sub (ws' := [(h, .inr (14, mL f))]) [0] rfl
  have hKc := hK.sub (tys' := []) [] rfl
  refine va_calli (va_runV (As := [.int a0]) (rest := []) ⟨hx, hb, hml, hown, hts⟩ (m_isRace l dC dI h f a0 hf_races) (cwV 1 hts g_m_asks_m_isRace_393 rfl rfl rfl (by decide +kernel) ⟨Nat.le_of_ble_eq_true rfl, Nat.le_of_ble_eq_true rfl⟩) ⟨fun a U g mk q => by obtain ⟨e0, qP, qK⟩ := q; exact ⟨e0, qP, va_K.moved (u := U) (U := U.calling g mk a) (Vm.Alike.refl U.vm) qK⟩, va_recv hK hP (ci := 14) (q0 := 0) rfl rfl, fun U hU hW => ⟨rfl, by rw [hU]; exact hPc, va_K.moved hW.alike hKc⟩⟩ rfl rfl hl.1 rfl (lv_room (Nat.le_of_ble_eq_true rfl)) dX13_asks_7 ⟨Nat.le_of_ble_eq_true rfl, Nat.le_of_ble_eq_true rfl⟩) hS (fun _ _ h => h.elim) (fun _ h => h.elim) (fun r1 u2 t H1 locs ht hvm hw hB hz1 hk1 hS => ?_)
  have hP := ub_keep hP hk1
  generalize H1 = H at hP hS ⊢
  obtain rfl : (0 : Int32) = r1 := hw.symm
  refine lv_if_eq (tgt := 43) hx hb dX13_asks_10 (by decide) (fun c3 => ?_) (fun c3 => by first | exact absurd c3 (by decide) | exact absurd (by decide) c3)
  refine lv_iconst (v := 0) hx hb dX13_asks_43 (by decide) ?_
  exact W.zret (v := (0)) hx hb hr rfl (fun t ht hW => ⟨⟨(0), (), rfl, rfl, trivial⟩, hS.F ht⟩) hS.2.2 dX13_asks_44
def A_m_asksEntry : List Cond := [.methodLink RX13 413 yX13_asks, .instanceMethod yX13_asks, .selects RX13 yX13_asks yX13_asks, .initialized RX13, .code yX13_asks cX13_asks 4 (some .boolean), .fieldLink RX13 228 "UnlikeBoatsModel" "thrown" "I", .methodLink RX13 393 yX13_isRace, .instanceMethod yX13_isRace, .selects RX13 yX13_isRace yX13_isRace, .code yX13_isRace cX13_isRace 2 (some .boolean), .fieldLink RX13 390 "UnlikeBoatsModel" "races" "I"]
def v_m_asksEntry : List Cond := .code yX13_asksEntry cX13_asksEntry 4 (some .boolean) :: (A_m_asksEntry ++ wsX130)
theorem iw_m_asksEntry_X13 : ∀ w ∈ wsX130, w ∈ v_m_asksEntry := fun _ h => List.mem_cons_of_mem _ (List.mem_append_right _ (h))
theorem gb_m_asksEntry_m_asks0 : GoodIn v_m_asksEntry (.code yX13_asks cX13_asks 4 (some .boolean) :: A_m_asks) := (List.forall_mem_cons.mpr ⟨⟨List.mem_of_getElem? (i := 5) rfl, good_of_word rfl⟩, (List.forall_mem_cons.mpr ⟨⟨List.mem_of_getElem? (i := 6) rfl, good_of_word rfl⟩, (List.forall_mem_cons.mpr ⟨⟨List.mem_of_getElem? (i := 7) rfl, good_of_word rfl⟩, (List.forall_mem_cons.mpr ⟨⟨List.mem_of_getElem? (i := 8) rfl, good_of_word rfl⟩, (List.forall_mem_cons.mpr ⟨⟨List.mem_of_getElem? (i := 9) rfl, good_of_word rfl⟩, (List.forall_mem_cons.mpr ⟨⟨List.mem_of_getElem? (i := 4) rfl, good_of_word rfl⟩, (List.forall_mem_cons.mpr ⟨⟨List.mem_of_getElem? (i := 10) rfl, good_of_word rfl⟩, (List.forall_mem_cons.mpr ⟨⟨List.mem_of_getElem? (i := 11) rfl, good_of_word rfl⟩, (fun _ h => nomatch h)⟩)⟩)⟩)⟩)⟩)⟩)⟩)⟩)
theorem gb_m_asksEntry_m_asks : GoodIn v_m_asksEntry v_m_asks := (goodIn_ca gb_m_asksEntry_m_asks0 (goodIn_sub iw_m_asksEntry_X13 gw_X13))
theorem g_m_asksEntry_m_asks_413 : GoodIn v_m_asksEntry (wsV RX13 413 RX13 yX13_asks v_m_asks) := goodIn_app (List.forall_mem_cons.mpr ⟨⟨List.mem_of_getElem? (i := 1) rfl, good_of_word rfl⟩, (List.forall_mem_cons.mpr ⟨⟨List.mem_of_getElem? (i := 2) rfl, good_of_word rfl⟩, (List.forall_mem_cons.mpr ⟨⟨List.mem_of_getElem? (i := 3) rfl, good_of_word rfl⟩, (List.forall_mem_cons.mpr ⟨⟨List.mem_of_getElem? (i := 4) rfl, good_of_word rfl⟩, (fun _ h => nomatch h)⟩)⟩)⟩)⟩) gb_m_asksEntry_m_asks
set_option maxHeartbeats 4000000 in
set_option maxRecDepth 100000 in
theorem m_asksEntry (l : Launch) (dC : Nat → ClassId) (dI : Nat → Nat → Nat) (h : Nat) (f : Nat → Value) (a0 : Int32) (a1 : Int32) (a2 : Int32) (sz : Nat) (hf_thrown : f 0 = .int 0) (hf_races : f 46 = .int 0) : Met l yX13_asksEntry v_m_asksEntry ({ frames := 2, cells := 0, slots := 0, locals := 80 }) (va_Pc [.ref h, .int a0, .int a1, .int a2] (fun U => U.heap.size = sz ∧ va_P (dC, dI) vwCl [(h, .inr (14, mL f))] U.heap ∧ va_K (dC, dI) vwCl [] U ∧ va_D (fun _ => True) [(h, .inr (14, mL f))])) (va_Qi (S := Unit) (fun r _ => r = 0) (fun _ _ => True) (va_A [(h, .inr (14, mL f))] sz)) 0 0 (va_A [(h, .inr (14, mL f))] sz) := by
  refine Met.ofW (cc := cX13_asksEntry) (maxL := 4) (ret := (some .boolean)) (by decide) rfl ?_
  intro p e s m args below meth c s₁ B hml hv
  obtain ⟨rfl, hsz, hP, hK, hD0⟩ := hv
  have hx := B.exec
  have hb := B.bytes
  have hr := B.returns
  have hts := atoms_spec (ws := v_m_asksEntry) B.pre
  have hown : s.vm.findClass RX13 = some m.cls := findClass_of_methodNamed B.named
  have hlocks := B.notSynchronized
  subst hsz
  have hD := hD0.self (sz := s.heap.size)
  generalize hAe : va_A [(h, .inr (14, mL f))] s.heap.size = A at hD ⊢
  have hA : ∀ q : Nat, s.heap.size ≤ q → A q := fun q h => by rw [← hAe]; exact Or.inr h
  have hS : va_S A s.heap s.heap [] := va_S.rf
  have hP : va_P (dC, dI) vwCl [(h, .inr (14, mL f))] s.heap := hP
  have hl := lv_entry ([.ref h, .int a0, .int a1, .int a2]) (n := 4) (Nat.le_of_ble_eq_true rfl)
  rw [lg_entry_eq]
  generalize (lg_sl ([.ref h, .int a0, .int a1, .int a2]) ++ List.replicate (4 - (lg_sl ([.ref h, .int a0, .int a1, .int a2])).length) Slot.unset).toArray = ls at hl ⊢
  have hl : lv_has ls 4 [(0, .ref h), (1, .int a0), (2, .int a1), (3, .int a2)] := hl
  refine lv_aload_n hx hb dX13_asksEntry_0 rfl (lv_at hl 0 rfl) ?_
  refine lv_iload_n hx hb dX13_asksEntry_1 rfl (lv_at hl 1 rfl) ?_
  refine lv_iload_n hx hb dX13_asksEntry_2 rfl (lv_at hl 2 rfl) ?_
  refine lv_iload_n hx hb dX13_asksEntry_3 rfl (lv_at hl 3 rfl) ?_
  have hPc := hP.sub (ws' := [(h, .inr (14, mL f))]) [0] rfl
  have hKc := hK.sub (tys' := []) [] rfl
  have hDc := hD.sub (ws' := [(h, .inr (14, mL f))]) [0] (by decide) rfl
  have hFc := va_free (wc := [(h, .inr (14, mL f))]) hD hS hA [0] rfl
  refine va_calli (va_runV (As := [.int a0, .int a1, .int a2]) (rest := []) ⟨hx, hb, hml, hown, hts⟩ (m_asks l dC dI h f a0 a1 a2 s.heap.size hf_thrown hf_races) (cwV 3 hts g_m_asksEntry_m_asks_413 rfl rfl rfl (by decide +kernel) ⟨Nat.le_of_ble_eq_true rfl, Nat.le_of_ble_eq_true rfl⟩) ⟨fun a U g mk q => by obtain ⟨e0, e1, qP, qK, qD⟩ := q; exact ⟨e0, e1, qP, va_K.moved (u := U) (U := U.calling g mk a) (Vm.Alike.refl U.vm) qK, qD⟩, va_recv hK hP (ci := 14) (q0 := 0) rfl rfl, fun U hU hW => ⟨rfl, by rw [hU], by rw [hU]; exact hPc, va_K.moved hW.alike hKc, hDc.weaken (fun _ _ _ _ => trivial)⟩⟩ rfl rfl hl.1 rfl (lv_room (Nat.le_of_ble_eq_true rfl)) dX13_asksEntry_4 ⟨Nat.le_of_ble_eq_true rfl, Nat.le_of_ble_eq_true rfl⟩) hS (fun q _ h => hFc q h) hFc (fun r1 u2 t H1 locs ht hvm hw hB hz1 hk1 hS => ?_)
  have hP1 : va_P (dC, dI) vwCl [] H1 := ub_P0
  have hD1 : va_D (va_A [(h, .inr (14, mL f))] s.heap.size) [] := ub_D0
  obtain ⟨hP, hD⟩ := va_join (wr := []) (w1 := []) hP hD [0] [] rfl rfl (by decide) (by decide) hk1 hFc hP1 hD1
  generalize H1 = H at hP hS ⊢
  have hP : va_P (dC, dI) vwCl [] H := hP
  have hD : va_D A [] := hD
  refine W.widen (k := 0) (n := 0) (by omega) (by omega) ?_
  obtain rfl : (0 : Int32) = r1 := hw.symm
  refine lv_if_eq (tgt := 24) hx hb dX13_asksEntry_7 (by decide) (fun c3 => ?_) (fun c3 => by first | exact absurd c3 (by decide) | exact absurd (by decide) c3)
  refine lv_iconst (v := 0) hx hb dX13_asksEntry_24 (by decide) ?_
  exact W.zret (v := (0)) hx hb hr rfl (fun t ht hW => ⟨⟨(0), (), rfl, rfl, trivial⟩, hS.F ht⟩) hS.2.2 dX13_asksEntry_25
def A_m_coded : List Cond := [.methodLink RX13 416 yX13_asksEntry, .instanceMethod yX13_asksEntry, .selects RX13 yX13_asksEntry yX13_asksEntry, .initialized RX13, .code yX13_asksEntry cX13_asksEntry 4 (some .boolean), .methodLink RX13 413 yX13_asks, .instanceMethod yX13_asks, .selects RX13 yX13_asks yX13_asks, .code yX13_asks cX13_asks 4 (some .boolean), .fieldLink RX13 228 "UnlikeBoatsModel" "thrown" "I", .methodLink RX13 393 yX13_isRace, .instanceMethod yX13_isRace, .selects RX13 yX13_isRace yX13_isRace, .code yX13_isRace cX13_isRace 2 (some .boolean), .fieldLink RX13 390 "UnlikeBoatsModel" "races" "I"]
def v_m_coded : List Cond := .code yX13_coded cX13_coded 4 (some .int) :: (A_m_coded ++ wsX130)
theorem iw_m_coded_X13 : ∀ w ∈ wsX130, w ∈ v_m_coded := fun _ h => List.mem_cons_of_mem _ (List.mem_append_right _ (h))
theorem gb_m_coded_m_asksEntry0 : GoodIn v_m_coded (.code yX13_asksEntry cX13_asksEntry 4 (some .boolean) :: A_m_asksEntry) := (List.forall_mem_cons.mpr ⟨⟨List.mem_of_getElem? (i := 5) rfl, good_of_word rfl⟩, (List.forall_mem_cons.mpr ⟨⟨List.mem_of_getElem? (i := 6) rfl, good_of_word rfl⟩, (List.forall_mem_cons.mpr ⟨⟨List.mem_of_getElem? (i := 7) rfl, good_of_word rfl⟩, (List.forall_mem_cons.mpr ⟨⟨List.mem_of_getElem? (i := 8) rfl, good_of_word rfl⟩, (List.forall_mem_cons.mpr ⟨⟨List.mem_of_getElem? (i := 4) rfl, good_of_word rfl⟩, (List.forall_mem_cons.mpr ⟨⟨List.mem_of_getElem? (i := 9) rfl, good_of_word rfl⟩, (List.forall_mem_cons.mpr ⟨⟨List.mem_of_getElem? (i := 10) rfl, good_of_word rfl⟩, (List.forall_mem_cons.mpr ⟨⟨List.mem_of_getElem? (i := 11) rfl, good_of_word rfl⟩, (List.forall_mem_cons.mpr ⟨⟨List.mem_of_getElem? (i := 12) rfl, good_of_word rfl⟩, (List.forall_mem_cons.mpr ⟨⟨List.mem_of_getElem? (i := 13) rfl, good_of_word rfl⟩, (List.forall_mem_cons.mpr ⟨⟨List.mem_of_getElem? (i := 14) rfl, good_of_word rfl⟩, (List.forall_mem_cons.mpr ⟨⟨List.mem_of_getElem? (i := 15) rfl, good_of_word rfl⟩, (fun _ h => nomatch h)⟩)⟩)⟩)⟩)⟩)⟩)⟩)⟩)⟩)⟩)⟩)⟩)
theorem gb_m_coded_m_asksEntry : GoodIn v_m_coded v_m_asksEntry := (goodIn_ca gb_m_coded_m_asksEntry0 (goodIn_sub iw_m_coded_X13 gw_X13))
theorem g_m_coded_m_asksEntry_416 : GoodIn v_m_coded (wsV RX13 416 RX13 yX13_asksEntry v_m_asksEntry) := goodIn_app (List.forall_mem_cons.mpr ⟨⟨List.mem_of_getElem? (i := 1) rfl, good_of_word rfl⟩, (List.forall_mem_cons.mpr ⟨⟨List.mem_of_getElem? (i := 2) rfl, good_of_word rfl⟩, (List.forall_mem_cons.mpr ⟨⟨List.mem_of_getElem? (i := 3) rfl, good_of_word rfl⟩, (List.forall_mem_cons.mpr ⟨⟨List.mem_of_getElem? (i := 4) rfl, good_of_word rfl⟩, (fun _ h => nomatch h)⟩)⟩)⟩)⟩) gb_m_coded_m_asksEntry
set_option maxHeartbeats 4000000 in
set_option maxRecDepth 100000 in
theorem m_coded (l : Launch) (dC : Nat → ClassId) (dI : Nat → Nat → Nat) (h : Nat) (f : Nat → Value) (a0 : Int32) (a1 : Int32) (a2 : Int32) (sz : Nat) (hf_thrown : f 0 = .int 0) (hf_races : f 46 = .int 0) : Met l yX13_coded v_m_coded ({ frames := 3, cells := 0, slots := 0, locals := 120 }) (va_Pc [.ref h, .int a0, .int a1, .int a2] (fun U => U.heap.size = sz ∧ va_P (dC, dI) vwCl [(h, .inr (14, mL f))] U.heap ∧ va_K (dC, dI) vwCl [] U ∧ va_D (fun _ => True) [(h, .inr (14, mL f))])) (va_Qi (S := Unit) (fun r _ => r = -1) (fun _ _ => True) (va_A [(h, .inr (14, mL f))] sz)) 0 0 (va_A [(h, .inr (14, mL f))] sz) := by
  refine Met.ofW (cc := cX13_coded) (maxL := 4) (ret := (some .int)) (by decide) rfl ?_
  intro p e s m args below meth c s₁ B hml hv
  obtain ⟨rfl, hsz, hP, hK, hD0⟩ := hv
  have hx := B.exec
  have hb := B.bytes
  have hr := B.returns
  have hts := atoms_spec (ws := v_m_coded) B.pre
  have hown : s.vm.findClass RX13 = some m.cls := findClass_of_methodNamed B.named
  have hlocks := B.notSynchronized
  subst hsz
  have hD := hD0.self (sz := s.heap.size)
  generalize hAe : va_A [(h, .inr (14, mL f))] s.heap.size = A at hD ⊢
  have hA : ∀ q : Nat, s.heap.size ≤ q → A q := fun q h => by rw [← hAe]; exact Or.inr h
  have hS : va_S A s.heap s.heap [] := va_S.rf
  have hP : va_P (dC, dI) vwCl [(h, .inr (14, mL f))] s.heap := hP
  have hl := lv_entry ([.ref h, .int a0, .int a1, .int a2]) (n := 4) (Nat.le_of_ble_eq_true rfl)
  rw [lg_entry_eq]
  generalize (lg_sl ([.ref h, .int a0, .int a1, .int a2]) ++ List.replicate (4 - (lg_sl ([.ref h, .int a0, .int a1, .int a2])).length) Slot.unset).toArray = ls at hl ⊢
  have hl : lv_has ls 4 [(0, .ref h), (1, .int a0), (2, .int a1), (3, .int a2)] := hl
  refine lv_aload_n hx hb dX13_coded_0 rfl (lv_at hl 0 rfl) ?_
  refine lv_iload_n hx hb dX13_coded_1 rfl (lv_at hl 1 rfl) ?_
  refine lv_iload_n hx hb dX13_coded_2 rfl (lv_at hl 2 rfl) ?_
  refine lv_iload_n hx hb dX13_coded_3 rfl (lv_at hl 3 rfl) ?_
  have hPc := hP.sub (ws' := [(h, .inr (14, mL f))]) [0] rfl
  have hKc := hK.sub (tys' := []) [] rfl
  have hDc := hD.sub (ws' := [(h, .inr (14, mL f))]) [0] (by decide) rfl
  have hFc := va_free (wc := [(h, .inr (14, mL f))]) hD hS hA [0] rfl
  refine va_calli (va_runV (As := [.int a0, .int a1, .int a2]) (rest := []) ⟨hx, hb, hml, hown, hts⟩ (m_asksEntry l dC dI h f a0 a1 a2 s.heap.size hf_thrown hf_races) (cwV 3 hts g_m_coded_m_asksEntry_416 rfl rfl rfl (by decide +kernel) ⟨Nat.le_of_ble_eq_true rfl, Nat.le_of_ble_eq_true rfl⟩) ⟨fun a U g mk q => by obtain ⟨e0, e1, qP, qK, qD⟩ := q; exact ⟨e0, e1, qP, va_K.moved (u := U) (U := U.calling g mk a) (Vm.Alike.refl U.vm) qK, qD⟩, va_recv hK hP (ci := 14) (q0 := 0) rfl rfl, fun U hU hW => ⟨rfl, by rw [hU], by rw [hU]; exact hPc, va_K.moved hW.alike hKc, hDc.weaken (fun _ _ _ _ => trivial)⟩⟩ rfl rfl hl.1 rfl (lv_room (Nat.le_of_ble_eq_true rfl)) dX13_coded_4 ⟨Nat.le_of_ble_eq_true rfl, Nat.le_of_ble_eq_true rfl⟩) hS (fun q _ h => hFc q h) hFc (fun r1 u2 t H1 locs ht hvm hw hB hz1 hk1 hS => ?_)
  have hP1 : va_P (dC, dI) vwCl [] H1 := ub_P0
  have hD1 : va_D (va_A [(h, .inr (14, mL f))] s.heap.size) [] := ub_D0
  obtain ⟨hP, hD⟩ := va_join (wr := []) (w1 := []) hP hD [0] [] rfl rfl (by decide) (by decide) hk1 hFc hP1 hD1
  generalize H1 = H at hP hS ⊢
  have hP : va_P (dC, dI) vwCl [] H := hP
  have hD : va_D A [] := hD
  refine W.widen (k := 0) (n := 0) (by omega) (by omega) ?_
  obtain rfl : (0 : Int32) = r1 := hw.symm
  refine lv_if_eq (tgt := 20) hx hb dX13_coded_7 (by decide) (fun c3 => ?_) (fun c3 => by first | exact absurd c3 (by decide) | exact absurd (by decide) c3)
  refine lv_iconst (v := -1) hx hb dX13_coded_20 (by decide) ?_
  exact W.iret (v := (-1)) hx hb hr (fun t ht hW => ⟨⟨(-1), (), rfl, rfl, trivial⟩, hS.F ht⟩) hS.2.2 dX13_coded_21
def A_m_corrected : List Cond := [.methodLink RX13 416 yX13_asksEntry, .instanceMethod yX13_asksEntry, .selects RX13 yX13_asksEntry yX13_asksEntry, .initialized RX13, .constant RX13 431 (-1000000000), .code yX13_asksEntry cX13_asksEntry 4 (some .boolean), .methodLink RX13 413 yX13_asks, .instanceMethod yX13_asks, .selects RX13 yX13_asks yX13_asks, .code yX13_asks cX13_asks 4 (some .boolean), .fieldLink RX13 228 "UnlikeBoatsModel" "thrown" "I", .methodLink RX13 393 yX13_isRace, .instanceMethod yX13_isRace, .selects RX13 yX13_isRace yX13_isRace, .code yX13_isRace cX13_isRace 2 (some .boolean), .fieldLink RX13 390 "UnlikeBoatsModel" "races" "I"]
def v_m_corrected : List Cond := .code yX13_corrected cX13_corrected 4 (some .int) :: (A_m_corrected ++ wsX130)
theorem iw_m_corrected_X13 : ∀ w ∈ wsX130, w ∈ v_m_corrected := fun _ h => List.mem_cons_of_mem _ (List.mem_append_right _ (h))
theorem gb_m_corrected_m_asksEntry0 : GoodIn v_m_corrected (.code yX13_asksEntry cX13_asksEntry 4 (some .boolean) :: A_m_asksEntry) := (List.forall_mem_cons.mpr ⟨⟨List.mem_of_getElem? (i := 6) rfl, good_of_word rfl⟩, (List.forall_mem_cons.mpr ⟨⟨List.mem_of_getElem? (i := 7) rfl, good_of_word rfl⟩, (List.forall_mem_cons.mpr ⟨⟨List.mem_of_getElem? (i := 8) rfl, good_of_word rfl⟩, (List.forall_mem_cons.mpr ⟨⟨List.mem_of_getElem? (i := 9) rfl, good_of_word rfl⟩, (List.forall_mem_cons.mpr ⟨⟨List.mem_of_getElem? (i := 4) rfl, good_of_word rfl⟩, (List.forall_mem_cons.mpr ⟨⟨List.mem_of_getElem? (i := 10) rfl, good_of_word rfl⟩, (List.forall_mem_cons.mpr ⟨⟨List.mem_of_getElem? (i := 11) rfl, good_of_word rfl⟩, (List.forall_mem_cons.mpr ⟨⟨List.mem_of_getElem? (i := 12) rfl, good_of_word rfl⟩, (List.forall_mem_cons.mpr ⟨⟨List.mem_of_getElem? (i := 13) rfl, good_of_word rfl⟩, (List.forall_mem_cons.mpr ⟨⟨List.mem_of_getElem? (i := 14) rfl, good_of_word rfl⟩, (List.forall_mem_cons.mpr ⟨⟨List.mem_of_getElem? (i := 15) rfl, good_of_word rfl⟩, (List.forall_mem_cons.mpr ⟨⟨List.mem_of_getElem? (i := 16) rfl, good_of_word rfl⟩, (fun _ h => nomatch h)⟩)⟩)⟩)⟩)⟩)⟩)⟩)⟩)⟩)⟩)⟩)⟩)
theorem gb_m_corrected_m_asksEntry : GoodIn v_m_corrected v_m_asksEntry := (goodIn_ca gb_m_corrected_m_asksEntry0 (goodIn_sub iw_m_corrected_X13 gw_X13))
theorem g_m_corrected_m_asksEntry_416 : GoodIn v_m_corrected (wsV RX13 416 RX13 yX13_asksEntry v_m_asksEntry) := goodIn_app (List.forall_mem_cons.mpr ⟨⟨List.mem_of_getElem? (i := 1) rfl, good_of_word rfl⟩, (List.forall_mem_cons.mpr ⟨⟨List.mem_of_getElem? (i := 2) rfl, good_of_word rfl⟩, (List.forall_mem_cons.mpr ⟨⟨List.mem_of_getElem? (i := 3) rfl, good_of_word rfl⟩, (List.forall_mem_cons.mpr ⟨⟨List.mem_of_getElem? (i := 4) rfl, good_of_word rfl⟩, (fun _ h => nomatch h)⟩)⟩)⟩)⟩) gb_m_corrected_m_asksEntry
set_option maxHeartbeats 4000000 in
set_option maxRecDepth 100000 in
theorem m_corrected (l : Launch) (dC : Nat → ClassId) (dI : Nat → Nat → Nat) (h : Nat) (f : Nat → Value) (a0 : Int32) (a1 : Int32) (a2 : Int32) (sz : Nat) (hf_thrown : f 0 = .int 0) (hf_races : f 46 = .int 0) : Met l yX13_corrected v_m_corrected ({ frames := 3, cells := 0, slots := 0, locals := 120 }) (va_Pc [.ref h, .int a0, .int a1, .int a2] (fun U => U.heap.size = sz ∧ va_P (dC, dI) vwCl [(h, .inr (14, mL f))] U.heap ∧ va_K (dC, dI) vwCl [] U ∧ va_D (fun _ => True) [(h, .inr (14, mL f))])) (va_Qi (S := Unit) (fun r _ => r = -1000000000) (fun _ _ => True) (va_A [(h, .inr (14, mL f))] sz)) 0 0 (va_A [(h, .inr (14, mL f))] sz) := by
  refine Met.ofW (cc := cX13_corrected) (maxL := 4) (ret := (some .int)) (by decide) rfl ?_
  intro p e s m args below meth c s₁ B hml hv
  obtain ⟨rfl, hsz, hP, hK, hD0⟩ := hv
  have hx := B.exec
  have hb := B.bytes
  have hr := B.returns
  have hts := atoms_spec (ws := v_m_corrected) B.pre
  have hown : s.vm.findClass RX13 = some m.cls := findClass_of_methodNamed B.named
  have hlocks := B.notSynchronized
  subst hsz
  have hD := hD0.self (sz := s.heap.size)
  generalize hAe : va_A [(h, .inr (14, mL f))] s.heap.size = A at hD ⊢
  have hA : ∀ q : Nat, s.heap.size ≤ q → A q := fun q h => by rw [← hAe]; exact Or.inr h
  have hS : va_S A s.heap s.heap [] := va_S.rf
  have hP : va_P (dC, dI) vwCl [(h, .inr (14, mL f))] s.heap := hP
  have hl := lv_entry ([.ref h, .int a0, .int a1, .int a2]) (n := 4) (Nat.le_of_ble_eq_true rfl)
  rw [lg_entry_eq]
  generalize (lg_sl ([.ref h, .int a0, .int a1, .int a2]) ++ List.replicate (4 - (lg_sl ([.ref h, .int a0, .int a1, .int a2])).length) Slot.unset).toArray = ls at hl ⊢
  have hl : lv_has ls 4 [(0, .ref h), (1, .int a0), (2, .int a1), (3, .int a2)] := hl
  refine lv_aload_n hx hb dX13_corrected_0 rfl (lv_at hl 0 rfl) ?_
  refine lv_iload_n hx hb dX13_corrected_1 rfl (lv_at hl 1 rfl) ?_
  refine lv_iload_n hx hb dX13_corrected_2 rfl (lv_at hl 2 rfl) ?_
  refine lv_iload_n hx hb dX13_corrected_3 rfl (lv_at hl 3 rfl) ?_
  have hPc := hP.sub (ws' := [(h, .inr (14, mL f))]) [0] rfl
  have hKc := hK.sub (tys' := []) [] rfl
  have hDc := hD.sub (ws' := [(h, .inr (14, mL f))]) [0] (by decide) rfl
  have hFc := va_free (wc := [(h, .inr (14, mL f))]) hD hS hA [0] rfl
  refine va_calli (va_runV (As := [.int a0, .int a1, .int a2]) (rest := []) ⟨hx, hb, hml, hown, hts⟩ (m_asksEntry l dC dI h f a0 a1 a2 s.heap.size hf_thrown hf_races) (cwV 3 hts g_m_corrected_m_asksEntry_416 rfl rfl rfl (by decide +kernel) ⟨Nat.le_of_ble_eq_true rfl, Nat.le_of_ble_eq_true rfl⟩) ⟨fun a U g mk q => by obtain ⟨e0, e1, qP, qK, qD⟩ := q; exact ⟨e0, e1, qP, va_K.moved (u := U) (U := U.calling g mk a) (Vm.Alike.refl U.vm) qK, qD⟩, va_recv hK hP (ci := 14) (q0 := 0) rfl rfl, fun U hU hW => ⟨rfl, by rw [hU], by rw [hU]; exact hPc, va_K.moved hW.alike hKc, hDc.weaken (fun _ _ _ _ => trivial)⟩⟩ rfl rfl hl.1 rfl (lv_room (Nat.le_of_ble_eq_true rfl)) dX13_corrected_4 ⟨Nat.le_of_ble_eq_true rfl, Nat.le_of_ble_eq_true rfl⟩) hS (fun q _ h => hFc q h) hFc (fun r1 u2 t H1 locs ht hvm hw hB hz1 hk1 hS => ?_)
  have hP1 : va_P (dC, dI) vwCl [] H1 := ub_P0
  have hD1 : va_D (va_A [(h, .inr (14, mL f))] s.heap.size) [] := ub_D0
  obtain ⟨hP, hD⟩ := va_join (wr := []) (w1 := []) hP hD [0] [] rfl rfl (by decide) (by decide) hk1 hFc hP1 hD1
  generalize H1 = H at hP hS ⊢
  have hP : va_P (dC, dI) vwCl [] H := hP
  have hD : va_D A [] := hD
  refine W.widen (k := 0) (n := 0) (by omega) (by omega) ?_
  obtain rfl : (0 : Int32) = r1 := hw.symm
  refine lv_if_eq (tgt := 30) hx hb dX13_corrected_7 (by decide) (fun c3 => ?_) (fun c3 => by first | exact absurd c3 (by decide) | exact absurd (by decide) c3)
  refine lv_ldcw hx hb hown (hts (.constant RX13 431 (-1000000000)) (List.mem_of_getElem? (i := 5) rfl)) dX13_corrected_30 ?_
  exact W.iret (v := (-1000000000)) hx hb hr (fun t ht hW => ⟨⟨(-1000000000), (), rfl, rfl, trivial⟩, hS.F ht⟩) hS.2.2 dX13_corrected_33
def A_m_placed : List Cond := [.methodLink RX13 416 yX13_asksEntry, .instanceMethod yX13_asksEntry, .selects RX13 yX13_asksEntry yX13_asksEntry, .initialized RX13, .code yX13_asksEntry cX13_asksEntry 4 (some .boolean), .methodLink RX13 413 yX13_asks, .instanceMethod yX13_asks, .selects RX13 yX13_asks yX13_asks, .code yX13_asks cX13_asks 4 (some .boolean), .fieldLink RX13 228 "UnlikeBoatsModel" "thrown" "I", .methodLink RX13 393 yX13_isRace, .instanceMethod yX13_isRace, .selects RX13 yX13_isRace yX13_isRace, .code yX13_isRace cX13_isRace 2 (some .boolean), .fieldLink RX13 390 "UnlikeBoatsModel" "races" "I"]
def v_m_placed : List Cond := .code yX13_placed cX13_placed 4 (some .int) :: (A_m_placed ++ wsX130)
theorem iw_m_placed_X13 : ∀ w ∈ wsX130, w ∈ v_m_placed := fun _ h => List.mem_cons_of_mem _ (List.mem_append_right _ (h))
theorem gb_m_placed_m_asksEntry0 : GoodIn v_m_placed (.code yX13_asksEntry cX13_asksEntry 4 (some .boolean) :: A_m_asksEntry) := (List.forall_mem_cons.mpr ⟨⟨List.mem_of_getElem? (i := 5) rfl, good_of_word rfl⟩, (List.forall_mem_cons.mpr ⟨⟨List.mem_of_getElem? (i := 6) rfl, good_of_word rfl⟩, (List.forall_mem_cons.mpr ⟨⟨List.mem_of_getElem? (i := 7) rfl, good_of_word rfl⟩, (List.forall_mem_cons.mpr ⟨⟨List.mem_of_getElem? (i := 8) rfl, good_of_word rfl⟩, (List.forall_mem_cons.mpr ⟨⟨List.mem_of_getElem? (i := 4) rfl, good_of_word rfl⟩, (List.forall_mem_cons.mpr ⟨⟨List.mem_of_getElem? (i := 9) rfl, good_of_word rfl⟩, (List.forall_mem_cons.mpr ⟨⟨List.mem_of_getElem? (i := 10) rfl, good_of_word rfl⟩, (List.forall_mem_cons.mpr ⟨⟨List.mem_of_getElem? (i := 11) rfl, good_of_word rfl⟩, (List.forall_mem_cons.mpr ⟨⟨List.mem_of_getElem? (i := 12) rfl, good_of_word rfl⟩, (List.forall_mem_cons.mpr ⟨⟨List.mem_of_getElem? (i := 13) rfl, good_of_word rfl⟩, (List.forall_mem_cons.mpr ⟨⟨List.mem_of_getElem? (i := 14) rfl, good_of_word rfl⟩, (List.forall_mem_cons.mpr ⟨⟨List.mem_of_getElem? (i := 15) rfl, good_of_word rfl⟩, (fun _ h => nomatch h)⟩)⟩)⟩)⟩)⟩)⟩)⟩)⟩)⟩)⟩)⟩)⟩)
theorem gb_m_placed_m_asksEntry : GoodIn v_m_placed v_m_asksEntry := (goodIn_ca gb_m_placed_m_asksEntry0 (goodIn_sub iw_m_placed_X13 gw_X13))
theorem g_m_placed_m_asksEntry_416 : GoodIn v_m_placed (wsV RX13 416 RX13 yX13_asksEntry v_m_asksEntry) := goodIn_app (List.forall_mem_cons.mpr ⟨⟨List.mem_of_getElem? (i := 1) rfl, good_of_word rfl⟩, (List.forall_mem_cons.mpr ⟨⟨List.mem_of_getElem? (i := 2) rfl, good_of_word rfl⟩, (List.forall_mem_cons.mpr ⟨⟨List.mem_of_getElem? (i := 3) rfl, good_of_word rfl⟩, (List.forall_mem_cons.mpr ⟨⟨List.mem_of_getElem? (i := 4) rfl, good_of_word rfl⟩, (fun _ h => nomatch h)⟩)⟩)⟩)⟩) gb_m_placed_m_asksEntry
set_option maxHeartbeats 4000000 in
set_option maxRecDepth 100000 in
theorem m_placed (l : Launch) (dC : Nat → ClassId) (dI : Nat → Nat → Nat) (h : Nat) (f : Nat → Value) (a0 : Int32) (a1 : Int32) (a2 : Int32) (sz : Nat) (hf_thrown : f 0 = .int 0) (hf_races : f 46 = .int 0) : Met l yX13_placed v_m_placed ({ frames := 3, cells := 0, slots := 0, locals := 120 }) (va_Pc [.ref h, .int a0, .int a1, .int a2] (fun U => U.heap.size = sz ∧ va_P (dC, dI) vwCl [(h, .inr (14, mL f))] U.heap ∧ va_K (dC, dI) vwCl [] U ∧ va_D (fun _ => True) [(h, .inr (14, mL f))])) (va_Qi (S := Unit) (fun r _ => r = -1) (fun _ _ => True) (va_A [(h, .inr (14, mL f))] sz)) 0 0 (va_A [(h, .inr (14, mL f))] sz) := by
  refine Met.ofW (cc := cX13_placed) (maxL := 4) (ret := (some .int)) (by decide) rfl ?_
  intro p e s m args below meth c s₁ B hml hv
  obtain ⟨rfl, hsz, hP, hK, hD0⟩ := hv
  have hx := B.exec
  have hb := B.bytes
  have hr := B.returns
  have hts := atoms_spec (ws := v_m_placed) B.pre
  have hown : s.vm.findClass RX13 = some m.cls := findClass_of_methodNamed B.named
  have hlocks := B.notSynchronized
  subst hsz
  have hD := hD0.self (sz := s.heap.size)
  generalize hAe : va_A [(h, .inr (14, mL f))] s.heap.size = A at hD ⊢
  have hA : ∀ q : Nat, s.heap.size ≤ q → A q := fun q h => by rw [← hAe]; exact Or.inr h
  have hS : va_S A s.heap s.heap [] := va_S.rf
  have hP : va_P (dC, dI) vwCl [(h, .inr (14, mL f))] s.heap := hP
  have hl := lv_entry ([.ref h, .int a0, .int a1, .int a2]) (n := 4) (Nat.le_of_ble_eq_true rfl)
  rw [lg_entry_eq]
  generalize (lg_sl ([.ref h, .int a0, .int a1, .int a2]) ++ List.replicate (4 - (lg_sl ([.ref h, .int a0, .int a1, .int a2])).length) Slot.unset).toArray = ls at hl ⊢
  have hl : lv_has ls 4 [(0, .ref h), (1, .int a0), (2, .int a1), (3, .int a2)] := hl
  refine lv_aload_n hx hb dX13_placed_0 rfl (lv_at hl 0 rfl) ?_
  refine lv_iload_n hx hb dX13_placed_1 rfl (lv_at hl 1 rfl) ?_
  refine lv_iload_n hx hb dX13_placed_2 rfl (lv_at hl 2 rfl) ?_
  refine lv_iload_n hx hb dX13_placed_3 rfl (lv_at hl 3 rfl) ?_
  have hPc := hP.sub (ws' := [(h, .inr (14, mL f))]) [0] rfl
  have hKc := hK.sub (tys' := []) [] rfl
  have hDc := hD.sub (ws' := [(h, .inr (14, mL f))]) [0] (by decide) rfl
  have hFc := va_free (wc := [(h, .inr (14, mL f))]) hD hS hA [0] rfl
  refine va_calli (va_runV (As := [.int a0, .int a1, .int a2]) (rest := []) ⟨hx, hb, hml, hown, hts⟩ (m_asksEntry l dC dI h f a0 a1 a2 s.heap.size hf_thrown hf_races) (cwV 3 hts g_m_placed_m_asksEntry_416 rfl rfl rfl (by decide +kernel) ⟨Nat.le_of_ble_eq_true rfl, Nat.le_of_ble_eq_true rfl⟩) ⟨fun a U g mk q => by obtain ⟨e0, e1, qP, qK, qD⟩ := q; exact ⟨e0, e1, qP, va_K.moved (u := U) (U := U.calling g mk a) (Vm.Alike.refl U.vm) qK, qD⟩, va_recv hK hP (ci := 14) (q0 := 0) rfl rfl, fun U hU hW => ⟨rfl, by rw [hU], by rw [hU]; exact hPc, va_K.moved hW.alike hKc, hDc.weaken (fun _ _ _ _ => trivial)⟩⟩ rfl rfl hl.1 rfl (lv_room (Nat.le_of_ble_eq_true rfl)) dX13_placed_4 ⟨Nat.le_of_ble_eq_true rfl, Nat.le_of_ble_eq_true rfl⟩) hS (fun q _ h => hFc q h) hFc (fun r1 u2 t H1 locs ht hvm hw hB hz1 hk1 hS => ?_)
  have hP1 : va_P (dC, dI) vwCl [] H1 := ub_P0
  have hD1 : va_D (va_A [(h, .inr (14, mL f))] s.heap.size) [] := ub_D0
  obtain ⟨hP, hD⟩ := va_join (wr := []) (w1 := []) hP hD [0] [] rfl rfl (by decide) (by decide) hk1 hFc hP1 hD1
  generalize H1 = H at hP hS ⊢
  have hP : va_P (dC, dI) vwCl [] H := hP
  have hD : va_D A [] := hD
  refine W.widen (k := 0) (n := 0) (by omega) (by omega) ?_
  obtain rfl : (0 : Int32) = r1 := hw.symm
  refine lv_if_eq (tgt := 30) hx hb dX13_placed_7 (by decide) (fun c3 => ?_) (fun c3 => by first | exact absurd c3 (by decide) | exact absurd (by decide) c3)
  refine lv_iconst (v := -1) hx hb dX13_placed_30 (by decide) ?_
  exact W.iret (v := (-1)) hx hb hr (fun t ht hW => ⟨⟨(-1), (), rfl, rfl, trivial⟩, hS.F ht⟩) hS.2.2 dX13_placed_31
def A_m_redress : List Cond := [.fieldLink RX13 228 "UnlikeBoatsModel" "thrown" "I", .fieldLink RX13 435 "UnlikeBoatsModel" "redresses" "I", .methodLink RX13 402 yX13_isEntry, .instanceMethod yX13_isEntry, .selects RX13 yX13_isEntry yX13_isEntry, .initialized RX13, .code yX13_isEntry cX13_isEntry 3 (some .boolean), .methodLink RX13 393 yX13_isRace, .instanceMethod yX13_isRace, .selects RX13 yX13_isRace yX13_isRace, .code yX13_isRace cX13_isRace 2 (some .boolean), .fieldLink RX13 390 "UnlikeBoatsModel" "races" "I"]
def v_m_redress : List Cond := .code yX13_redress cX13_redress 3 (some .boolean) :: (A_m_redress ++ wsX130)
theorem iw_m_redress_X13 : ∀ w ∈ wsX130, w ∈ v_m_redress := fun _ h => List.mem_cons_of_mem _ (List.mem_append_right _ (h))
theorem gb_m_redress_m_isEntry0 : GoodIn v_m_redress (.code yX13_isEntry cX13_isEntry 3 (some .boolean) :: A_m_isEntry) := (List.forall_mem_cons.mpr ⟨⟨List.mem_of_getElem? (i := 7) rfl, good_of_word rfl⟩, (List.forall_mem_cons.mpr ⟨⟨List.mem_of_getElem? (i := 8) rfl, good_of_word rfl⟩, (List.forall_mem_cons.mpr ⟨⟨List.mem_of_getElem? (i := 9) rfl, good_of_word rfl⟩, (List.forall_mem_cons.mpr ⟨⟨List.mem_of_getElem? (i := 10) rfl, good_of_word rfl⟩, (List.forall_mem_cons.mpr ⟨⟨List.mem_of_getElem? (i := 6) rfl, good_of_word rfl⟩, (List.forall_mem_cons.mpr ⟨⟨List.mem_of_getElem? (i := 11) rfl, good_of_word rfl⟩, (List.forall_mem_cons.mpr ⟨⟨List.mem_of_getElem? (i := 12) rfl, good_of_word rfl⟩, (fun _ h => nomatch h)⟩)⟩)⟩)⟩)⟩)⟩)⟩)
theorem gb_m_redress_m_isEntry : GoodIn v_m_redress v_m_isEntry := (goodIn_ca gb_m_redress_m_isEntry0 (goodIn_sub iw_m_redress_X13 gw_X13))
theorem g_m_redress_m_isEntry_402 : GoodIn v_m_redress (wsV RX13 402 RX13 yX13_isEntry v_m_isEntry) := goodIn_app (List.forall_mem_cons.mpr ⟨⟨List.mem_of_getElem? (i := 3) rfl, good_of_word rfl⟩, (List.forall_mem_cons.mpr ⟨⟨List.mem_of_getElem? (i := 4) rfl, good_of_word rfl⟩, (List.forall_mem_cons.mpr ⟨⟨List.mem_of_getElem? (i := 5) rfl, good_of_word rfl⟩, (List.forall_mem_cons.mpr ⟨⟨List.mem_of_getElem? (i := 6) rfl, good_of_word rfl⟩, (fun _ h => nomatch h)⟩)⟩)⟩)⟩) gb_m_redress_m_isEntry
set_option maxHeartbeats 4000000 in
set_option maxRecDepth 100000 in
theorem m_redress (l : Launch) (dC : Nat → ClassId) (dI : Nat → Nat → Nat) (h : Nat) (f : Nat → Value) (a0 : Int32) (a1 : Int32) (sz : Nat) (hf_thrown : f 0 = .int 0) (hf_redresses : f 48 = .int 0) (hf_races : f 46 = .int 0) : Met l yX13_redress v_m_redress ({ frames := 2, cells := 0, slots := 0, locals := 80 }) (va_Pc [.ref h, .int a0, .int a1] (fun U => U.heap.size = sz ∧ va_P (dC, dI) vwCl [(h, .inr (14, mL f))] U.heap ∧ va_K (dC, dI) vwCl [] U ∧ va_D (fun _ => True) [(h, .inr (14, mL f))])) (va_Qi (S := Unit) (fun r _ => r = 0) (fun _ _ => True) (va_A [(h, .inr (14, mL f))] sz)) 0 0 (va_A [(h, .inr (14, mL f))] sz) := by
  refine Met.ofW (cc := cX13_redress) (maxL := 3) (ret := (some .boolean)) (by decide) rfl ?_
  intro p e s m args below meth c s₁ B hml hv
  obtain ⟨rfl, hsz, hP, hK, hD0⟩ := hv
  have hx := B.exec
  have hb := B.bytes
  have hr := B.returns
  have hts := atoms_spec (ws := v_m_redress) B.pre
  have hown : s.vm.findClass RX13 = some m.cls := findClass_of_methodNamed B.named
  have hlocks := B.notSynchronized
  subst hsz
  have hD := hD0.self (sz := s.heap.size)
  generalize hAe : va_A [(h, .inr (14, mL f))] s.heap.size = A at hD ⊢
  have hA : ∀ q : Nat, s.heap.size ≤ q → A q := fun q h => by rw [← hAe]; exact Or.inr h
  have hS : va_S A s.heap s.heap [] := va_S.rf
  have hP : va_P (dC, dI) vwCl [(h, .inr (14, mL f))] s.heap := hP
  have hl := lv_entry ([.ref h, .int a0, .int a1]) (n := 3) (Nat.le_of_ble_eq_true rfl)
  rw [lg_entry_eq]
  generalize (lg_sl ([.ref h, .int a0, .int a1]) ++ List.replicate (3 - (lg_sl ([.ref h, .int a0, .int a1])).length) Slot.unset).toArray = ls at hl ⊢
  have hl : lv_has ls 3 [(0, .ref h), (1, .int a0), (2, .int a1)] := hl
  refine lv_aload_n hx hb dX13_redress_0 rfl (lv_at hl 0 rfl) ?_
  refine lv_iconst (v := 0) hx hb dX13_redress_1 (by decide) ?_
  refine va_put (D := (dC, dI)) (ci := 14) (v := .int 0) (ty := .int) (C := RX13) (T := TX13) (N := 97) hx hb hts iw_m_redress_X13 tyX13 tyX13_ok nmX13 hown hK hP hD hS 0 rfl rfl 0 (by decide) (hts (.fieldLink RX13 228 "UnlikeBoatsModel" "thrown" "I") (List.mem_of_getElem? (i := 1) rfl)) (fun _ h9 => h9) rfl (by decide +kernel) rfl rfl (mL_lt (Nat.le_of_ble_eq_true rfl)) dX13_redress_2 (fun H locs hP hD hS => ?_)
  have hP : va_P (dC, dI) vwCl [(h, .inr (14, (mL f).set 0 (.int 0)))] H := hP
  have hD : va_D A [(h, .inr (14, (mL f).set 0 (.int 0)))] := hD
  rw [mL_same hf_thrown] at hP hD
  refine lv_aload_n hx hb dX13_redress_5 rfl (lv_at hl 0 rfl) ?_
  refine va_get (D := (dC, dI)) (ci := 14) (v := .int 0) (C := RX13) (T := TX13) (N := 97) hx hb hts iw_m_redress_X13 hown hK hP 0 rfl rfl 48 (by decide) (hts (.fieldLink RX13 435 "UnlikeBoatsModel" "redresses" "I") (List.mem_of_getElem? (i := 2) rfl)) (fun _ h9 => h9) (mL_some (Nat.le_of_ble_eq_true rfl) hf_redresses) dX13_redress_6 ?_
  refine lv_bipush (v := 20) hx hb dX13_redress_9 (by decide) ?_
  refine lv_icmp_eq (tgt := 36) hx hb dX13_redress_11 (by decide) (fun c1 => by first | exact absurd c1 (by decide) | exact absurd (by decide) c1) (fun c1 => ?_)
  refine lv_aload_n hx hb dX13_redress_14 rfl (lv_at hl 0 rfl) ?_
  refine lv_iload_n hx hb dX13_redress_15 rfl (lv_at hl 1 rfl) ?_
  refine lv_iload_n hx hb dX13_redress_16 rfl (lv_at hl 2 rfl) ?_
  have hPc := hP.sub (ws' := [(h, .inr (14, mL f))]) [0] rfl
  have hKc := hK.sub (tys' := []) [] rfl
  refine va_calli (va_runV (As := [.int a0, .int a1]) (rest := []) ⟨hx, hb, hml, hown, hts⟩ (m_isEntry l dC dI h f a0 a1 hf_races) (cwV 2 hts g_m_redress_m_isEntry_402 rfl rfl rfl (by decide +kernel) ⟨Nat.le_of_ble_eq_true rfl, Nat.le_of_ble_eq_true rfl⟩) ⟨fun a U g mk q => by obtain ⟨e0, qP, qK⟩ := q; exact ⟨e0, qP, va_K.moved (u := U) (U := U.calling g mk a) (Vm.Alike.refl U.vm) qK⟩, va_recv hK hP (ci := 14) (q0 := 0) rfl rfl, fun U hU hW => ⟨rfl, by rw [hU]; exact hPc, va_K.moved hW.alike hKc⟩⟩ rfl rfl hl.1 rfl (lv_room (Nat.le_of_ble_eq_true rfl)) dX13_redress_17 ⟨Nat.le_of_ble_eq_true rfl, Nat.le_of_ble_eq_true rfl⟩) hS (fun _ _ h => h.elim) (fun _ h => h.elim) (fun r2 u3 t H1 locs ht hvm hw hB hz1 hk1 hS => ?_)
  have hP := ub_keep hP hk1
  generalize H1 = H at hP hS ⊢
  obtain rfl : (0 : Int32) = r2 := hw.symm
  refine lv_if_eq (tgt := 36) hx hb dX13_redress_20 (by decide) (fun c4 => ?_) (fun c4 => by first | exact absurd c4 (by decide) | exact absurd (by decide) c4)
  refine lv_iconst (v := 0) hx hb dX13_redress_36 (by decide) ?_
  exact W.zret (v := (0)) hx hb hr rfl (fun t ht hW => ⟨⟨(0), (), rfl, rfl, trivial⟩, hS.F ht⟩) hS.2.2 dX13_redress_37
def A_m_points : List Cond := [.methodLink RX13 413 yX13_asks, .instanceMethod yX13_asks, .selects RX13 yX13_asks yX13_asks, .initialized RX13, .code yX13_asks cX13_asks 4 (some .boolean), .fieldLink RX13 228 "UnlikeBoatsModel" "thrown" "I", .methodLink RX13 393 yX13_isRace, .instanceMethod yX13_isRace, .selects RX13 yX13_isRace yX13_isRace, .code yX13_isRace cX13_isRace 2 (some .boolean), .fieldLink RX13 390 "UnlikeBoatsModel" "races" "I"]
def v_m_points : List Cond := .code yX13_points cX13_points 4 (some .int) :: (A_m_points ++ wsX130)
theorem iw_m_points_X13 : ∀ w ∈ wsX130, w ∈ v_m_points := fun _ h => List.mem_cons_of_mem _ (List.mem_append_right _ (h))
theorem gb_m_points_m_asks0 : GoodIn v_m_points (.code yX13_asks cX13_asks 4 (some .boolean) :: A_m_asks) := (List.forall_mem_cons.mpr ⟨⟨List.mem_of_getElem? (i := 5) rfl, good_of_word rfl⟩, (List.forall_mem_cons.mpr ⟨⟨List.mem_of_getElem? (i := 6) rfl, good_of_word rfl⟩, (List.forall_mem_cons.mpr ⟨⟨List.mem_of_getElem? (i := 7) rfl, good_of_word rfl⟩, (List.forall_mem_cons.mpr ⟨⟨List.mem_of_getElem? (i := 8) rfl, good_of_word rfl⟩, (List.forall_mem_cons.mpr ⟨⟨List.mem_of_getElem? (i := 9) rfl, good_of_word rfl⟩, (List.forall_mem_cons.mpr ⟨⟨List.mem_of_getElem? (i := 4) rfl, good_of_word rfl⟩, (List.forall_mem_cons.mpr ⟨⟨List.mem_of_getElem? (i := 10) rfl, good_of_word rfl⟩, (List.forall_mem_cons.mpr ⟨⟨List.mem_of_getElem? (i := 11) rfl, good_of_word rfl⟩, (fun _ h => nomatch h)⟩)⟩)⟩)⟩)⟩)⟩)⟩)⟩)
theorem gb_m_points_m_asks : GoodIn v_m_points v_m_asks := (goodIn_ca gb_m_points_m_asks0 (goodIn_sub iw_m_points_X13 gw_X13))
theorem g_m_points_m_asks_413 : GoodIn v_m_points (wsV RX13 413 RX13 yX13_asks v_m_asks) := goodIn_app (List.forall_mem_cons.mpr ⟨⟨List.mem_of_getElem? (i := 1) rfl, good_of_word rfl⟩, (List.forall_mem_cons.mpr ⟨⟨List.mem_of_getElem? (i := 2) rfl, good_of_word rfl⟩, (List.forall_mem_cons.mpr ⟨⟨List.mem_of_getElem? (i := 3) rfl, good_of_word rfl⟩, (List.forall_mem_cons.mpr ⟨⟨List.mem_of_getElem? (i := 4) rfl, good_of_word rfl⟩, (fun _ h => nomatch h)⟩)⟩)⟩)⟩) gb_m_points_m_asks
set_option maxHeartbeats 4000000 in
set_option maxRecDepth 100000 in
theorem m_points (l : Launch) (dC : Nat → ClassId) (dI : Nat → Nat → Nat) (h : Nat) (f : Nat → Value) (a0 : Int32) (a1 : Int32) (a2 : Int32) (sz : Nat) (hf_thrown : f 0 = .int 0) (hf_races : f 46 = .int 0) : Met l yX13_points v_m_points ({ frames := 2, cells := 0, slots := 0, locals := 80 }) (va_Pc [.ref h, .int a0, .int a1, .int a2] (fun U => U.heap.size = sz ∧ va_P (dC, dI) vwCl [(h, .inr (14, mL f))] U.heap ∧ va_K (dC, dI) vwCl [] U ∧ va_D (fun _ => True) [(h, .inr (14, mL f))])) (va_Qi (S := Unit) (fun r _ => r = -1) (fun _ _ => True) (va_A [(h, .inr (14, mL f))] sz)) 0 0 (va_A [(h, .inr (14, mL f))] sz) := by
  refine Met.ofW (cc := cX13_points) (maxL := 4) (ret := (some .int)) (by decide) rfl ?_
  intro p e s m args below meth c s₁ B hml hv
  obtain ⟨rfl, hsz, hP, hK, hD0⟩ := hv
  have hx := B.exec
  have hb := B.bytes
  have hr := B.returns
  have hts := atoms_spec (ws := v_m_points) B.pre
  have hown : s.vm.findClass RX13 = some m.cls := findClass_of_methodNamed B.named
  have hlocks := B.notSynchronized
  subst hsz
  have hD := hD0.self (sz := s.heap.size)
  generalize hAe : va_A [(h, .inr (14, mL f))] s.heap.size = A at hD ⊢
  have hA : ∀ q : Nat, s.heap.size ≤ q → A q := fun q h => by rw [← hAe]; exact Or.inr h
  have hS : va_S A s.heap s.heap [] := va_S.rf
  have hP : va_P (dC, dI) vwCl [(h, .inr (14, mL f))] s.heap := hP
  have hl := lv_entry ([.ref h, .int a0, .int a1, .int a2]) (n := 4) (Nat.le_of_ble_eq_true rfl)
  rw [lg_entry_eq]
  generalize (lg_sl ([.ref h, .int a0, .int a1, .int a2]) ++ List.replicate (4 - (lg_sl ([.ref h, .int a0, .int a1, .int a2])).length) Slot.unset).toArray = ls at hl ⊢
  have hl : lv_has ls 4 [(0, .ref h), (1, .int a0), (2, .int a1), (3, .int a2)] := hl
  refine lv_aload_n hx hb dX13_points_0 rfl (lv_at hl 0 rfl) ?_
  refine lv_iload_n hx hb dX13_points_1 rfl (lv_at hl 1 rfl) ?_
  refine lv_iload_n hx hb dX13_points_2 rfl (lv_at hl 2 rfl) ?_
  refine lv_iload_n hx hb dX13_points_3 rfl (lv_at hl 3 rfl) ?_
  have hPc := hP.sub (ws' := [(h, .inr (14, mL f))]) [0] rfl
  have hKc := hK.sub (tys' := []) [] rfl
  have hDc := hD.sub (ws' := [(h, .inr (14, mL f))]) [0] (by decide) rfl
  have hFc := va_free (wc := [(h, .inr (14, mL f))]) hD hS hA [0] rfl
  refine va_calli (va_runV (As := [.int a0, .int a1, .int a2]) (rest := []) ⟨hx, hb, hml, hown, hts⟩ (m_asks l dC dI h f a0 a1 a2 s.heap.size hf_thrown hf_races) (cwV 3 hts g_m_points_m_asks_413 rfl rfl rfl (by decide +kernel) ⟨Nat.le_of_ble_eq_true rfl, Nat.le_of_ble_eq_true rfl⟩) ⟨fun a U g mk q => by obtain ⟨e0, e1, qP, qK, qD⟩ := q; exact ⟨e0, e1, qP, va_K.moved (u := U) (U := U.calling g mk a) (Vm.Alike.refl U.vm) qK, qD⟩, va_recv hK hP (ci := 14) (q0 := 0) rfl rfl, fun U hU hW => ⟨rfl, by rw [hU], by rw [hU]; exact hPc, va_K.moved hW.alike hKc, hDc.weaken (fun _ _ _ _ => trivial)⟩⟩ rfl rfl hl.1 rfl (lv_room (Nat.le_of_ble_eq_true rfl)) dX13_points_4 ⟨Nat.le_of_ble_eq_true rfl, Nat.le_of_ble_eq_true rfl⟩) hS (fun q _ h => hFc q h) hFc (fun r1 u2 t H1 locs ht hvm hw hB hz1 hk1 hS => ?_)
  have hP1 : va_P (dC, dI) vwCl [] H1 := ub_P0
  have hD1 : va_D (va_A [(h, .inr (14, mL f))] s.heap.size) [] := ub_D0
  obtain ⟨hP, hD⟩ := va_join (wr := []) (w1 := []) hP hD [0] [] rfl rfl (by decide) (by decide) hk1 hFc hP1 hD1
  generalize H1 = H at hP hS ⊢
  have hP : va_P (dC, dI) vwCl [] H := hP
  have hD : va_D A [] := hD
  refine W.widen (k := 0) (n := 0) (by omega) (by omega) ?_
  obtain rfl : (0 : Int32) = r1 := hw.symm
  refine lv_if_eq (tgt := 20) hx hb dX13_points_7 (by decide) (fun c3 => ?_) (fun c3 => by first | exact absurd c3 (by decide) | exact absurd (by decide) c3)
  refine lv_iconst (v := -1) hx hb dX13_points_20 (by decide) ?_
  exact W.iret (v := (-1)) hx hb hr (fun t ht hW => ⟨⟨(-1), (), rfl, rfl, trivial⟩, hS.F ht⟩) hS.2.2 dX13_points_21
def A_m_word : List Cond := [.fieldLink RX13 228 "UnlikeBoatsModel" "thrown" "I", .fieldLink RX13 460 "UnlikeBoatsModel" "words" "I", .methodLink RX13 402 yX13_isEntry, .instanceMethod yX13_isEntry, .selects RX13 yX13_isEntry yX13_isEntry, .initialized RX13, .code yX13_isEntry cX13_isEntry 3 (some .boolean), .methodLink RX13 393 yX13_isRace, .instanceMethod yX13_isRace, .selects RX13 yX13_isRace yX13_isRace, .code yX13_isRace cX13_isRace 2 (some .boolean), .fieldLink RX13 390 "UnlikeBoatsModel" "races" "I"]
def v_m_word : List Cond := .code yX13_word cX13_word 8 (some .int) :: (A_m_word ++ wsX130)
theorem iw_m_word_X13 : ∀ w ∈ wsX130, w ∈ v_m_word := fun _ h => List.mem_cons_of_mem _ (List.mem_append_right _ (h))
theorem gb_m_word_m_isEntry0 : GoodIn v_m_word (.code yX13_isEntry cX13_isEntry 3 (some .boolean) :: A_m_isEntry) := (List.forall_mem_cons.mpr ⟨⟨List.mem_of_getElem? (i := 7) rfl, good_of_word rfl⟩, (List.forall_mem_cons.mpr ⟨⟨List.mem_of_getElem? (i := 8) rfl, good_of_word rfl⟩, (List.forall_mem_cons.mpr ⟨⟨List.mem_of_getElem? (i := 9) rfl, good_of_word rfl⟩, (List.forall_mem_cons.mpr ⟨⟨List.mem_of_getElem? (i := 10) rfl, good_of_word rfl⟩, (List.forall_mem_cons.mpr ⟨⟨List.mem_of_getElem? (i := 6) rfl, good_of_word rfl⟩, (List.forall_mem_cons.mpr ⟨⟨List.mem_of_getElem? (i := 11) rfl, good_of_word rfl⟩, (List.forall_mem_cons.mpr ⟨⟨List.mem_of_getElem? (i := 12) rfl, good_of_word rfl⟩, (fun _ h => nomatch h)⟩)⟩)⟩)⟩)⟩)⟩)⟩)
theorem gb_m_word_m_isEntry : GoodIn v_m_word v_m_isEntry := (goodIn_ca gb_m_word_m_isEntry0 (goodIn_sub iw_m_word_X13 gw_X13))
theorem g_m_word_m_isEntry_402 : GoodIn v_m_word (wsV RX13 402 RX13 yX13_isEntry v_m_isEntry) := goodIn_app (List.forall_mem_cons.mpr ⟨⟨List.mem_of_getElem? (i := 3) rfl, good_of_word rfl⟩, (List.forall_mem_cons.mpr ⟨⟨List.mem_of_getElem? (i := 4) rfl, good_of_word rfl⟩, (List.forall_mem_cons.mpr ⟨⟨List.mem_of_getElem? (i := 5) rfl, good_of_word rfl⟩, (List.forall_mem_cons.mpr ⟨⟨List.mem_of_getElem? (i := 6) rfl, good_of_word rfl⟩, (fun _ h => nomatch h)⟩)⟩)⟩)⟩) gb_m_word_m_isEntry
set_option maxHeartbeats 4000000 in
set_option maxRecDepth 100000 in
theorem m_word (l : Launch) (dC : Nat → ClassId) (dI : Nat → Nat → Nat) (h : Nat) (f : Nat → Value) (a0 : Int32) (a1 : Int32) (a2 : Int32) (a3 : Int32) (a4 : Int32) (a5 : Int32) (a6 : Int32) (sz : Nat) (hf_thrown : f 0 = .int 0) (hf_words : f 74 = .int 0) (hf_races : f 46 = .int 0) : Met l yX13_word v_m_word ({ frames := 2, cells := 0, slots := 0, locals := 80 }) (va_Pc [.ref h, .int a0, .int a1, .int a2, .int a3, .int a4, .int a5, .int a6] (fun U => U.heap.size = sz ∧ va_P (dC, dI) vwCl [(h, .inr (14, mL f))] U.heap ∧ va_K (dC, dI) vwCl [] U ∧ va_D (fun _ => True) [(h, .inr (14, mL f))])) (va_Qi (S := Unit) (fun r _ => r = -1) (fun _ _ => True) (va_A [(h, .inr (14, mL f))] sz)) 0 0 (va_A [(h, .inr (14, mL f))] sz) := by
  refine Met.ofW (cc := cX13_word) (maxL := 8) (ret := (some .int)) (by decide) rfl ?_
  intro p e s m args below meth c s₁ B hml hv
  obtain ⟨rfl, hsz, hP, hK, hD0⟩ := hv
  have hx := B.exec
  have hb := B.bytes
  have hr := B.returns
  have hts := atoms_spec (ws := v_m_word) B.pre
  have hown : s.vm.findClass RX13 = some m.cls := findClass_of_methodNamed B.named
  have hlocks := B.notSynchronized
  subst hsz
  have hD := hD0.self (sz := s.heap.size)
  generalize hAe : va_A [(h, .inr (14, mL f))] s.heap.size = A at hD ⊢
  have hA : ∀ q : Nat, s.heap.size ≤ q → A q := fun q h => by rw [← hAe]; exact Or.inr h
  have hS : va_S A s.heap s.heap [] := va_S.rf
  have hP : va_P (dC, dI) vwCl [(h, .inr (14, mL f))] s.heap := hP
  have hl := lv_entry ([.ref h, .int a0, .int a1, .int a2, .int a3, .int a4, .int a5, .int a6]) (n := 8) (Nat.le_of_ble_eq_true rfl)
  rw [lg_entry_eq]
  generalize (lg_sl ([.ref h, .int a0, .int a1, .int a2, .int a3, .int a4, .int a5, .int a6]) ++ List.replicate (8 - (lg_sl ([.ref h, .int a0, .int a1, .int a2, .int a3, .int a4, .int a5, .int a6])).length) Slot.unset).toArray = ls at hl ⊢
  have hl : lv_has ls 8 [(0, .ref h), (1, .int a0), (2, .int a1), (3, .int a2), (4, .int a3), (5, .int a4), (6, .int a5), (7, .int a6)] := hl
  refine lv_aload_n hx hb dX13_word_0 rfl (lv_at hl 0 rfl) ?_
  refine lv_iconst (v := 0) hx hb dX13_word_1 (by decide) ?_
  refine va_put (D := (dC, dI)) (ci := 14) (v := .int 0) (ty := .int) (C := RX13) (T := TX13) (N := 97) hx hb hts iw_m_word_X13 tyX13 tyX13_ok nmX13 hown hK hP hD hS 0 rfl rfl 0 (by decide) (hts (.fieldLink RX13 228 "UnlikeBoatsModel" "thrown" "I") (List.mem_of_getElem? (i := 1) rfl)) (fun _ h9 => h9) rfl (by decide +kernel) rfl rfl (mL_lt (Nat.le_of_ble_eq_true rfl)) dX13_word_2 (fun H locs hP hD hS => ?_)
  have hP : va_P (dC, dI) vwCl [(h, .inr (14, (mL f).set 0 (.int 0)))] H := hP
  have hD : va_D A [(h, .inr (14, (mL f).set 0 (.int 0)))] := hD
  rw [mL_same hf_thrown] at hP hD
  refine lv_aload_n hx hb dX13_word_5 rfl (lv_at hl 0 rfl) ?_
  refine va_get (D := (dC, dI)) (ci := 14) (v := .int 0) (C := RX13) (T := TX13) (N := 97) hx hb hts iw_m_word_X13 hown hK hP 0 rfl rfl 74 (by decide) (hts (.fieldLink RX13 460 "UnlikeBoatsModel" "words" "I") (List.mem_of_getElem? (i := 2) rfl)) (fun _ h9 => h9) (mL_some (Nat.le_of_ble_eq_true rfl) hf_words) dX13_word_6 ?_
  refine lv_sipush (v := 200) hx hb dX13_word_9 (by decide) ?_
  refine lv_icmp_eq (tgt := 85) hx hb dX13_word_12 (by decide) (fun c1 => by first | exact absurd c1 (by decide) | exact absurd (by decide) c1) (fun c1 => ?_)
  refine lv_aload_n hx hb dX13_word_15 rfl (lv_at hl 0 rfl) ?_
  refine lv_iload_n hx hb dX13_word_16 rfl (lv_at hl 1 rfl) ?_
  refine lv_iload_n hx hb dX13_word_17 rfl (lv_at hl 2 rfl) ?_
  have hPc := hP.sub (ws' := [(h, .inr (14, mL f))]) [0] rfl
  have hKc := hK.sub (tys' := []) [] rfl
  refine va_calli (va_runV (As := [.int a0, .int a1]) (rest := []) ⟨hx, hb, hml, hown, hts⟩ (m_isEntry l dC dI h f a0 a1 hf_races) (cwV 2 hts g_m_word_m_isEntry_402 rfl rfl rfl (by decide +kernel) ⟨Nat.le_of_ble_eq_true rfl, Nat.le_of_ble_eq_true rfl⟩) ⟨fun a U g mk q => by obtain ⟨e0, qP, qK⟩ := q; exact ⟨e0, qP, va_K.moved (u := U) (U := U.calling g mk a) (Vm.Alike.refl U.vm) qK⟩, va_recv hK hP (ci := 14) (q0 := 0) rfl rfl, fun U hU hW => ⟨rfl, by rw [hU]; exact hPc, va_K.moved hW.alike hKc⟩⟩ rfl rfl hl.1 rfl (lv_room (Nat.le_of_ble_eq_true rfl)) dX13_word_18 ⟨Nat.le_of_ble_eq_true rfl, Nat.le_of_ble_eq_true rfl⟩) hS (fun _ _ h => h.elim) (fun _ h => h.elim) (fun r2 u3 t H1 locs ht hvm hw hB hz1 hk1 hS => ?_)
  have hP := ub_keep hP hk1
  generalize H1 = H at hP hS ⊢
  obtain rfl : (0 : Int32) = r2 := hw.symm
  refine lv_if_eq (tgt := 85) hx hb dX13_word_21 (by decide) (fun c4 => ?_) (fun c4 => by first | exact absurd c4 (by decide) | exact absurd (by decide) c4)
  refine lv_iconst (v := -1) hx hb dX13_word_85 (by decide) ?_
  exact W.iret (v := (-1)) hx hb hr (fun t ht hW => ⟨⟨(-1), (), rfl, rfl, trivial⟩, hS.F ht⟩) hS.2.2 dX13_word_86
def A_m_protest : List Cond := [.fieldLink RX13 228 "UnlikeBoatsModel" "thrown" "I", .fieldLink RX13 464 "UnlikeBoatsModel" "protests" "I", .methodLink RX13 402 yX13_isEntry, .instanceMethod yX13_isEntry, .selects RX13 yX13_isEntry yX13_isEntry, .initialized RX13, .code yX13_isEntry cX13_isEntry 3 (some .boolean), .methodLink RX13 393 yX13_isRace, .instanceMethod yX13_isRace, .selects RX13 yX13_isRace yX13_isRace, .code yX13_isRace cX13_isRace 2 (some .boolean), .fieldLink RX13 390 "UnlikeBoatsModel" "races" "I"]
def v_m_protest : List Cond := .code yX13_protest cX13_protest 5 (some .int) :: (A_m_protest ++ wsX130)
theorem iw_m_protest_X13 : ∀ w ∈ wsX130, w ∈ v_m_protest := fun _ h => List.mem_cons_of_mem _ (List.mem_append_right _ (h))
theorem gb_m_protest_m_isEntry0 : GoodIn v_m_protest (.code yX13_isEntry cX13_isEntry 3 (some .boolean) :: A_m_isEntry) := (List.forall_mem_cons.mpr ⟨⟨List.mem_of_getElem? (i := 7) rfl, good_of_word rfl⟩, (List.forall_mem_cons.mpr ⟨⟨List.mem_of_getElem? (i := 8) rfl, good_of_word rfl⟩, (List.forall_mem_cons.mpr ⟨⟨List.mem_of_getElem? (i := 9) rfl, good_of_word rfl⟩, (List.forall_mem_cons.mpr ⟨⟨List.mem_of_getElem? (i := 10) rfl, good_of_word rfl⟩, (List.forall_mem_cons.mpr ⟨⟨List.mem_of_getElem? (i := 6) rfl, good_of_word rfl⟩, (List.forall_mem_cons.mpr ⟨⟨List.mem_of_getElem? (i := 11) rfl, good_of_word rfl⟩, (List.forall_mem_cons.mpr ⟨⟨List.mem_of_getElem? (i := 12) rfl, good_of_word rfl⟩, (fun _ h => nomatch h)⟩)⟩)⟩)⟩)⟩)⟩)⟩)
theorem gb_m_protest_m_isEntry : GoodIn v_m_protest v_m_isEntry := (goodIn_ca gb_m_protest_m_isEntry0 (goodIn_sub iw_m_protest_X13 gw_X13))
theorem g_m_protest_m_isEntry_402 : GoodIn v_m_protest (wsV RX13 402 RX13 yX13_isEntry v_m_isEntry) := goodIn_app (List.forall_mem_cons.mpr ⟨⟨List.mem_of_getElem? (i := 3) rfl, good_of_word rfl⟩, (List.forall_mem_cons.mpr ⟨⟨List.mem_of_getElem? (i := 4) rfl, good_of_word rfl⟩, (List.forall_mem_cons.mpr ⟨⟨List.mem_of_getElem? (i := 5) rfl, good_of_word rfl⟩, (List.forall_mem_cons.mpr ⟨⟨List.mem_of_getElem? (i := 6) rfl, good_of_word rfl⟩, (fun _ h => nomatch h)⟩)⟩)⟩)⟩) gb_m_protest_m_isEntry
set_option maxHeartbeats 4000000 in
set_option maxRecDepth 100000 in
theorem m_protest (l : Launch) (dC : Nat → ClassId) (dI : Nat → Nat → Nat) (h : Nat) (f : Nat → Value) (a0 : Int32) (a1 : Int32) (a2 : Int32) (a3 : Int32) (sz : Nat) (hf_thrown : f 0 = .int 0) (hf_protests : f 75 = .int 0) (hf_races : f 46 = .int 0) : Met l yX13_protest v_m_protest ({ frames := 2, cells := 0, slots := 0, locals := 80 }) (va_Pc [.ref h, .int a0, .int a1, .int a2, .int a3] (fun U => U.heap.size = sz ∧ va_P (dC, dI) vwCl [(h, .inr (14, mL f))] U.heap ∧ va_K (dC, dI) vwCl [] U ∧ va_D (fun _ => True) [(h, .inr (14, mL f))])) (va_Qi (S := Unit) (fun r _ => r = -1) (fun _ _ => True) (va_A [(h, .inr (14, mL f))] sz)) 0 0 (va_A [(h, .inr (14, mL f))] sz) := by
  refine Met.ofW (cc := cX13_protest) (maxL := 5) (ret := (some .int)) (by decide) rfl ?_
  intro p e s m args below meth c s₁ B hml hv
  obtain ⟨rfl, hsz, hP, hK, hD0⟩ := hv
  have hx := B.exec
  have hb := B.bytes
  have hr := B.returns
  have hts := atoms_spec (ws := v_m_protest) B.pre
  have hown : s.vm.findClass RX13 = some m.cls := findClass_of_methodNamed B.named
  have hlocks := B.notSynchronized
  subst hsz
  have hD := hD0.self (sz := s.heap.size)
  generalize hAe : va_A [(h, .inr (14, mL f))] s.heap.size = A at hD ⊢
  have hA : ∀ q : Nat, s.heap.size ≤ q → A q := fun q h => by rw [← hAe]; exact Or.inr h
  have hS : va_S A s.heap s.heap [] := va_S.rf
  have hP : va_P (dC, dI) vwCl [(h, .inr (14, mL f))] s.heap := hP
  have hl := lv_entry ([.ref h, .int a0, .int a1, .int a2, .int a3]) (n := 5) (Nat.le_of_ble_eq_true rfl)
  rw [lg_entry_eq]
  generalize (lg_sl ([.ref h, .int a0, .int a1, .int a2, .int a3]) ++ List.replicate (5 - (lg_sl ([.ref h, .int a0, .int a1, .int a2, .int a3])).length) Slot.unset).toArray = ls at hl ⊢
  have hl : lv_has ls 5 [(0, .ref h), (1, .int a0), (2, .int a1), (3, .int a2), (4, .int a3)] := hl
  refine lv_aload_n hx hb dX13_protest_0 rfl (lv_at hl 0 rfl) ?_
  refine lv_iconst (v := 0) hx hb dX13_protest_1 (by decide) ?_
  refine va_put (D := (dC, dI)) (ci := 14) (v := .int 0) (ty := .int) (C := RX13) (T := TX13) (N := 97) hx hb hts iw_m_protest_X13 tyX13 tyX13_ok nmX13 hown hK hP hD hS 0 rfl rfl 0 (by decide) (hts (.fieldLink RX13 228 "UnlikeBoatsModel" "thrown" "I") (List.mem_of_getElem? (i := 1) rfl)) (fun _ h9 => h9) rfl (by decide +kernel) rfl rfl (mL_lt (Nat.le_of_ble_eq_true rfl)) dX13_protest_2 (fun H locs hP hD hS => ?_)
  have hP : va_P (dC, dI) vwCl [(h, .inr (14, (mL f).set 0 (.int 0)))] H := hP
  have hD : va_D A [(h, .inr (14, (mL f).set 0 (.int 0)))] := hD
  rw [mL_same hf_thrown] at hP hD
  refine lv_aload_n hx hb dX13_protest_5 rfl (lv_at hl 0 rfl) ?_
  refine va_get (D := (dC, dI)) (ci := 14) (v := .int 0) (C := RX13) (T := TX13) (N := 97) hx hb hts iw_m_protest_X13 hown hK hP 0 rfl rfl 75 (by decide) (hts (.fieldLink RX13 464 "UnlikeBoatsModel" "protests" "I") (List.mem_of_getElem? (i := 2) rfl)) (fun _ h9 => h9) (mL_some (Nat.le_of_ble_eq_true rfl) hf_protests) dX13_protest_6 ?_
  refine lv_bipush (v := 30) hx hb dX13_protest_9 (by decide) ?_
  refine lv_icmp_eq (tgt := 49) hx hb dX13_protest_11 (by decide) (fun c1 => by first | exact absurd c1 (by decide) | exact absurd (by decide) c1) (fun c1 => ?_)
  refine lv_aload_n hx hb dX13_protest_14 rfl (lv_at hl 0 rfl) ?_
  refine lv_iload_n hx hb dX13_protest_15 rfl (lv_at hl 1 rfl) ?_
  refine lv_iload_n hx hb dX13_protest_16 rfl (lv_at hl 2 rfl) ?_
  have hPc := hP.sub (ws' := [(h, .inr (14, mL f))]) [0] rfl
  have hKc := hK.sub (tys' := []) [] rfl
  refine va_calli (va_runV (As := [.int a0, .int a1]) (rest := []) ⟨hx, hb, hml, hown, hts⟩ (m_isEntry l dC dI h f a0 a1 hf_races) (cwV 2 hts g_m_protest_m_isEntry_402 rfl rfl rfl (by decide +kernel) ⟨Nat.le_of_ble_eq_true rfl, Nat.le_of_ble_eq_true rfl⟩) ⟨fun a U g mk q => by obtain ⟨e0, qP, qK⟩ := q; exact ⟨e0, qP, va_K.moved (u := U) (U := U.calling g mk a) (Vm.Alike.refl U.vm) qK⟩, va_recv hK hP (ci := 14) (q0 := 0) rfl rfl, fun U hU hW => ⟨rfl, by rw [hU]; exact hPc, va_K.moved hW.alike hKc⟩⟩ rfl rfl hl.1 rfl (lv_room (Nat.le_of_ble_eq_true rfl)) dX13_protest_17 ⟨Nat.le_of_ble_eq_true rfl, Nat.le_of_ble_eq_true rfl⟩) hS (fun _ _ h => h.elim) (fun _ h => h.elim) (fun r2 u3 t H1 locs ht hvm hw hB hz1 hk1 hS => ?_)
  have hP := ub_keep hP hk1
  generalize H1 = H at hP hS ⊢
  obtain rfl : (0 : Int32) = r2 := hw.symm
  refine lv_if_eq (tgt := 49) hx hb dX13_protest_20 (by decide) (fun c4 => ?_) (fun c4 => by first | exact absurd c4 (by decide) | exact absurd (by decide) c4)
  refine lv_iconst (v := -1) hx hb dX13_protest_49 (by decide) ?_
  exact W.iret (v := (-1)) hx hb hr (fun t ht hW => ⟨⟨(-1), (), rfl, rfl, trivial⟩, hS.F ht⟩) hS.2.2 dX13_protest_50
def A_m_asksProtest : List Cond := [.fieldLink RX13 228 "UnlikeBoatsModel" "thrown" "I", .fieldLink RX13 464 "UnlikeBoatsModel" "protests" "I", .methodLink RX13 235 yX13_isIn, .static yX13_isIn, .initialized RX13, .code yX13_isIn cX13_isIn 3 (some .boolean)]
def v_m_asksProtest : List Cond := .code yX13_asksProtest cX13_asksProtest 4 (some .boolean) :: (A_m_asksProtest ++ wsX130)
theorem iw_m_asksProtest_X13 : ∀ w ∈ wsX130, w ∈ v_m_asksProtest := fun _ h => List.mem_cons_of_mem _ (List.mem_append_right _ (h))
theorem gb_m_asksProtest_m_isIn0 : GoodIn v_m_asksProtest (.code yX13_isIn cX13_isIn 3 (some .boolean) :: A_m_isIn) := (List.forall_mem_cons.mpr ⟨⟨List.mem_of_getElem? (i := 6) rfl, good_of_word rfl⟩, (fun _ h => nomatch h)⟩)
theorem gb_m_asksProtest_m_isIn : GoodIn v_m_asksProtest v_m_isIn := gb_m_asksProtest_m_isIn0
theorem g_m_asksProtest_m_isIn_235 : GoodIn v_m_asksProtest (va_wsS RX13 235 yX13_isIn v_m_isIn) := goodIn_app (List.forall_mem_cons.mpr ⟨⟨List.mem_of_getElem? (i := 3) rfl, good_of_word rfl⟩, (List.forall_mem_cons.mpr ⟨⟨List.mem_of_getElem? (i := 4) rfl, good_of_word rfl⟩, (List.forall_mem_cons.mpr ⟨⟨List.mem_of_getElem? (i := 5) rfl, good_of_word rfl⟩, (fun _ h => nomatch h)⟩)⟩)⟩) gb_m_asksProtest_m_isIn
set_option maxHeartbeats 4000000 in
set_option maxRecDepth 100000 in
theorem m_asksProtest (l : Launch) (dC : Nat → ClassId) (dI : Nat → Nat → Nat) (h : Nat) (f : Nat → Value) (a0 : Int32) (a1 : Int32) (a2 : Int32) (sz : Nat) (hf_thrown : f 0 = .int 0) (hf_protests : f 75 = .int 0) (hf_now : f 1 = .int 0) : Met l yX13_asksProtest v_m_asksProtest ({ frames := 1, cells := 0, slots := 0, locals := 40 }) (va_Pc [.ref h, .int a0, .int a1, .int a2] (fun U => U.heap.size = sz ∧ va_P (dC, dI) vwCl [(h, .inr (14, mL f))] U.heap ∧ va_K (dC, dI) vwCl [] U ∧ va_D (fun _ => True) [(h, .inr (14, mL f))])) (va_Qi (S := Unit) (fun r _ => r = 0) (fun _ _ => True) (va_A [(h, .inr (14, mL f))] sz)) 0 0 (va_A [(h, .inr (14, mL f))] sz) := by
  refine Met.ofW (cc := cX13_asksProtest) (maxL := 4) (ret := (some .boolean)) (by decide) rfl ?_
  intro p e s m args below meth c s₁ B hml hv
  obtain ⟨rfl, hsz, hP, hK, hD0⟩ := hv
  have hx := B.exec
  have hb := B.bytes
  have hr := B.returns
  have hts := atoms_spec (ws := v_m_asksProtest) B.pre
  have hown : s.vm.findClass RX13 = some m.cls := findClass_of_methodNamed B.named
  have hlocks := B.notSynchronized
  subst hsz
  have hD := hD0.self (sz := s.heap.size)
  generalize hAe : va_A [(h, .inr (14, mL f))] s.heap.size = A at hD ⊢
  have hA : ∀ q : Nat, s.heap.size ≤ q → A q := fun q h => by rw [← hAe]; exact Or.inr h
  have hS : va_S A s.heap s.heap [] := va_S.rf
  have hP : va_P (dC, dI) vwCl [(h, .inr (14, mL f))] s.heap := hP
  have hl := lv_entry ([.ref h, .int a0, .int a1, .int a2]) (n := 4) (Nat.le_of_ble_eq_true rfl)
  rw [lg_entry_eq]
  generalize (lg_sl ([.ref h, .int a0, .int a1, .int a2]) ++ List.replicate (4 - (lg_sl ([.ref h, .int a0, .int a1, .int a2])).length) Slot.unset).toArray = ls at hl ⊢
  have hl : lv_has ls 4 [(0, .ref h), (1, .int a0), (2, .int a1), (3, .int a2)] := hl
  refine lv_aload_n hx hb dX13_asksProtest_0 rfl (lv_at hl 0 rfl) ?_
  refine lv_iconst (v := 0) hx hb dX13_asksProtest_1 (by decide) ?_
  refine va_put (D := (dC, dI)) (ci := 14) (v := .int 0) (ty := .int) (C := RX13) (T := TX13) (N := 97) hx hb hts iw_m_asksProtest_X13 tyX13 tyX13_ok nmX13 hown hK hP hD hS 0 rfl rfl 0 (by decide) (hts (.fieldLink RX13 228 "UnlikeBoatsModel" "thrown" "I") (List.mem_of_getElem? (i := 1) rfl)) (fun _ h9 => h9) rfl (by decide +kernel) rfl rfl (mL_lt (Nat.le_of_ble_eq_true rfl)) dX13_asksProtest_2 (fun H locs hP hD hS => ?_)
  have hP : va_P (dC, dI) vwCl [(h, .inr (14, (mL f).set 0 (.int 0)))] H := hP
  have hD : va_D A [(h, .inr (14, (mL f).set 0 (.int 0)))] := hD
  rw [mL_same hf_thrown] at hP hD
  refine lv_iload_n hx hb dX13_asksProtest_5 rfl (lv_at hl 1 rfl) ?_
  refine lv_iconst (v := 0) hx hb dX13_asksProtest_6 (by decide) ?_
  refine lv_aload_n hx hb dX13_asksProtest_7 rfl (lv_at hl 0 rfl) ?_
  refine va_get (D := (dC, dI)) (ci := 14) (v := .int 0) (C := RX13) (T := TX13) (N := 97) hx hb hts iw_m_asksProtest_X13 hown hK hP 0 rfl rfl 75 (by decide) (hts (.fieldLink RX13 464 "UnlikeBoatsModel" "protests" "I") (List.mem_of_getElem? (i := 2) rfl)) (fun _ h9 => h9) (mL_some (Nat.le_of_ble_eq_true rfl) hf_protests) dX13_asksProtest_8 ?_
  refine lv_iconst (v := 1) hx hb dX13_asksProtest_11 (by decide) ?_
  refine lv_isub hx hb dX13_asksProtest_12 ?_
  refine lv_topi (fun y1 ey1 => ?_)
  obtain rfl : (-1 : Int32) = y1 := (ey1.trans (by decide)).symm
  refine va_calli (va_runS (As := [.int a0, .int 0, .int (-1)]) (rest := []) ⟨hx, hb, hml, hown, hts⟩ (m_isIn l a0 (0) (-1)) (va_cwS 3 hts g_m_asksProtest_m_isIn_235 rfl rfl rfl (by decide +kernel) ⟨Nat.le_of_ble_eq_true rfl, Nat.le_of_ble_eq_true rfl⟩) ⟨fun _ _ _ _ q => q, fun _ _ _ => ⟨rfl, trivial⟩⟩ rfl rfl hl.1 rfl (lv_room (Nat.le_of_ble_eq_true rfl)) dX13_asksProtest_13 ⟨Nat.le_of_ble_eq_true rfl, Nat.le_of_ble_eq_true rfl⟩) hS (fun _ _ h => h.elim) (fun _ h => h.elim) (fun r2 u3 t H1 locs ht hvm hw hB hz1 hk1 hS => ?_)
  have hP := ub_keep hP hk1
  generalize H1 = H at hP hS ⊢
  rcases hw with ⟨-, hw1, hw2⟩ | ⟨rfl, -⟩
  · exact (ub_rng (lo := 0) (hi := -1) (by decide) hw1 hw2).elim
  refine lv_if_eq (tgt := 46) hx hb dX13_asksProtest_16 (by decide) (fun c4 => ?_) (fun c4 => by first | exact absurd c4 (by decide) | exact absurd (by decide) c4)
  refine lv_iconst (v := 0) hx hb dX13_asksProtest_46 (by decide) ?_
  exact W.zret (v := (0)) hx hb hr rfl (fun t ht hW => ⟨⟨(0), (), rfl, rfl, trivial⟩, hS.F ht⟩) hS.2.2 dX13_asksProtest_47
def A_m_states : List Cond := [.methodLink RX13 481 yX13_asksProtest, .instanceMethod yX13_asksProtest, .selects RX13 yX13_asksProtest yX13_asksProtest, .initialized RX13, .code yX13_asksProtest cX13_asksProtest 4 (some .boolean), .fieldLink RX13 228 "UnlikeBoatsModel" "thrown" "I", .fieldLink RX13 464 "UnlikeBoatsModel" "protests" "I", .methodLink RX13 235 yX13_isIn, .static yX13_isIn, .code yX13_isIn cX13_isIn 3 (some .boolean)]
def v_m_states : List Cond := .code yX13_states cX13_states 4 (some .int) :: (A_m_states ++ wsX130)
theorem iw_m_states_X13 : ∀ w ∈ wsX130, w ∈ v_m_states := fun _ h => List.mem_cons_of_mem _ (List.mem_append_right _ (h))
theorem gb_m_states_m_asksProtest0 : GoodIn v_m_states (.code yX13_asksProtest cX13_asksProtest 4 (some .boolean) :: A_m_asksProtest) := (List.forall_mem_cons.mpr ⟨⟨List.mem_of_getElem? (i := 5) rfl, good_of_word rfl⟩, (List.forall_mem_cons.mpr ⟨⟨List.mem_of_getElem? (i := 6) rfl, good_of_word rfl⟩, (List.forall_mem_cons.mpr ⟨⟨List.mem_of_getElem? (i := 7) rfl, good_of_word rfl⟩, (List.forall_mem_cons.mpr ⟨⟨List.mem_of_getElem? (i := 8) rfl, good_of_word rfl⟩, (List.forall_mem_cons.mpr ⟨⟨List.mem_of_getElem? (i := 9) rfl, good_of_word rfl⟩, (List.forall_mem_cons.mpr ⟨⟨List.mem_of_getElem? (i := 4) rfl, good_of_word rfl⟩, (List.forall_mem_cons.mpr ⟨⟨List.mem_of_getElem? (i := 10) rfl, good_of_word rfl⟩, (fun _ h => nomatch h)⟩)⟩)⟩)⟩)⟩)⟩)⟩)
theorem gb_m_states_m_asksProtest : GoodIn v_m_states v_m_asksProtest := (goodIn_ca gb_m_states_m_asksProtest0 (goodIn_sub iw_m_states_X13 gw_X13))
theorem g_m_states_m_asksProtest_481 : GoodIn v_m_states (wsV RX13 481 RX13 yX13_asksProtest v_m_asksProtest) := goodIn_app (List.forall_mem_cons.mpr ⟨⟨List.mem_of_getElem? (i := 1) rfl, good_of_word rfl⟩, (List.forall_mem_cons.mpr ⟨⟨List.mem_of_getElem? (i := 2) rfl, good_of_word rfl⟩, (List.forall_mem_cons.mpr ⟨⟨List.mem_of_getElem? (i := 3) rfl, good_of_word rfl⟩, (List.forall_mem_cons.mpr ⟨⟨List.mem_of_getElem? (i := 4) rfl, good_of_word rfl⟩, (fun _ h => nomatch h)⟩)⟩)⟩)⟩) gb_m_states_m_asksProtest
set_option maxHeartbeats 4000000 in
set_option maxRecDepth 100000 in
theorem m_states (l : Launch) (dC : Nat → ClassId) (dI : Nat → Nat → Nat) (h : Nat) (f : Nat → Value) (a0 : Int32) (a1 : Int32) (a2 : Int32) (sz : Nat) (hf_thrown : f 0 = .int 0) (hf_protests : f 75 = .int 0) (hf_now : f 1 = .int 0) : Met l yX13_states v_m_states ({ frames := 2, cells := 0, slots := 0, locals := 80 }) (va_Pc [.ref h, .int a0, .int a1, .int a2] (fun U => U.heap.size = sz ∧ va_P (dC, dI) vwCl [(h, .inr (14, mL f))] U.heap ∧ va_K (dC, dI) vwCl [] U ∧ va_D (fun _ => True) [(h, .inr (14, mL f))])) (va_Qi (S := Unit) (fun r _ => r = -1) (fun _ _ => True) (va_A [(h, .inr (14, mL f))] sz)) 0 0 (va_A [(h, .inr (14, mL f))] sz) := by
  refine Met.ofW (cc := cX13_states) (maxL := 4) (ret := (some .int)) (by decide) rfl ?_
  intro p e s m args below meth c s₁ B hml hv
  obtain ⟨rfl, hsz, hP, hK, hD0⟩ := hv
  have hx := B.exec
  have hb := B.bytes
  have hr := B.returns
  have hts := atoms_spec (ws := v_m_states) B.pre
  have hown : s.vm.findClass RX13 = some m.cls := findClass_of_methodNamed B.named
  have hlocks := B.notSynchronized
  subst hsz
  have hD := hD0.self (sz := s.heap.size)
  generalize hAe : va_A [(h, .inr (14, mL f))] s.heap.size = A at hD ⊢
  have hA : ∀ q : Nat, s.heap.size ≤ q → A q := fun q h => by rw [← hAe]; exact Or.inr h
  have hS : va_S A s.heap s.heap [] := va_S.rf
  have hP : va_P (dC, dI) vwCl [(h, .inr (14, mL f))] s.heap := hP
  have hl := lv_entry ([.ref h, .int a0, .int a1, .int a2]) (n := 4) (Nat.le_of_ble_eq_true rfl)
  rw [lg_entry_eq]
  generalize (lg_sl ([.ref h, .int a0, .int a1, .int a2]) ++ List.replicate (4 - (lg_sl ([.ref h, .int a0, .int a1, .int a2])).length) Slot.unset).toArray = ls at hl ⊢
  have hl : lv_has ls 4 [(0, .ref h), (1, .int a0), (2, .int a1), (3, .int a2)] := hl
  refine lv_aload_n hx hb dX13_states_0 rfl (lv_at hl 0 rfl) ?_
  refine lv_iload_n hx hb dX13_states_1 rfl (lv_at hl 1 rfl) ?_
  refine lv_iload_n hx hb dX13_states_2 rfl (lv_at hl 2 rfl) ?_
  refine lv_iload_n hx hb dX13_states_3 rfl (lv_at hl 3 rfl) ?_
  have hPc := hP.sub (ws' := [(h, .inr (14, mL f))]) [0] rfl
  have hKc := hK.sub (tys' := []) [] rfl
  have hDc := hD.sub (ws' := [(h, .inr (14, mL f))]) [0] (by decide) rfl
  have hFc := va_free (wc := [(h, .inr (14, mL f))]) hD hS hA [0] rfl
  refine va_calli (va_runV (As := [.int a0, .int a1, .int a2]) (rest := []) ⟨hx, hb, hml, hown, hts⟩ (m_asksProtest l dC dI h f a0 a1 a2 s.heap.size hf_thrown hf_protests hf_now) (cwV 3 hts g_m_states_m_asksProtest_481 rfl rfl rfl (by decide +kernel) ⟨Nat.le_of_ble_eq_true rfl, Nat.le_of_ble_eq_true rfl⟩) ⟨fun a U g mk q => by obtain ⟨e0, e1, qP, qK, qD⟩ := q; exact ⟨e0, e1, qP, va_K.moved (u := U) (U := U.calling g mk a) (Vm.Alike.refl U.vm) qK, qD⟩, va_recv hK hP (ci := 14) (q0 := 0) rfl rfl, fun U hU hW => ⟨rfl, by rw [hU], by rw [hU]; exact hPc, va_K.moved hW.alike hKc, hDc.weaken (fun _ _ _ _ => trivial)⟩⟩ rfl rfl hl.1 rfl (lv_room (Nat.le_of_ble_eq_true rfl)) dX13_states_4 ⟨Nat.le_of_ble_eq_true rfl, Nat.le_of_ble_eq_true rfl⟩) hS (fun q _ h => hFc q h) hFc (fun r1 u2 t H1 locs ht hvm hw hB hz1 hk1 hS => ?_)
  have hP1 : va_P (dC, dI) vwCl [] H1 := ub_P0
  have hD1 : va_D (va_A [(h, .inr (14, mL f))] s.heap.size) [] := ub_D0
  obtain ⟨hP, hD⟩ := va_join (wr := []) (w1 := []) hP hD [0] [] rfl rfl (by decide) (by decide) hk1 hFc hP1 hD1
  generalize H1 = H at hP hS ⊢
  have hP : va_P (dC, dI) vwCl [] H := hP
  have hD : va_D A [] := hD
  refine W.widen (k := 0) (n := 0) (by omega) (by omega) ?_
  obtain rfl : (0 : Int32) = r1 := hw.symm
  refine lv_if_eq (tgt := 19) hx hb dX13_states_7 (by decide) (fun c3 => ?_) (fun c3 => by first | exact absurd c3 (by decide) | exact absurd (by decide) c3)
  refine lv_iconst (v := -1) hx hb dX13_states_19 (by decide) ?_
  exact W.iret (v := (-1)) hx hb hr (fun t ht hW => ⟨⟨(-1), (), rfl, rfl, trivial⟩, hS.F ht⟩) hS.2.2 dX13_states_20
def A_m_finding : List Cond := [.methodLink RX13 481 yX13_asksProtest, .instanceMethod yX13_asksProtest, .selects RX13 yX13_asksProtest yX13_asksProtest, .initialized RX13, .code yX13_asksProtest cX13_asksProtest 4 (some .boolean), .fieldLink RX13 228 "UnlikeBoatsModel" "thrown" "I", .fieldLink RX13 464 "UnlikeBoatsModel" "protests" "I", .methodLink RX13 235 yX13_isIn, .static yX13_isIn, .code yX13_isIn cX13_isIn 3 (some .boolean)]
def v_m_finding : List Cond := .code yX13_finding cX13_finding 4 (some .int) :: (A_m_finding ++ wsX130)
theorem iw_m_finding_X13 : ∀ w ∈ wsX130, w ∈ v_m_finding := fun _ h => List.mem_cons_of_mem _ (List.mem_append_right _ (h))
theorem gb_m_finding_m_asksProtest0 : GoodIn v_m_finding (.code yX13_asksProtest cX13_asksProtest 4 (some .boolean) :: A_m_asksProtest) := (List.forall_mem_cons.mpr ⟨⟨List.mem_of_getElem? (i := 5) rfl, good_of_word rfl⟩, (List.forall_mem_cons.mpr ⟨⟨List.mem_of_getElem? (i := 6) rfl, good_of_word rfl⟩, (List.forall_mem_cons.mpr ⟨⟨List.mem_of_getElem? (i := 7) rfl, good_of_word rfl⟩, (List.forall_mem_cons.mpr ⟨⟨List.mem_of_getElem? (i := 8) rfl, good_of_word rfl⟩, (List.forall_mem_cons.mpr ⟨⟨List.mem_of_getElem? (i := 9) rfl, good_of_word rfl⟩, (List.forall_mem_cons.mpr ⟨⟨List.mem_of_getElem? (i := 4) rfl, good_of_word rfl⟩, (List.forall_mem_cons.mpr ⟨⟨List.mem_of_getElem? (i := 10) rfl, good_of_word rfl⟩, (fun _ h => nomatch h)⟩)⟩)⟩)⟩)⟩)⟩)⟩)
theorem gb_m_finding_m_asksProtest : GoodIn v_m_finding v_m_asksProtest := (goodIn_ca gb_m_finding_m_asksProtest0 (goodIn_sub iw_m_finding_X13 gw_X13))
theorem g_m_finding_m_asksProtest_481 : GoodIn v_m_finding (wsV RX13 481 RX13 yX13_asksProtest v_m_asksProtest) := goodIn_app (List.forall_mem_cons.mpr ⟨⟨List.mem_of_getElem? (i := 1) rfl, good_of_word rfl⟩, (List.forall_mem_cons.mpr ⟨⟨List.mem_of_getElem? (i := 2) rfl, good_of_word rfl⟩, (List.forall_mem_cons.mpr ⟨⟨List.mem_of_getElem? (i := 3) rfl, good_of_word rfl⟩, (List.forall_mem_cons.mpr ⟨⟨List.mem_of_getElem? (i := 4) rfl, good_of_word rfl⟩, (fun _ h => nomatch h)⟩)⟩)⟩)⟩) gb_m_finding_m_asksProtest
set_option maxHeartbeats 4000000 in
set_option maxRecDepth 100000 in
theorem m_finding (l : Launch) (dC : Nat → ClassId) (dI : Nat → Nat → Nat) (h : Nat) (f : Nat → Value) (a0 : Int32) (a1 : Int32) (a2 : Int32) (sz : Nat) (hf_thrown : f 0 = .int 0) (hf_protests : f 75 = .int 0) (hf_now : f 1 = .int 0) : Met l yX13_finding v_m_finding ({ frames := 2, cells := 0, slots := 0, locals := 80 }) (va_Pc [.ref h, .int a0, .int a1, .int a2] (fun U => U.heap.size = sz ∧ va_P (dC, dI) vwCl [(h, .inr (14, mL f))] U.heap ∧ va_K (dC, dI) vwCl [] U ∧ va_D (fun _ => True) [(h, .inr (14, mL f))])) (va_Qi (S := Unit) (fun r _ => r = -1) (fun _ _ => True) (va_A [(h, .inr (14, mL f))] sz)) 0 0 (va_A [(h, .inr (14, mL f))] sz) := by
  refine Met.ofW (cc := cX13_finding) (maxL := 4) (ret := (some .int)) (by decide) rfl ?_
  intro p e s m args below meth c s₁ B hml hv
  obtain ⟨rfl, hsz, hP, hK, hD0⟩ := hv
  have hx := B.exec
  have hb := B.bytes
  have hr := B.returns
  have hts := atoms_spec (ws := v_m_finding) B.pre
  have hown : s.vm.findClass RX13 = some m.cls := findClass_of_methodNamed B.named
  have hlocks := B.notSynchronized
  subst hsz
  have hD := hD0.self (sz := s.heap.size)
  generalize hAe : va_A [(h, .inr (14, mL f))] s.heap.size = A at hD ⊢
  have hA : ∀ q : Nat, s.heap.size ≤ q → A q := fun q h => by rw [← hAe]; exact Or.inr h
  have hS : va_S A s.heap s.heap [] := va_S.rf
  have hP : va_P (dC, dI) vwCl [(h, .inr (14, mL f))] s.heap := hP
  have hl := lv_entry ([.ref h, .int a0, .int a1, .int a2]) (n := 4) (Nat.le_of_ble_eq_true rfl)
  rw [lg_entry_eq]
  generalize (lg_sl ([.ref h, .int a0, .int a1, .int a2]) ++ List.replicate (4 - (lg_sl ([.ref h, .int a0, .int a1, .int a2])).length) Slot.unset).toArray = ls at hl ⊢
  have hl : lv_has ls 4 [(0, .ref h), (1, .int a0), (2, .int a1), (3, .int a2)] := hl
  refine lv_aload_n hx hb dX13_finding_0 rfl (lv_at hl 0 rfl) ?_
  refine lv_iload_n hx hb dX13_finding_1 rfl (lv_at hl 1 rfl) ?_
  refine lv_iload_n hx hb dX13_finding_2 rfl (lv_at hl 2 rfl) ?_
  refine lv_iload_n hx hb dX13_finding_3 rfl (lv_at hl 3 rfl) ?_
  have hPc := hP.sub (ws' := [(h, .inr (14, mL f))]) [0] rfl
  have hKc := hK.sub (tys' := []) [] rfl
  have hDc := hD.sub (ws' := [(h, .inr (14, mL f))]) [0] (by decide) rfl
  have hFc := va_free (wc := [(h, .inr (14, mL f))]) hD hS hA [0] rfl
  refine va_calli (va_runV (As := [.int a0, .int a1, .int a2]) (rest := []) ⟨hx, hb, hml, hown, hts⟩ (m_asksProtest l dC dI h f a0 a1 a2 s.heap.size hf_thrown hf_protests hf_now) (cwV 3 hts g_m_finding_m_asksProtest_481 rfl rfl rfl (by decide +kernel) ⟨Nat.le_of_ble_eq_true rfl, Nat.le_of_ble_eq_true rfl⟩) ⟨fun a U g mk q => by obtain ⟨e0, e1, qP, qK, qD⟩ := q; exact ⟨e0, e1, qP, va_K.moved (u := U) (U := U.calling g mk a) (Vm.Alike.refl U.vm) qK, qD⟩, va_recv hK hP (ci := 14) (q0 := 0) rfl rfl, fun U hU hW => ⟨rfl, by rw [hU], by rw [hU]; exact hPc, va_K.moved hW.alike hKc, hDc.weaken (fun _ _ _ _ => trivial)⟩⟩ rfl rfl hl.1 rfl (lv_room (Nat.le_of_ble_eq_true rfl)) dX13_finding_4 ⟨Nat.le_of_ble_eq_true rfl, Nat.le_of_ble_eq_true rfl⟩) hS (fun q _ h => hFc q h) hFc (fun r1 u2 t H1 locs ht hvm hw hB hz1 hk1 hS => ?_)
  have hP1 : va_P (dC, dI) vwCl [] H1 := ub_P0
  have hD1 : va_D (va_A [(h, .inr (14, mL f))] s.heap.size) [] := ub_D0
  obtain ⟨hP, hD⟩ := va_join (wr := []) (w1 := []) hP hD [0] [] rfl rfl (by decide) (by decide) hk1 hFc hP1 hD1
  generalize H1 = H at hP hS ⊢
  have hP : va_P (dC, dI) vwCl [] H := hP
  have hD : va_D A [] := hD
  refine W.widen (k := 0) (n := 0) (by omega) (by omega) ?_
  obtain rfl : (0 : Int32) = r1 := hw.symm
  refine lv_if_eq (tgt := 20) hx hb dX13_finding_7 (by decide) (fun c3 => ?_) (fun c3 => by first | exact absurd c3 (by decide) | exact absurd (by decide) c3)
  refine lv_iconst (v := -1) hx hb dX13_finding_20 (by decide) ?_
  exact W.iret (v := (-1)) hx hb hr (fun t ht hW => ⟨⟨(-1), (), rfl, rfl, trivial⟩, hS.F ht⟩) hS.2.2 dX13_finding_21
def A_m_decide : List Cond := [.fieldLink RX13 228 "UnlikeBoatsModel" "thrown" "I", .fieldLink RX13 464 "UnlikeBoatsModel" "protests" "I", .methodLink RX13 235 yX13_isIn, .static yX13_isIn, .initialized RX13, .code yX13_isIn cX13_isIn 3 (some .boolean)]
def v_m_decide : List Cond := .code yX13_decide cX13_decide 4 (some .int) :: (A_m_decide ++ wsX130)
theorem iw_m_decide_X13 : ∀ w ∈ wsX130, w ∈ v_m_decide := fun _ h => List.mem_cons_of_mem _ (List.mem_append_right _ (h))
theorem gb_m_decide_m_isIn0 : GoodIn v_m_decide (.code yX13_isIn cX13_isIn 3 (some .boolean) :: A_m_isIn) := (List.forall_mem_cons.mpr ⟨⟨List.mem_of_getElem? (i := 6) rfl, good_of_word rfl⟩, (fun _ h => nomatch h)⟩)
theorem gb_m_decide_m_isIn : GoodIn v_m_decide v_m_isIn := gb_m_decide_m_isIn0
theorem g_m_decide_m_isIn_235 : GoodIn v_m_decide (va_wsS RX13 235 yX13_isIn v_m_isIn) := goodIn_app (List.forall_mem_cons.mpr ⟨⟨List.mem_of_getElem? (i := 3) rfl, good_of_word rfl⟩, (List.forall_mem_cons.mpr ⟨⟨List.mem_of_getElem? (i := 4) rfl, good_of_word rfl⟩, (List.forall_mem_cons.mpr ⟨⟨List.mem_of_getElem? (i := 5) rfl, good_of_word rfl⟩, (fun _ h => nomatch h)⟩)⟩)⟩) gb_m_decide_m_isIn
set_option maxHeartbeats 4000000 in
set_option maxRecDepth 100000 in
theorem m_decide (l : Launch) (dC : Nat → ClassId) (dI : Nat → Nat → Nat) (h : Nat) (f : Nat → Value) (a0 : Int32) (sz : Nat) (hf_thrown : f 0 = .int 0) (hf_protests : f 75 = .int 0) : Met l yX13_decide v_m_decide ({ frames := 1, cells := 0, slots := 0, locals := 40 }) (va_Pc [.ref h, .int a0] (fun U => U.heap.size = sz ∧ va_P (dC, dI) vwCl [(h, .inr (14, mL f))] U.heap ∧ va_K (dC, dI) vwCl [] U ∧ va_D (fun _ => True) [(h, .inr (14, mL f))])) (va_Qi (S := Unit) (fun r _ => r = -1) (fun _ _ => True) (va_A [(h, .inr (14, mL f))] sz)) 0 0 (va_A [(h, .inr (14, mL f))] sz) := by
  refine Met.ofW (cc := cX13_decide) (maxL := 4) (ret := (some .int)) (by decide) rfl ?_
  intro p e s m args below meth c s₁ B hml hv
  obtain ⟨rfl, hsz, hP, hK, hD0⟩ := hv
  have hx := B.exec
  have hb := B.bytes
  have hr := B.returns
  have hts := atoms_spec (ws := v_m_decide) B.pre
  have hown : s.vm.findClass RX13 = some m.cls := findClass_of_methodNamed B.named
  have hlocks := B.notSynchronized
  subst hsz
  have hD := hD0.self (sz := s.heap.size)
  generalize hAe : va_A [(h, .inr (14, mL f))] s.heap.size = A at hD ⊢
  have hA : ∀ q : Nat, s.heap.size ≤ q → A q := fun q h => by rw [← hAe]; exact Or.inr h
  have hS : va_S A s.heap s.heap [] := va_S.rf
  have hP : va_P (dC, dI) vwCl [(h, .inr (14, mL f))] s.heap := hP
  have hl := lv_entry ([.ref h, .int a0]) (n := 4) (Nat.le_of_ble_eq_true rfl)
  rw [lg_entry_eq]
  generalize (lg_sl ([.ref h, .int a0]) ++ List.replicate (4 - (lg_sl ([.ref h, .int a0])).length) Slot.unset).toArray = ls at hl ⊢
  have hl : lv_has ls 4 [(0, .ref h), (1, .int a0)] := hl
  refine lv_aload_n hx hb dX13_decide_0 rfl (lv_at hl 0 rfl) ?_
  refine lv_iconst (v := 0) hx hb dX13_decide_1 (by decide) ?_
  refine va_put (D := (dC, dI)) (ci := 14) (v := .int 0) (ty := .int) (C := RX13) (T := TX13) (N := 97) hx hb hts iw_m_decide_X13 tyX13 tyX13_ok nmX13 hown hK hP hD hS 0 rfl rfl 0 (by decide) (hts (.fieldLink RX13 228 "UnlikeBoatsModel" "thrown" "I") (List.mem_of_getElem? (i := 1) rfl)) (fun _ h9 => h9) rfl (by decide +kernel) rfl rfl (mL_lt (Nat.le_of_ble_eq_true rfl)) dX13_decide_2 (fun H locs hP hD hS => ?_)
  have hP : va_P (dC, dI) vwCl [(h, .inr (14, (mL f).set 0 (.int 0)))] H := hP
  have hD : va_D A [(h, .inr (14, (mL f).set 0 (.int 0)))] := hD
  rw [mL_same hf_thrown] at hP hD
  refine lv_iload_n hx hb dX13_decide_5 rfl (lv_at hl 1 rfl) ?_
  refine lv_iconst (v := 0) hx hb dX13_decide_6 (by decide) ?_
  refine lv_aload_n hx hb dX13_decide_7 rfl (lv_at hl 0 rfl) ?_
  refine va_get (D := (dC, dI)) (ci := 14) (v := .int 0) (C := RX13) (T := TX13) (N := 97) hx hb hts iw_m_decide_X13 hown hK hP 0 rfl rfl 75 (by decide) (hts (.fieldLink RX13 464 "UnlikeBoatsModel" "protests" "I") (List.mem_of_getElem? (i := 2) rfl)) (fun _ h9 => h9) (mL_some (Nat.le_of_ble_eq_true rfl) hf_protests) dX13_decide_8 ?_
  refine lv_iconst (v := 1) hx hb dX13_decide_11 (by decide) ?_
  refine lv_isub hx hb dX13_decide_12 ?_
  refine lv_topi (fun y1 ey1 => ?_)
  obtain rfl : (-1 : Int32) = y1 := (ey1.trans (by decide)).symm
  refine va_calli (va_runS (As := [.int a0, .int 0, .int (-1)]) (rest := []) ⟨hx, hb, hml, hown, hts⟩ (m_isIn l a0 (0) (-1)) (va_cwS 3 hts g_m_decide_m_isIn_235 rfl rfl rfl (by decide +kernel) ⟨Nat.le_of_ble_eq_true rfl, Nat.le_of_ble_eq_true rfl⟩) ⟨fun _ _ _ _ q => q, fun _ _ _ => ⟨rfl, trivial⟩⟩ rfl rfl hl.1 rfl (lv_room (Nat.le_of_ble_eq_true rfl)) dX13_decide_13 ⟨Nat.le_of_ble_eq_true rfl, Nat.le_of_ble_eq_true rfl⟩) hS (fun _ _ h => h.elim) (fun _ h => h.elim) (fun r2 u3 t H1 locs ht hvm hw hB hz1 hk1 hS => ?_)
  have hP := ub_keep hP hk1
  generalize H1 = H at hP hS ⊢
  rcases hw with ⟨-, hw1, hw2⟩ | ⟨rfl, -⟩
  · exact (ub_rng (lo := 0) (hi := -1) (by decide) hw1 hw2).elim
  refine lv_if_eq (tgt := 28) hx hb dX13_decide_16 (by decide) (fun c4 => ?_) (fun c4 => by first | exact absurd c4 (by decide) | exact absurd (by decide) c4)
  refine lv_iconst (v := -1) hx hb dX13_decide_28 (by decide) ?_
  exact W.iret (v := (-1)) hx hb hr (fun t ht hW => ⟨⟨(-1), (), rfl, rfl, trivial⟩, hS.F ht⟩) hS.2.2 dX13_decide_29
def A_m_reopen : List Cond := [.fieldLink RX13 228 "UnlikeBoatsModel" "thrown" "I", .fieldLink RX13 464 "UnlikeBoatsModel" "protests" "I", .methodLink RX13 235 yX13_isIn, .static yX13_isIn, .initialized RX13, .code yX13_isIn cX13_isIn 3 (some .boolean)]
def v_m_reopen : List Cond := .code yX13_reopen cX13_reopen 2 (some .boolean) :: (A_m_reopen ++ wsX130)
theorem iw_m_reopen_X13 : ∀ w ∈ wsX130, w ∈ v_m_reopen := fun _ h => List.mem_cons_of_mem _ (List.mem_append_right _ (h))
theorem gb_m_reopen_m_isIn0 : GoodIn v_m_reopen (.code yX13_isIn cX13_isIn 3 (some .boolean) :: A_m_isIn) := (List.forall_mem_cons.mpr ⟨⟨List.mem_of_getElem? (i := 6) rfl, good_of_word rfl⟩, (fun _ h => nomatch h)⟩)
theorem gb_m_reopen_m_isIn : GoodIn v_m_reopen v_m_isIn := gb_m_reopen_m_isIn0
theorem g_m_reopen_m_isIn_235 : GoodIn v_m_reopen (va_wsS RX13 235 yX13_isIn v_m_isIn) := goodIn_app (List.forall_mem_cons.mpr ⟨⟨List.mem_of_getElem? (i := 3) rfl, good_of_word rfl⟩, (List.forall_mem_cons.mpr ⟨⟨List.mem_of_getElem? (i := 4) rfl, good_of_word rfl⟩, (List.forall_mem_cons.mpr ⟨⟨List.mem_of_getElem? (i := 5) rfl, good_of_word rfl⟩, (fun _ h => nomatch h)⟩)⟩)⟩) gb_m_reopen_m_isIn
set_option maxHeartbeats 4000000 in
set_option maxRecDepth 100000 in
theorem m_reopen (l : Launch) (dC : Nat → ClassId) (dI : Nat → Nat → Nat) (h : Nat) (f : Nat → Value) (a0 : Int32) (sz : Nat) (hf_thrown : f 0 = .int 0) (hf_protests : f 75 = .int 0) : Met l yX13_reopen v_m_reopen ({ frames := 1, cells := 0, slots := 0, locals := 40 }) (va_Pc [.ref h, .int a0] (fun U => U.heap.size = sz ∧ va_P (dC, dI) vwCl [(h, .inr (14, mL f))] U.heap ∧ va_K (dC, dI) vwCl [] U ∧ va_D (fun _ => True) [(h, .inr (14, mL f))])) (va_Qi (S := Unit) (fun r _ => r = 0) (fun _ _ => True) (va_A [(h, .inr (14, mL f))] sz)) 0 0 (va_A [(h, .inr (14, mL f))] sz) := by
  refine Met.ofW (cc := cX13_reopen) (maxL := 2) (ret := (some .boolean)) (by decide) rfl ?_
  intro p e s m args below meth c s₁ B hml hv
  obtain ⟨rfl, hsz, hP, hK, hD0⟩ := hv
  have hx := B.exec
  have hb := B.bytes
  have hr := B.returns
  have hts := atoms_spec (ws := v_m_reopen) B.pre
  have hown : s.vm.findClass RX13 = some m.cls := findClass_of_methodNamed B.named
  have hlocks := B.notSynchronized
  subst hsz
  have hD := hD0.self (sz := s.heap.size)
  generalize hAe : va_A [(h, .inr (14, mL f))] s.heap.size = A at hD ⊢
  have hA : ∀ q : Nat, s.heap.size ≤ q → A q := fun q h => by rw [← hAe]; exact Or.inr h
  have hS : va_S A s.heap s.heap [] := va_S.rf
  have hP : va_P (dC, dI) vwCl [(h, .inr (14, mL f))] s.heap := hP
  have hl := lv_entry ([.ref h, .int a0]) (n := 2) (Nat.le_of_ble_eq_true rfl)
  rw [lg_entry_eq]
  generalize (lg_sl ([.ref h, .int a0]) ++ List.replicate (2 - (lg_sl ([.ref h, .int a0])).length) Slot.unset).toArray = ls at hl ⊢
  have hl : lv_has ls 2 [(0, .ref h), (1, .int a0)] := hl
  refine lv_aload_n hx hb dX13_reopen_0 rfl (lv_at hl 0 rfl) ?_
  refine lv_iconst (v := 0) hx hb dX13_reopen_1 (by decide) ?_
  refine va_put (D := (dC, dI)) (ci := 14) (v := .int 0) (ty := .int) (C := RX13) (T := TX13) (N := 97) hx hb hts iw_m_reopen_X13 tyX13 tyX13_ok nmX13 hown hK hP hD hS 0 rfl rfl 0 (by decide) (hts (.fieldLink RX13 228 "UnlikeBoatsModel" "thrown" "I") (List.mem_of_getElem? (i := 1) rfl)) (fun _ h9 => h9) rfl (by decide +kernel) rfl rfl (mL_lt (Nat.le_of_ble_eq_true rfl)) dX13_reopen_2 (fun H locs hP hD hS => ?_)
  have hP : va_P (dC, dI) vwCl [(h, .inr (14, (mL f).set 0 (.int 0)))] H := hP
  have hD : va_D A [(h, .inr (14, (mL f).set 0 (.int 0)))] := hD
  rw [mL_same hf_thrown] at hP hD
  refine lv_iload_n hx hb dX13_reopen_5 rfl (lv_at hl 1 rfl) ?_
  refine lv_iconst (v := 0) hx hb dX13_reopen_6 (by decide) ?_
  refine lv_aload_n hx hb dX13_reopen_7 rfl (lv_at hl 0 rfl) ?_
  refine va_get (D := (dC, dI)) (ci := 14) (v := .int 0) (C := RX13) (T := TX13) (N := 97) hx hb hts iw_m_reopen_X13 hown hK hP 0 rfl rfl 75 (by decide) (hts (.fieldLink RX13 464 "UnlikeBoatsModel" "protests" "I") (List.mem_of_getElem? (i := 2) rfl)) (fun _ h9 => h9) (mL_some (Nat.le_of_ble_eq_true rfl) hf_protests) dX13_reopen_8 ?_
  refine lv_iconst (v := 1) hx hb dX13_reopen_11 (by decide) ?_
  refine lv_isub hx hb dX13_reopen_12 ?_
  refine lv_topi (fun y1 ey1 => ?_)
  obtain rfl : (-1 : Int32) = y1 := (ey1.trans (by decide)).symm
  refine va_calli (va_runS (As := [.int a0, .int 0, .int (-1)]) (rest := []) ⟨hx, hb, hml, hown, hts⟩ (m_isIn l a0 (0) (-1)) (va_cwS 3 hts g_m_reopen_m_isIn_235 rfl rfl rfl (by decide +kernel) ⟨Nat.le_of_ble_eq_true rfl, Nat.le_of_ble_eq_true rfl⟩) ⟨fun _ _ _ _ q => q, fun _ _ _ => ⟨rfl, trivial⟩⟩ rfl rfl hl.1 rfl (lv_room (Nat.le_of_ble_eq_true rfl)) dX13_reopen_13 ⟨Nat.le_of_ble_eq_true rfl, Nat.le_of_ble_eq_true rfl⟩) hS (fun _ _ h => h.elim) (fun _ h => h.elim) (fun r2 u3 t H1 locs ht hvm hw hB hz1 hk1 hS => ?_)
  have hP := ub_keep hP hk1
  generalize H1 = H at hP hS ⊢
  rcases hw with ⟨-, hw1, hw2⟩ | ⟨rfl, -⟩
  · exact (ub_rng (lo := 0) (hi := -1) (by decide) hw1 hw2).elim
  refine lv_if_eq (tgt := 38) hx hb dX13_reopen_16 (by decide) (fun c4 => ?_) (fun c4 => by first | exact absurd c4 (by decide) | exact absurd (by decide) c4)
  refine lv_iconst (v := 0) hx hb dX13_reopen_38 (by decide) ?_
  exact W.zret (v := (0)) hx hb hr rfl (fun t ht hW => ⟨⟨(0), (), rfl, rfl, trivial⟩, hS.F ht⟩) hS.2.2 dX13_reopen_39
def A_m_findEven : List Cond := [.fieldLink RX13 228 "UnlikeBoatsModel" "thrown" "I", .fieldLink RX13 239 "UnlikeBoatsModel" "boats" "I", .methodLink RX13 235 yX13_isIn, .static yX13_isIn, .initialized RX13, .code yX13_isIn cX13_isIn 3 (some .boolean)]
def v_m_findEven : List Cond := .code yX13_findEven cX13_findEven 6 (some .boolean) :: (A_m_findEven ++ wsX130)
theorem iw_m_findEven_X13 : ∀ w ∈ wsX130, w ∈ v_m_findEven := fun _ h => List.mem_cons_of_mem _ (List.mem_append_right _ (h))
theorem gb_m_findEven_m_isIn0 : GoodIn v_m_findEven (.code yX13_isIn cX13_isIn 3 (some .boolean) :: A_m_isIn) := (List.forall_mem_cons.mpr ⟨⟨List.mem_of_getElem? (i := 6) rfl, good_of_word rfl⟩, (fun _ h => nomatch h)⟩)
theorem gb_m_findEven_m_isIn : GoodIn v_m_findEven v_m_isIn := gb_m_findEven_m_isIn0
theorem g_m_findEven_m_isIn_235 : GoodIn v_m_findEven (va_wsS RX13 235 yX13_isIn v_m_isIn) := goodIn_app (List.forall_mem_cons.mpr ⟨⟨List.mem_of_getElem? (i := 3) rfl, good_of_word rfl⟩, (List.forall_mem_cons.mpr ⟨⟨List.mem_of_getElem? (i := 4) rfl, good_of_word rfl⟩, (List.forall_mem_cons.mpr ⟨⟨List.mem_of_getElem? (i := 5) rfl, good_of_word rfl⟩, (fun _ h => nomatch h)⟩)⟩)⟩) gb_m_findEven_m_isIn
set_option maxHeartbeats 4000000 in
set_option maxRecDepth 100000 in
theorem m_findEven (l : Launch) (dC : Nat → ClassId) (dI : Nat → Nat → Nat) (h : Nat) (f : Nat → Value) (a0 : Int32) (sz : Nat) (hf_thrown : f 0 = .int 0) (hf_boats : f 8 = .int 0) : Met l yX13_findEven v_m_findEven ({ frames := 1, cells := 0, slots := 0, locals := 40 }) (va_Pc [.ref h, .int a0] (fun U => U.heap.size = sz ∧ va_P (dC, dI) vwCl [(h, .inr (14, mL f))] U.heap ∧ va_K (dC, dI) vwCl [] U ∧ va_D (fun _ => True) [(h, .inr (14, mL f))])) (va_Qi (S := Unit) (fun r _ => r = 0) (fun _ _ => True) (va_A [(h, .inr (14, mL f))] sz)) 0 0 (va_A [(h, .inr (14, mL f))] sz) := by
  refine Met.ofW (cc := cX13_findEven) (maxL := 6) (ret := (some .boolean)) (by decide) rfl ?_
  intro p e s m args below meth c s₁ B hml hv
  obtain ⟨rfl, hsz, hP, hK, hD0⟩ := hv
  have hx := B.exec
  have hb := B.bytes
  have hr := B.returns
  have hts := atoms_spec (ws := v_m_findEven) B.pre
  have hown : s.vm.findClass RX13 = some m.cls := findClass_of_methodNamed B.named
  have hlocks := B.notSynchronized
  subst hsz
  have hD := hD0.self (sz := s.heap.size)
  generalize hAe : va_A [(h, .inr (14, mL f))] s.heap.size = A at hD ⊢
  have hA : ∀ q : Nat, s.heap.size ≤ q → A q := fun q h => by rw [← hAe]; exact Or.inr h
  have hS : va_S A s.heap s.heap [] := va_S.rf
  have hP : va_P (dC, dI) vwCl [(h, .inr (14, mL f))] s.heap := hP
  have hl := lv_entry ([.ref h, .int a0]) (n := 6) (Nat.le_of_ble_eq_true rfl)
  rw [lg_entry_eq]
  generalize (lg_sl ([.ref h, .int a0]) ++ List.replicate (6 - (lg_sl ([.ref h, .int a0])).length) Slot.unset).toArray = ls at hl ⊢
  have hl : lv_has ls 6 [(0, .ref h), (1, .int a0)] := hl
  refine lv_aload_n hx hb dX13_findEven_0 rfl (lv_at hl 0 rfl) ?_
  refine lv_iconst (v := 0) hx hb dX13_findEven_1 (by decide) ?_
  refine va_put (D := (dC, dI)) (ci := 14) (v := .int 0) (ty := .int) (C := RX13) (T := TX13) (N := 97) hx hb hts iw_m_findEven_X13 tyX13 tyX13_ok nmX13 hown hK hP hD hS 0 rfl rfl 0 (by decide) (hts (.fieldLink RX13 228 "UnlikeBoatsModel" "thrown" "I") (List.mem_of_getElem? (i := 1) rfl)) (fun _ h9 => h9) rfl (by decide +kernel) rfl rfl (mL_lt (Nat.le_of_ble_eq_true rfl)) dX13_findEven_2 (fun H locs hP hD hS => ?_)
  have hP : va_P (dC, dI) vwCl [(h, .inr (14, (mL f).set 0 (.int 0)))] H := hP
  have hD : va_D A [(h, .inr (14, (mL f).set 0 (.int 0)))] := hD
  rw [mL_same hf_thrown] at hP hD
  refine lv_iload_n hx hb dX13_findEven_5 rfl (lv_at hl 1 rfl) ?_
  refine lv_iconst (v := 1) hx hb dX13_findEven_6 (by decide) ?_
  refine lv_iconst (v := 1) hx hb dX13_findEven_7 (by decide) ?_
  refine lv_aload_n hx hb dX13_findEven_8 rfl (lv_at hl 0 rfl) ?_
  refine va_get (D := (dC, dI)) (ci := 14) (v := .int 0) (C := RX13) (T := TX13) (N := 97) hx hb hts iw_m_findEven_X13 hown hK hP 0 rfl rfl 8 (by decide) (hts (.fieldLink RX13 239 "UnlikeBoatsModel" "boats" "I") (List.mem_of_getElem? (i := 2) rfl)) (fun _ h9 => h9) (mL_some (Nat.le_of_ble_eq_true rfl) hf_boats) dX13_findEven_9 ?_
  refine lv_ishl hx hb dX13_findEven_12 ?_
  refine lv_topi (fun y1 ey1 => ?_)
  obtain rfl : (1 : Int32) = y1 := (ey1.trans (by decide)).symm
  refine lv_iconst (v := 1) hx hb dX13_findEven_13 (by decide) ?_
  refine lv_isub hx hb dX13_findEven_14 ?_
  refine lv_topi (fun y2 ey2 => ?_)
  obtain rfl : (0 : Int32) = y2 := (ey2.trans (by decide)).symm
  refine va_calli (va_runS (As := [.int a0, .int 1, .int 0]) (rest := []) ⟨hx, hb, hml, hown, hts⟩ (m_isIn l a0 (1) (0)) (va_cwS 3 hts g_m_findEven_m_isIn_235 rfl rfl rfl (by decide +kernel) ⟨Nat.le_of_ble_eq_true rfl, Nat.le_of_ble_eq_true rfl⟩) ⟨fun _ _ _ _ q => q, fun _ _ _ => ⟨rfl, trivial⟩⟩ rfl rfl hl.1 rfl (lv_room (Nat.le_of_ble_eq_true rfl)) dX13_findEven_15 ⟨Nat.le_of_ble_eq_true rfl, Nat.le_of_ble_eq_true rfl⟩) hS (fun _ _ h => h.elim) (fun _ h => h.elim) (fun r3 u4 t H1 locs ht hvm hw hB hz1 hk1 hS => ?_)
  have hP := ub_keep hP hk1
  generalize H1 = H at hP hS ⊢
  rcases hw with ⟨-, hw1, hw2⟩ | ⟨rfl, -⟩
  · exact (ub_rng (lo := 1) (hi := 0) (by decide) hw1 hw2).elim
  refine lv_if_eq (tgt := 37) hx hb dX13_findEven_18 (by decide) (fun c5 => ?_) (fun c5 => by first | exact absurd c5 (by decide) | exact absurd (by decide) c5)
  refine lv_iconst (v := 0) hx hb dX13_findEven_37 (by decide) ?_
  exact W.zret (v := (0)) hx hb hr rfl (fun t ht hW => ⟨⟨(0), (), rfl, rfl, trivial⟩, hS.F ht⟩) hS.2.2 dX13_findEven_38
def A_m_even : List Cond := [.methodLink RX13 525 yX13_findEven, .instanceMethod yX13_findEven, .selects RX13 yX13_findEven yX13_findEven, .initialized RX13, .code yX13_findEven cX13_findEven 6 (some .boolean), .fieldLink RX13 228 "UnlikeBoatsModel" "thrown" "I", .fieldLink RX13 239 "UnlikeBoatsModel" "boats" "I", .methodLink RX13 235 yX13_isIn, .static yX13_isIn, .code yX13_isIn cX13_isIn 3 (some .boolean)]
def v_m_even : List Cond := .code yX13_even cX13_even 2 (some .int) :: (A_m_even ++ wsX130)
theorem iw_m_even_X13 : ∀ w ∈ wsX130, w ∈ v_m_even := fun _ h => List.mem_cons_of_mem _ (List.mem_append_right _ (h))
theorem gb_m_even_m_findEven0 : GoodIn v_m_even (.code yX13_findEven cX13_findEven 6 (some .boolean) :: A_m_findEven) := (List.forall_mem_cons.mpr ⟨⟨List.mem_of_getElem? (i := 5) rfl, good_of_word rfl⟩, (List.forall_mem_cons.mpr ⟨⟨List.mem_of_getElem? (i := 6) rfl, good_of_word rfl⟩, (List.forall_mem_cons.mpr ⟨⟨List.mem_of_getElem? (i := 7) rfl, good_of_word rfl⟩, (List.forall_mem_cons.mpr ⟨⟨List.mem_of_getElem? (i := 8) rfl, good_of_word rfl⟩, (List.forall_mem_cons.mpr ⟨⟨List.mem_of_getElem? (i := 9) rfl, good_of_word rfl⟩, (List.forall_mem_cons.mpr ⟨⟨List.mem_of_getElem? (i := 4) rfl, good_of_word rfl⟩, (List.forall_mem_cons.mpr ⟨⟨List.mem_of_getElem? (i := 10) rfl, good_of_word rfl⟩, (fun _ h => nomatch h)⟩)⟩)⟩)⟩)⟩)⟩)⟩)
theorem gb_m_even_m_findEven : GoodIn v_m_even v_m_findEven := (goodIn_ca gb_m_even_m_findEven0 (goodIn_sub iw_m_even_X13 gw_X13))
theorem g_m_even_m_findEven_525 : GoodIn v_m_even (wsV RX13 525 RX13 yX13_findEven v_m_findEven) := goodIn_app (List.forall_mem_cons.mpr ⟨⟨List.mem_of_getElem? (i := 1) rfl, good_of_word rfl⟩, (List.forall_mem_cons.mpr ⟨⟨List.mem_of_getElem? (i := 2) rfl, good_of_word rfl⟩, (List.forall_mem_cons.mpr ⟨⟨List.mem_of_getElem? (i := 3) rfl, good_of_word rfl⟩, (List.forall_mem_cons.mpr ⟨⟨List.mem_of_getElem? (i := 4) rfl, good_of_word rfl⟩, (fun _ h => nomatch h)⟩)⟩)⟩)⟩) gb_m_even_m_findEven
set_option maxHeartbeats 4000000 in
set_option maxRecDepth 100000 in
theorem m_even (l : Launch) (dC : Nat → ClassId) (dI : Nat → Nat → Nat) (h : Nat) (f : Nat → Value) (a0 : Int32) (sz : Nat) (hf_thrown : f 0 = .int 0) (hf_boats : f 8 = .int 0) : Met l yX13_even v_m_even ({ frames := 2, cells := 0, slots := 0, locals := 80 }) (va_Pc [.ref h, .int a0] (fun U => U.heap.size = sz ∧ va_P (dC, dI) vwCl [(h, .inr (14, mL f))] U.heap ∧ va_K (dC, dI) vwCl [] U ∧ va_D (fun _ => True) [(h, .inr (14, mL f))])) (va_Qi (S := Unit) (fun r _ => r = -1) (fun _ _ => True) (va_A [(h, .inr (14, mL f))] sz)) 0 0 (va_A [(h, .inr (14, mL f))] sz) := by
  refine Met.ofW (cc := cX13_even) (maxL := 2) (ret := (some .int)) (by decide) rfl ?_
  intro p e s m args below meth c s₁ B hml hv
  obtain ⟨rfl, hsz, hP, hK, hD0⟩ := hv
  have hx := B.exec
  have hb := B.bytes
  have hr := B.returns
  have hts := atoms_spec (ws := v_m_even) B.pre
  have hown : s.vm.findClass RX13 = some m.cls := findClass_of_methodNamed B.named
  have hlocks := B.notSynchronized
  subst hsz
  have hD := hD0.self (sz := s.heap.size)
  generalize hAe : va_A [(h, .inr (14, mL f))] s.heap.size = A at hD ⊢
  have hA : ∀ q : Nat, s.heap.size ≤ q → A q := fun q h => by rw [← hAe]; exact Or.inr h
  have hS : va_S A s.heap s.heap [] := va_S.rf
  have hP : va_P (dC, dI) vwCl [(h, .inr (14, mL f))] s.heap := hP
  have hl := lv_entry ([.ref h, .int a0]) (n := 2) (Nat.le_of_ble_eq_true rfl)
  rw [lg_entry_eq]
  generalize (lg_sl ([.ref h, .int a0]) ++ List.replicate (2 - (lg_sl ([.ref h, .int a0])).length) Slot.unset).toArray = ls at hl ⊢
  have hl : lv_has ls 2 [(0, .ref h), (1, .int a0)] := hl
  refine lv_aload_n hx hb dX13_even_0 rfl (lv_at hl 0 rfl) ?_
  refine lv_iload_n hx hb dX13_even_1 rfl (lv_at hl 1 rfl) ?_
  have hPc := hP.sub (ws' := [(h, .inr (14, mL f))]) [0] rfl
  have hKc := hK.sub (tys' := []) [] rfl
  have hDc := hD.sub (ws' := [(h, .inr (14, mL f))]) [0] (by decide) rfl
  have hFc := va_free (wc := [(h, .inr (14, mL f))]) hD hS hA [0] rfl
  refine va_calli (va_runV (As := [.int a0]) (rest := []) ⟨hx, hb, hml, hown, hts⟩ (m_findEven l dC dI h f a0 s.heap.size hf_thrown hf_boats) (cwV 1 hts g_m_even_m_findEven_525 rfl rfl rfl (by decide +kernel) ⟨Nat.le_of_ble_eq_true rfl, Nat.le_of_ble_eq_true rfl⟩) ⟨fun a U g mk q => by obtain ⟨e0, e1, qP, qK, qD⟩ := q; exact ⟨e0, e1, qP, va_K.moved (u := U) (U := U.calling g mk a) (Vm.Alike.refl U.vm) qK, qD⟩, va_recv hK hP (ci := 14) (q0 := 0) rfl rfl, fun U hU hW => ⟨rfl, by rw [hU], by rw [hU]; exact hPc, va_K.moved hW.alike hKc, hDc.weaken (fun _ _ _ _ => trivial)⟩⟩ rfl rfl hl.1 rfl (lv_room (Nat.le_of_ble_eq_true rfl)) dX13_even_2 ⟨Nat.le_of_ble_eq_true rfl, Nat.le_of_ble_eq_true rfl⟩) hS (fun q _ h => hFc q h) hFc (fun r1 u2 t H1 locs ht hvm hw hB hz1 hk1 hS => ?_)
  have hP1 : va_P (dC, dI) vwCl [] H1 := ub_P0
  have hD1 : va_D (va_A [(h, .inr (14, mL f))] s.heap.size) [] := ub_D0
  obtain ⟨hP, hD⟩ := va_join (wr := []) (w1 := []) hP hD [0] [] rfl rfl (by decide) (by decide) hk1 hFc hP1 hD1
  generalize H1 = H at hP hS ⊢
  have hP : va_P (dC, dI) vwCl [] H := hP
  have hD : va_D A [] := hD
  refine W.widen (k := 0) (n := 0) (by omega) (by omega) ?_
  obtain rfl : (0 : Int32) = r1 := hw.symm
  refine lv_if_eq (tgt := 15) hx hb dX13_even_5 (by decide) (fun c3 => ?_) (fun c3 => by first | exact absurd c3 (by decide) | exact absurd (by decide) c3)
  refine lv_iconst (v := -1) hx hb dX13_even_15 (by decide) ?_
  exact W.iret (v := (-1)) hx hb hr (fun t ht hW => ⟨⟨(-1), (), rfl, rfl, trivial⟩, hS.F ht⟩) hS.2.2 dX13_even_16
def A_m_change : List Cond := [.methodLink RX13 525 yX13_findEven, .instanceMethod yX13_findEven, .selects RX13 yX13_findEven yX13_findEven, .initialized RX13, .constant RX13 431 (-1000000000), .code yX13_findEven cX13_findEven 6 (some .boolean), .fieldLink RX13 228 "UnlikeBoatsModel" "thrown" "I", .fieldLink RX13 239 "UnlikeBoatsModel" "boats" "I", .methodLink RX13 235 yX13_isIn, .static yX13_isIn, .code yX13_isIn cX13_isIn 3 (some .boolean)]
def v_m_change : List Cond := .code yX13_change cX13_change 4 (some .int) :: (A_m_change ++ wsX130)
theorem iw_m_change_X13 : ∀ w ∈ wsX130, w ∈ v_m_change := fun _ h => List.mem_cons_of_mem _ (List.mem_append_right _ (h))
theorem gb_m_change_m_findEven0 : GoodIn v_m_change (.code yX13_findEven cX13_findEven 6 (some .boolean) :: A_m_findEven) := (List.forall_mem_cons.mpr ⟨⟨List.mem_of_getElem? (i := 6) rfl, good_of_word rfl⟩, (List.forall_mem_cons.mpr ⟨⟨List.mem_of_getElem? (i := 7) rfl, good_of_word rfl⟩, (List.forall_mem_cons.mpr ⟨⟨List.mem_of_getElem? (i := 8) rfl, good_of_word rfl⟩, (List.forall_mem_cons.mpr ⟨⟨List.mem_of_getElem? (i := 9) rfl, good_of_word rfl⟩, (List.forall_mem_cons.mpr ⟨⟨List.mem_of_getElem? (i := 10) rfl, good_of_word rfl⟩, (List.forall_mem_cons.mpr ⟨⟨List.mem_of_getElem? (i := 4) rfl, good_of_word rfl⟩, (List.forall_mem_cons.mpr ⟨⟨List.mem_of_getElem? (i := 11) rfl, good_of_word rfl⟩, (fun _ h => nomatch h)⟩)⟩)⟩)⟩)⟩)⟩)⟩)
theorem gb_m_change_m_findEven : GoodIn v_m_change v_m_findEven := (goodIn_ca gb_m_change_m_findEven0 (goodIn_sub iw_m_change_X13 gw_X13))
theorem g_m_change_m_findEven_525 : GoodIn v_m_change (wsV RX13 525 RX13 yX13_findEven v_m_findEven) := goodIn_app (List.forall_mem_cons.mpr ⟨⟨List.mem_of_getElem? (i := 1) rfl, good_of_word rfl⟩, (List.forall_mem_cons.mpr ⟨⟨List.mem_of_getElem? (i := 2) rfl, good_of_word rfl⟩, (List.forall_mem_cons.mpr ⟨⟨List.mem_of_getElem? (i := 3) rfl, good_of_word rfl⟩, (List.forall_mem_cons.mpr ⟨⟨List.mem_of_getElem? (i := 4) rfl, good_of_word rfl⟩, (fun _ h => nomatch h)⟩)⟩)⟩)⟩) gb_m_change_m_findEven
set_option maxHeartbeats 4000000 in
set_option maxRecDepth 100000 in
theorem m_change (l : Launch) (dC : Nat → ClassId) (dI : Nat → Nat → Nat) (h : Nat) (f : Nat → Value) (a0 : Int32) (a1 : Int32) (sz : Nat) (hf_thrown : f 0 = .int 0) (hf_boats : f 8 = .int 0) : Met l yX13_change v_m_change ({ frames := 2, cells := 0, slots := 0, locals := 80 }) (va_Pc [.ref h, .int a0, .int a1] (fun U => U.heap.size = sz ∧ va_P (dC, dI) vwCl [(h, .inr (14, mL f))] U.heap ∧ va_K (dC, dI) vwCl [] U ∧ va_D (fun _ => True) [(h, .inr (14, mL f))])) (va_Qi (S := Unit) (fun r _ => r = -1000000000) (fun _ _ => True) (va_A [(h, .inr (14, mL f))] sz)) 0 0 (va_A [(h, .inr (14, mL f))] sz) := by
  refine Met.ofW (cc := cX13_change) (maxL := 4) (ret := (some .int)) (by decide) rfl ?_
  intro p e s m args below meth c s₁ B hml hv
  obtain ⟨rfl, hsz, hP, hK, hD0⟩ := hv
  have hx := B.exec
  have hb := B.bytes
  have hr := B.returns
  have hts := atoms_spec (ws := v_m_change) B.pre
  have hown : s.vm.findClass RX13 = some m.cls := findClass_of_methodNamed B.named
  have hlocks := B.notSynchronized
  subst hsz
  have hD := hD0.self (sz := s.heap.size)
  generalize hAe : va_A [(h, .inr (14, mL f))] s.heap.size = A at hD ⊢
  have hA : ∀ q : Nat, s.heap.size ≤ q → A q := fun q h => by rw [← hAe]; exact Or.inr h
  have hS : va_S A s.heap s.heap [] := va_S.rf
  have hP : va_P (dC, dI) vwCl [(h, .inr (14, mL f))] s.heap := hP
  have hl := lv_entry ([.ref h, .int a0, .int a1]) (n := 4) (Nat.le_of_ble_eq_true rfl)
  rw [lg_entry_eq]
  generalize (lg_sl ([.ref h, .int a0, .int a1]) ++ List.replicate (4 - (lg_sl ([.ref h, .int a0, .int a1])).length) Slot.unset).toArray = ls at hl ⊢
  have hl : lv_has ls 4 [(0, .ref h), (1, .int a0), (2, .int a1)] := hl
  refine lv_aload_n hx hb dX13_change_0 rfl (lv_at hl 0 rfl) ?_
  refine lv_iload_n hx hb dX13_change_1 rfl (lv_at hl 1 rfl) ?_
  have hPc := hP.sub (ws' := [(h, .inr (14, mL f))]) [0] rfl
  have hKc := hK.sub (tys' := []) [] rfl
  have hDc := hD.sub (ws' := [(h, .inr (14, mL f))]) [0] (by decide) rfl
  have hFc := va_free (wc := [(h, .inr (14, mL f))]) hD hS hA [0] rfl
  refine va_calli (va_runV (As := [.int a0]) (rest := []) ⟨hx, hb, hml, hown, hts⟩ (m_findEven l dC dI h f a0 s.heap.size hf_thrown hf_boats) (cwV 1 hts g_m_change_m_findEven_525 rfl rfl rfl (by decide +kernel) ⟨Nat.le_of_ble_eq_true rfl, Nat.le_of_ble_eq_true rfl⟩) ⟨fun a U g mk q => by obtain ⟨e0, e1, qP, qK, qD⟩ := q; exact ⟨e0, e1, qP, va_K.moved (u := U) (U := U.calling g mk a) (Vm.Alike.refl U.vm) qK, qD⟩, va_recv hK hP (ci := 14) (q0 := 0) rfl rfl, fun U hU hW => ⟨rfl, by rw [hU], by rw [hU]; exact hPc, va_K.moved hW.alike hKc, hDc.weaken (fun _ _ _ _ => trivial)⟩⟩ rfl rfl hl.1 rfl (lv_room (Nat.le_of_ble_eq_true rfl)) dX13_change_2 ⟨Nat.le_of_ble_eq_true rfl, Nat.le_of_ble_eq_true rfl⟩) hS (fun q _ h => hFc q h) hFc (fun r1 u2 t H1 locs ht hvm hw hB hz1 hk1 hS => ?_)
  have hP1 : va_P (dC, dI) vwCl [] H1 := ub_P0
  have hD1 : va_D (va_A [(h, .inr (14, mL f))] s.heap.size) [] := ub_D0
  obtain ⟨hP, hD⟩ := va_join (wr := []) (w1 := []) hP hD [0] [] rfl rfl (by decide) (by decide) hk1 hFc hP1 hD1
  generalize H1 = H at hP hS ⊢
  have hP : va_P (dC, dI) vwCl [] H := hP
  have hD : va_D A [] := hD
  refine W.widen (k := 0) (n := 0) (by omega) (by omega) ?_
  obtain rfl : (0 : Int32) = r1 := hw.symm
  refine lv_if_ne (tgt := 12) hx hb dX13_change_5 (by decide) (fun c3 => by first | exact absurd c3 (by decide) | exact absurd (by decide) c3) (fun c3 => ?_)
  refine lv_ldcw hx hb hown (hts (.constant RX13 431 (-1000000000)) (List.mem_of_getElem? (i := 5) rfl)) dX13_change_8 ?_
  exact W.iret (v := (-1000000000)) hx hb hr (fun t ht hW => ⟨⟨(-1000000000), (), rfl, rfl, trivial⟩, hS.F ht⟩) hS.2.2 dX13_change_11
def A_m_middle : List Cond := [.fieldLink RX13 228 "UnlikeBoatsModel" "thrown" "I", .methodLink RX13 393 yX13_isRace, .instanceMethod yX13_isRace, .selects RX13 yX13_isRace yX13_isRace, .initialized RX13, .constant RX13 431 (-1000000000), .code yX13_isRace cX13_isRace 2 (some .boolean), .fieldLink RX13 390 "UnlikeBoatsModel" "races" "I"]
def v_m_middle : List Cond := .code yX13_middle cX13_middle 3 (some .int) :: (A_m_middle ++ wsX130)
theorem iw_m_middle_X13 : ∀ w ∈ wsX130, w ∈ v_m_middle := fun _ h => List.mem_cons_of_mem _ (List.mem_append_right _ (h))
theorem gb_m_middle_m_isRace0 : GoodIn v_m_middle (.code yX13_isRace cX13_isRace 2 (some .boolean) :: A_m_isRace) := (List.forall_mem_cons.mpr ⟨⟨List.mem_of_getElem? (i := 7) rfl, good_of_word rfl⟩, (List.forall_mem_cons.mpr ⟨⟨List.mem_of_getElem? (i := 8) rfl, good_of_word rfl⟩, (fun _ h => nomatch h)⟩)⟩)
theorem gb_m_middle_m_isRace : GoodIn v_m_middle v_m_isRace := (goodIn_ca gb_m_middle_m_isRace0 (goodIn_sub iw_m_middle_X13 gw_X13))
theorem g_m_middle_m_isRace_393 : GoodIn v_m_middle (wsV RX13 393 RX13 yX13_isRace v_m_isRace) := goodIn_app (List.forall_mem_cons.mpr ⟨⟨List.mem_of_getElem? (i := 2) rfl, good_of_word rfl⟩, (List.forall_mem_cons.mpr ⟨⟨List.mem_of_getElem? (i := 3) rfl, good_of_word rfl⟩, (List.forall_mem_cons.mpr ⟨⟨List.mem_of_getElem? (i := 4) rfl, good_of_word rfl⟩, (List.forall_mem_cons.mpr ⟨⟨List.mem_of_getElem? (i := 5) rfl, good_of_word rfl⟩, (fun _ h => nomatch h)⟩)⟩)⟩)⟩) gb_m_middle_m_isRace
set_option maxHeartbeats 4000000 in
set_option maxRecDepth 100000 in
theorem m_middle (l : Launch) (dC : Nat → ClassId) (dI : Nat → Nat → Nat) (h : Nat) (f : Nat → Value) (a0 : Int32) (a1 : Int32) (sz : Nat) (hf_thrown : f 0 = .int 0) (hf_races : f 46 = .int 0) : Met l yX13_middle v_m_middle ({ frames := 1, cells := 0, slots := 0, locals := 40 }) (va_Pc [.ref h, .int a0, .int a1] (fun U => U.heap.size = sz ∧ va_P (dC, dI) vwCl [(h, .inr (14, mL f))] U.heap ∧ va_K (dC, dI) vwCl [] U ∧ va_D (fun _ => True) [(h, .inr (14, mL f))])) (va_Qi (S := Unit) (fun r _ => r = -1000000000) (fun _ _ => True) (va_A [(h, .inr (14, mL f))] sz)) 0 0 (va_A [(h, .inr (14, mL f))] sz) := by
  refine Met.ofW (cc := cX13_middle) (maxL := 3) (ret := (some .int)) (by decide) rfl ?_
  intro p e s m args below meth c s₁ B hml hv
  obtain ⟨rfl, hsz, hP, hK, hD0⟩ := hv
  have hx := B.exec
  have hb := B.bytes
  have hr := B.returns
  have hts := atoms_spec (ws := v_m_middle) B.pre
  have hown : s.vm.findClass RX13 = some m.cls := findClass_of_methodNamed B.named
  have hlocks := B.notSynchronized
  subst hsz
  have hD := hD0.self (sz := s.heap.size)
  generalize hAe : va_A [(h, .inr (14, mL f))] s.heap.size = A at hD ⊢
  have hA : ∀ q : Nat, s.heap.size ≤ q → A q := fun q h => by rw [← hAe]; exact Or.inr h
  have hS : va_S A s.heap s.heap [] := va_S.rf
  have hP : va_P (dC, dI) vwCl [(h, .inr (14, mL f))] s.heap := hP
  have hl := lv_entry ([.ref h, .int a0, .int a1]) (n := 3) (Nat.le_of_ble_eq_true rfl)
  rw [lg_entry_eq]
  generalize (lg_sl ([.ref h, .int a0, .int a1]) ++ List.replicate (3 - (lg_sl ([.ref h, .int a0, .int a1])).length) Slot.unset).toArray = ls at hl ⊢
  have hl : lv_has ls 3 [(0, .ref h), (1, .int a0), (2, .int a1)] := hl
  refine lv_aload_n hx hb dX13_middle_0 rfl (lv_at hl 0 rfl) ?_
  refine lv_iconst (v := 0) hx hb dX13_middle_1 (by decide) ?_
  refine va_put (D := (dC, dI)) (ci := 14) (v := .int 0) (ty := .int) (C := RX13) (T := TX13) (N := 97) hx hb hts iw_m_middle_X13 tyX13 tyX13_ok nmX13 hown hK hP hD hS 0 rfl rfl 0 (by decide) (hts (.fieldLink RX13 228 "UnlikeBoatsModel" "thrown" "I") (List.mem_of_getElem? (i := 1) rfl)) (fun _ h9 => h9) rfl (by decide +kernel) rfl rfl (mL_lt (Nat.le_of_ble_eq_true rfl)) dX13_middle_2 (fun H locs hP hD hS => ?_)
  have hP : va_P (dC, dI) vwCl [(h, .inr (14, (mL f).set 0 (.int 0)))] H := hP
  have hD : va_D A [(h, .inr (14, (mL f).set 0 (.int 0)))] := hD
  rw [mL_same hf_thrown] at hP hD
  refine lv_aload_n hx hb dX13_middle_5 rfl (lv_at hl 0 rfl) ?_
  refine lv_iload_n hx hb dX13_middle_6 rfl (lv_at hl 1 rfl) ?_
  have hPc := hP.sub (ws' := [(h, .inr (14, mL f))]) [0] rfl
  have hKc := hK.sub (tys' := []) [] rfl
  refine va_calli (va_runV (As := [.int a0]) (rest := []) ⟨hx, hb, hml, hown, hts⟩ (m_isRace l dC dI h f a0 hf_races) (cwV 1 hts g_m_middle_m_isRace_393 rfl rfl rfl (by decide +kernel) ⟨Nat.le_of_ble_eq_true rfl, Nat.le_of_ble_eq_true rfl⟩) ⟨fun a U g mk q => by obtain ⟨e0, qP, qK⟩ := q; exact ⟨e0, qP, va_K.moved (u := U) (U := U.calling g mk a) (Vm.Alike.refl U.vm) qK⟩, va_recv hK hP (ci := 14) (q0 := 0) rfl rfl, fun U hU hW => ⟨rfl, by rw [hU]; exact hPc, va_K.moved hW.alike hKc⟩⟩ rfl rfl hl.1 rfl (lv_room (Nat.le_of_ble_eq_true rfl)) dX13_middle_7 ⟨Nat.le_of_ble_eq_true rfl, Nat.le_of_ble_eq_true rfl⟩) hS (fun _ _ h => h.elim) (fun _ h => h.elim) (fun r1 u2 t H1 locs ht hvm hw hB hz1 hk1 hS => ?_)
  have hP := ub_keep hP hk1
  generalize H1 = H at hP hS ⊢
  obtain rfl : (0 : Int32) = r1 := hw.symm
  refine lv_if_eq (tgt := 30) hx hb dX13_middle_10 (by decide) (fun c3 => ?_) (fun c3 => by first | exact absurd c3 (by decide) | exact absurd (by decide) c3)
  refine lv_ldcw hx hb hown (hts (.constant RX13 431 (-1000000000)) (List.mem_of_getElem? (i := 6) rfl)) dX13_middle_30 ?_
  exact W.iret (v := (-1000000000)) hx hb hr (fun t ht hW => ⟨⟨(-1000000000), (), rfl, rfl, trivial⟩, hS.F ht⟩) hS.2.2 dX13_middle_33
def A_m_fit : List Cond := [.fieldLink RX13 228 "UnlikeBoatsModel" "thrown" "I", .methodLink RX13 245 yX13_isBoat, .instanceMethod yX13_isBoat, .selects RX13 yX13_isBoat yX13_isBoat, .initialized RX13, .code yX13_isBoat cX13_isBoat 2 (some .boolean), .fieldLink RX13 239 "UnlikeBoatsModel" "boats" "I"]
def v_m_fit : List Cond := .code yX13_fit cX13_fit 2 (some .int) :: (A_m_fit ++ wsX130)
theorem iw_m_fit_X13 : ∀ w ∈ wsX130, w ∈ v_m_fit := fun _ h => List.mem_cons_of_mem _ (List.mem_append_right _ (h))
theorem gb_m_fit_m_isBoat0 : GoodIn v_m_fit (.code yX13_isBoat cX13_isBoat 2 (some .boolean) :: A_m_isBoat) := (List.forall_mem_cons.mpr ⟨⟨List.mem_of_getElem? (i := 6) rfl, good_of_word rfl⟩, (List.forall_mem_cons.mpr ⟨⟨List.mem_of_getElem? (i := 7) rfl, good_of_word rfl⟩, (fun _ h => nomatch h)⟩)⟩)
theorem gb_m_fit_m_isBoat : GoodIn v_m_fit v_m_isBoat := (goodIn_ca gb_m_fit_m_isBoat0 (goodIn_sub iw_m_fit_X13 gw_X13))
theorem g_m_fit_m_isBoat_245 : GoodIn v_m_fit (wsV RX13 245 RX13 yX13_isBoat v_m_isBoat) := goodIn_app (List.forall_mem_cons.mpr ⟨⟨List.mem_of_getElem? (i := 2) rfl, good_of_word rfl⟩, (List.forall_mem_cons.mpr ⟨⟨List.mem_of_getElem? (i := 3) rfl, good_of_word rfl⟩, (List.forall_mem_cons.mpr ⟨⟨List.mem_of_getElem? (i := 4) rfl, good_of_word rfl⟩, (List.forall_mem_cons.mpr ⟨⟨List.mem_of_getElem? (i := 5) rfl, good_of_word rfl⟩, (fun _ h => nomatch h)⟩)⟩)⟩)⟩) gb_m_fit_m_isBoat
set_option maxHeartbeats 4000000 in
set_option maxRecDepth 100000 in
theorem m_fit (l : Launch) (dC : Nat → ClassId) (dI : Nat → Nat → Nat) (h : Nat) (f : Nat → Value) (a0 : Int32) (sz : Nat) (hf_thrown : f 0 = .int 0) (hf_boats : f 8 = .int 0) : Met l yX13_fit v_m_fit ({ frames := 1, cells := 0, slots := 0, locals := 40 }) (va_Pc [.ref h, .int a0] (fun U => U.heap.size = sz ∧ va_P (dC, dI) vwCl [(h, .inr (14, mL f))] U.heap ∧ va_K (dC, dI) vwCl [] U ∧ va_D (fun _ => True) [(h, .inr (14, mL f))])) (va_Qi (S := Unit) (fun r _ => r = -1) (fun _ _ => True) (va_A [(h, .inr (14, mL f))] sz)) 0 0 (va_A [(h, .inr (14, mL f))] sz) := by
  refine Met.ofW (cc := cX13_fit) (maxL := 2) (ret := (some .int)) (by decide) rfl ?_
  intro p e s m args below meth c s₁ B hml hv
  obtain ⟨rfl, hsz, hP, hK, hD0⟩ := hv
  have hx := B.exec
  have hb := B.bytes
  have hr := B.returns
  have hts := atoms_spec (ws := v_m_fit) B.pre
  have hown : s.vm.findClass RX13 = some m.cls := findClass_of_methodNamed B.named
  have hlocks := B.notSynchronized
  subst hsz
  have hD := hD0.self (sz := s.heap.size)
  generalize hAe : va_A [(h, .inr (14, mL f))] s.heap.size = A at hD ⊢
  have hA : ∀ q : Nat, s.heap.size ≤ q → A q := fun q h => by rw [← hAe]; exact Or.inr h
  have hS : va_S A s.heap s.heap [] := va_S.rf
  have hP : va_P (dC, dI) vwCl [(h, .inr (14, mL f))] s.heap := hP
  have hl := lv_entry ([.ref h, .int a0]) (n := 2) (Nat.le_of_ble_eq_true rfl)
  rw [lg_entry_eq]
  generalize (lg_sl ([.ref h, .int a0]) ++ List.replicate (2 - (lg_sl ([.ref h, .int a0])).length) Slot.unset).toArray = ls at hl ⊢
  have hl : lv_has ls 2 [(0, .ref h), (1, .int a0)] := hl
  refine lv_aload_n hx hb dX13_fit_0 rfl (lv_at hl 0 rfl) ?_
  refine lv_iconst (v := 0) hx hb dX13_fit_1 (by decide) ?_
  refine va_put (D := (dC, dI)) (ci := 14) (v := .int 0) (ty := .int) (C := RX13) (T := TX13) (N := 97) hx hb hts iw_m_fit_X13 tyX13 tyX13_ok nmX13 hown hK hP hD hS 0 rfl rfl 0 (by decide) (hts (.fieldLink RX13 228 "UnlikeBoatsModel" "thrown" "I") (List.mem_of_getElem? (i := 1) rfl)) (fun _ h9 => h9) rfl (by decide +kernel) rfl rfl (mL_lt (Nat.le_of_ble_eq_true rfl)) dX13_fit_2 (fun H locs hP hD hS => ?_)
  have hP : va_P (dC, dI) vwCl [(h, .inr (14, (mL f).set 0 (.int 0)))] H := hP
  have hD : va_D A [(h, .inr (14, (mL f).set 0 (.int 0)))] := hD
  rw [mL_same hf_thrown] at hP hD
  refine lv_aload_n hx hb dX13_fit_5 rfl (lv_at hl 0 rfl) ?_
  refine lv_iload_n hx hb dX13_fit_6 rfl (lv_at hl 1 rfl) ?_
  have hPc := hP.sub (ws' := [(h, .inr (14, mL f))]) [0] rfl
  have hKc := hK.sub (tys' := []) [] rfl
  refine va_calli (va_runV (As := [.int a0]) (rest := []) ⟨hx, hb, hml, hown, hts⟩ (m_isBoat l dC dI h f a0 hf_boats) (cwV 1 hts g_m_fit_m_isBoat_245 rfl rfl rfl (by decide +kernel) ⟨Nat.le_of_ble_eq_true rfl, Nat.le_of_ble_eq_true rfl⟩) ⟨fun a U g mk q => by obtain ⟨e0, qP, qK⟩ := q; exact ⟨e0, qP, va_K.moved (u := U) (U := U.calling g mk a) (Vm.Alike.refl U.vm) qK⟩, va_recv hK hP (ci := 14) (q0 := 0) rfl rfl, fun U hU hW => ⟨rfl, by rw [hU]; exact hPc, va_K.moved hW.alike hKc⟩⟩ rfl rfl hl.1 rfl (lv_room (Nat.le_of_ble_eq_true rfl)) dX13_fit_7 ⟨Nat.le_of_ble_eq_true rfl, Nat.le_of_ble_eq_true rfl⟩) hS (fun _ _ h => h.elim) (fun _ h => h.elim) (fun r1 u2 t H1 locs ht hvm hw hB hz1 hk1 hS => ?_)
  have hP := ub_keep hP hk1
  generalize H1 = H at hP hS ⊢
  obtain rfl : (0 : Int32) = r1 := hw.symm
  refine lv_if_eq (tgt := 21) hx hb dX13_fit_10 (by decide) (fun c3 => ?_) (fun c3 => by first | exact absurd c3 (by decide) | exact absurd (by decide) c3)
  refine lv_iconst (v := -1) hx hb dX13_fit_21 (by decide) ?_
  exact W.iret (v := (-1)) hx hb hr (fun t ht hW => ⟨⟨(-1), (), rfl, rfl, trivial⟩, hS.F ht⟩) hS.2.2 dX13_fit_22
def A_m_suspect : List Cond := [.fieldLink RX13 228 "UnlikeBoatsModel" "thrown" "I", .methodLink RX13 245 yX13_isBoat, .instanceMethod yX13_isBoat, .selects RX13 yX13_isBoat yX13_isBoat, .initialized RX13, .constant RX13 431 (-1000000000), .code yX13_isBoat cX13_isBoat 2 (some .boolean), .fieldLink RX13 239 "UnlikeBoatsModel" "boats" "I"]
def v_m_suspect : List Cond := .code yX13_suspect cX13_suspect 4 (some .int) :: (A_m_suspect ++ wsX130)
theorem iw_m_suspect_X13 : ∀ w ∈ wsX130, w ∈ v_m_suspect := fun _ h => List.mem_cons_of_mem _ (List.mem_append_right _ (h))
theorem gb_m_suspect_m_isBoat0 : GoodIn v_m_suspect (.code yX13_isBoat cX13_isBoat 2 (some .boolean) :: A_m_isBoat) := (List.forall_mem_cons.mpr ⟨⟨List.mem_of_getElem? (i := 7) rfl, good_of_word rfl⟩, (List.forall_mem_cons.mpr ⟨⟨List.mem_of_getElem? (i := 8) rfl, good_of_word rfl⟩, (fun _ h => nomatch h)⟩)⟩)
theorem gb_m_suspect_m_isBoat : GoodIn v_m_suspect v_m_isBoat := (goodIn_ca gb_m_suspect_m_isBoat0 (goodIn_sub iw_m_suspect_X13 gw_X13))
theorem g_m_suspect_m_isBoat_245 : GoodIn v_m_suspect (wsV RX13 245 RX13 yX13_isBoat v_m_isBoat) := goodIn_app (List.forall_mem_cons.mpr ⟨⟨List.mem_of_getElem? (i := 2) rfl, good_of_word rfl⟩, (List.forall_mem_cons.mpr ⟨⟨List.mem_of_getElem? (i := 3) rfl, good_of_word rfl⟩, (List.forall_mem_cons.mpr ⟨⟨List.mem_of_getElem? (i := 4) rfl, good_of_word rfl⟩, (List.forall_mem_cons.mpr ⟨⟨List.mem_of_getElem? (i := 5) rfl, good_of_word rfl⟩, (fun _ h => nomatch h)⟩)⟩)⟩)⟩) gb_m_suspect_m_isBoat
set_option maxHeartbeats 4000000 in
set_option maxRecDepth 100000 in
theorem m_suspect (l : Launch) (dC : Nat → ClassId) (dI : Nat → Nat → Nat) (h : Nat) (f : Nat → Value) (a0 : Int32) (a1 : Int32) (sz : Nat) (hf_thrown : f 0 = .int 0) (hf_boats : f 8 = .int 0) : Met l yX13_suspect v_m_suspect ({ frames := 1, cells := 0, slots := 0, locals := 40 }) (va_Pc [.ref h, .int a0, .int a1] (fun U => U.heap.size = sz ∧ va_P (dC, dI) vwCl [(h, .inr (14, mL f))] U.heap ∧ va_K (dC, dI) vwCl [] U ∧ va_D (fun _ => True) [(h, .inr (14, mL f))])) (va_Qi (S := Unit) (fun r _ => r = -1000000000) (fun _ _ => True) (va_A [(h, .inr (14, mL f))] sz)) 0 0 (va_A [(h, .inr (14, mL f))] sz) := by
  refine Met.ofW (cc := cX13_suspect) (maxL := 4) (ret := (some .int)) (by decide) rfl ?_
  intro p e s m args below meth c s₁ B hml hv
  obtain ⟨rfl, hsz, hP, hK, hD0⟩ := hv
  have hx := B.exec
  have hb := B.bytes
  have hr := B.returns
  have hts := atoms_spec (ws := v_m_suspect) B.pre
  have hown : s.vm.findClass RX13 = some m.cls := findClass_of_methodNamed B.named
  have hlocks := B.notSynchronized
  subst hsz
  have hD := hD0.self (sz := s.heap.size)
  generalize hAe : va_A [(h, .inr (14, mL f))] s.heap.size = A at hD ⊢
  have hA : ∀ q : Nat, s.heap.size ≤ q → A q := fun q h => by rw [← hAe]; exact Or.inr h
  have hS : va_S A s.heap s.heap [] := va_S.rf
  have hP : va_P (dC, dI) vwCl [(h, .inr (14, mL f))] s.heap := hP
  have hl := lv_entry ([.ref h, .int a0, .int a1]) (n := 4) (Nat.le_of_ble_eq_true rfl)
  rw [lg_entry_eq]
  generalize (lg_sl ([.ref h, .int a0, .int a1]) ++ List.replicate (4 - (lg_sl ([.ref h, .int a0, .int a1])).length) Slot.unset).toArray = ls at hl ⊢
  have hl : lv_has ls 4 [(0, .ref h), (1, .int a0), (2, .int a1)] := hl
  refine lv_aload_n hx hb dX13_suspect_0 rfl (lv_at hl 0 rfl) ?_
  refine lv_iconst (v := 0) hx hb dX13_suspect_1 (by decide) ?_
  refine va_put (D := (dC, dI)) (ci := 14) (v := .int 0) (ty := .int) (C := RX13) (T := TX13) (N := 97) hx hb hts iw_m_suspect_X13 tyX13 tyX13_ok nmX13 hown hK hP hD hS 0 rfl rfl 0 (by decide) (hts (.fieldLink RX13 228 "UnlikeBoatsModel" "thrown" "I") (List.mem_of_getElem? (i := 1) rfl)) (fun _ h9 => h9) rfl (by decide +kernel) rfl rfl (mL_lt (Nat.le_of_ble_eq_true rfl)) dX13_suspect_2 (fun H locs hP hD hS => ?_)
  have hP : va_P (dC, dI) vwCl [(h, .inr (14, (mL f).set 0 (.int 0)))] H := hP
  have hD : va_D A [(h, .inr (14, (mL f).set 0 (.int 0)))] := hD
  rw [mL_same hf_thrown] at hP hD
  refine lv_aload_n hx hb dX13_suspect_5 rfl (lv_at hl 0 rfl) ?_
  refine lv_iload_n hx hb dX13_suspect_6 rfl (lv_at hl 1 rfl) ?_
  have hPc := hP.sub (ws' := [(h, .inr (14, mL f))]) [0] rfl
  have hKc := hK.sub (tys' := []) [] rfl
  refine va_calli (va_runV (As := [.int a0]) (rest := []) ⟨hx, hb, hml, hown, hts⟩ (m_isBoat l dC dI h f a0 hf_boats) (cwV 1 hts g_m_suspect_m_isBoat_245 rfl rfl rfl (by decide +kernel) ⟨Nat.le_of_ble_eq_true rfl, Nat.le_of_ble_eq_true rfl⟩) ⟨fun a U g mk q => by obtain ⟨e0, qP, qK⟩ := q; exact ⟨e0, qP, va_K.moved (u := U) (U := U.calling g mk a) (Vm.Alike.refl U.vm) qK⟩, va_recv hK hP (ci := 14) (q0 := 0) rfl rfl, fun U hU hW => ⟨rfl, by rw [hU]; exact hPc, va_K.moved hW.alike hKc⟩⟩ rfl rfl hl.1 rfl (lv_room (Nat.le_of_ble_eq_true rfl)) dX13_suspect_7 ⟨Nat.le_of_ble_eq_true rfl, Nat.le_of_ble_eq_true rfl⟩) hS (fun _ _ h => h.elim) (fun _ h => h.elim) (fun r1 u2 t H1 locs ht hvm hw hB hz1 hk1 hS => ?_)
  have hP := ub_keep hP hk1
  generalize H1 = H at hP hS ⊢
  obtain rfl : (0 : Int32) = r1 := hw.symm
  refine lv_if_eq (tgt := 22) hx hb dX13_suspect_10 (by decide) (fun c3 => ?_) (fun c3 => by first | exact absurd c3 (by decide) | exact absurd (by decide) c3)
  refine lv_ldcw hx hb hown (hts (.constant RX13 431 (-1000000000)) (List.mem_of_getElem? (i := 6) rfl)) dX13_suspect_22 ?_
  exact W.iret (v := (-1000000000)) hx hb hr (fun t ht hW => ⟨⟨(-1000000000), (), rfl, rfl, trivial⟩, hS.F ht⟩) hS.2.2 dX13_suspect_25
def A_m_start : List Cond := [.fieldLink RX13 228 "UnlikeBoatsModel" "thrown" "I", .methodLink RX13 402 yX13_isEntry, .instanceMethod yX13_isEntry, .selects RX13 yX13_isEntry yX13_isEntry, .initialized RX13, .code yX13_isEntry cX13_isEntry 3 (some .boolean), .methodLink RX13 393 yX13_isRace, .instanceMethod yX13_isRace, .selects RX13 yX13_isRace yX13_isRace, .code yX13_isRace cX13_isRace 2 (some .boolean), .fieldLink RX13 390 "UnlikeBoatsModel" "races" "I"]
def v_m_start : List Cond := .code yX13_start cX13_start 5 (some .boolean) :: (A_m_start ++ wsX130)
theorem iw_m_start_X13 : ∀ w ∈ wsX130, w ∈ v_m_start := fun _ h => List.mem_cons_of_mem _ (List.mem_append_right _ (h))
theorem gb_m_start_m_isEntry0 : GoodIn v_m_start (.code yX13_isEntry cX13_isEntry 3 (some .boolean) :: A_m_isEntry) := (List.forall_mem_cons.mpr ⟨⟨List.mem_of_getElem? (i := 6) rfl, good_of_word rfl⟩, (List.forall_mem_cons.mpr ⟨⟨List.mem_of_getElem? (i := 7) rfl, good_of_word rfl⟩, (List.forall_mem_cons.mpr ⟨⟨List.mem_of_getElem? (i := 8) rfl, good_of_word rfl⟩, (List.forall_mem_cons.mpr ⟨⟨List.mem_of_getElem? (i := 9) rfl, good_of_word rfl⟩, (List.forall_mem_cons.mpr ⟨⟨List.mem_of_getElem? (i := 5) rfl, good_of_word rfl⟩, (List.forall_mem_cons.mpr ⟨⟨List.mem_of_getElem? (i := 10) rfl, good_of_word rfl⟩, (List.forall_mem_cons.mpr ⟨⟨List.mem_of_getElem? (i := 11) rfl, good_of_word rfl⟩, (fun _ h => nomatch h)⟩)⟩)⟩)⟩)⟩)⟩)⟩)
theorem gb_m_start_m_isEntry : GoodIn v_m_start v_m_isEntry := (goodIn_ca gb_m_start_m_isEntry0 (goodIn_sub iw_m_start_X13 gw_X13))
theorem g_m_start_m_isEntry_402 : GoodIn v_m_start (wsV RX13 402 RX13 yX13_isEntry v_m_isEntry) := goodIn_app (List.forall_mem_cons.mpr ⟨⟨List.mem_of_getElem? (i := 2) rfl, good_of_word rfl⟩, (List.forall_mem_cons.mpr ⟨⟨List.mem_of_getElem? (i := 3) rfl, good_of_word rfl⟩, (List.forall_mem_cons.mpr ⟨⟨List.mem_of_getElem? (i := 4) rfl, good_of_word rfl⟩, (List.forall_mem_cons.mpr ⟨⟨List.mem_of_getElem? (i := 5) rfl, good_of_word rfl⟩, (fun _ h => nomatch h)⟩)⟩)⟩)⟩) gb_m_start_m_isEntry
set_option maxHeartbeats 4000000 in
set_option maxRecDepth 100000 in
theorem m_start (l : Launch) (dC : Nat → ClassId) (dI : Nat → Nat → Nat) (h : Nat) (f : Nat → Value) (a0 : Int32) (a1 : Int32) (a2 : Int32) (a3 : Int32) (sz : Nat) (hf_thrown : f 0 = .int 0) (hf_races : f 46 = .int 0) : Met l yX13_start v_m_start ({ frames := 2, cells := 0, slots := 0, locals := 80 }) (va_Pc [.ref h, .int a0, .int a1, .int a2, .int a3] (fun U => U.heap.size = sz ∧ va_P (dC, dI) vwCl [(h, .inr (14, mL f))] U.heap ∧ va_K (dC, dI) vwCl [] U ∧ va_D (fun _ => True) [(h, .inr (14, mL f))])) (va_Qi (S := Unit) (fun r _ => r = 0) (fun _ _ => True) (va_A [(h, .inr (14, mL f))] sz)) 0 0 (va_A [(h, .inr (14, mL f))] sz) := by
  refine Met.ofW (cc := cX13_start) (maxL := 5) (ret := (some .boolean)) (by decide) rfl ?_
  intro p e s m args below meth c s₁ B hml hv
  obtain ⟨rfl, hsz, hP, hK, hD0⟩ := hv
  have hx := B.exec
  have hb := B.bytes
  have hr := B.returns
  have hts := atoms_spec (ws := v_m_start) B.pre
  have hown : s.vm.findClass RX13 = some m.cls := findClass_of_methodNamed B.named
  have hlocks := B.notSynchronized
  subst hsz
  have hD := hD0.self (sz := s.heap.size)
  generalize hAe : va_A [(h, .inr (14, mL f))] s.heap.size = A at hD ⊢
  have hA : ∀ q : Nat, s.heap.size ≤ q → A q := fun q h => by rw [← hAe]; exact Or.inr h
  have hS : va_S A s.heap s.heap [] := va_S.rf
  have hP : va_P (dC, dI) vwCl [(h, .inr (14, mL f))] s.heap := hP
  have hl := lv_entry ([.ref h, .int a0, .int a1, .int a2, .int a3]) (n := 5) (Nat.le_of_ble_eq_true rfl)
  rw [lg_entry_eq]
  generalize (lg_sl ([.ref h, .int a0, .int a1, .int a2, .int a3]) ++ List.replicate (5 - (lg_sl ([.ref h, .int a0, .int a1, .int a2, .int a3])).length) Slot.unset).toArray = ls at hl ⊢
  have hl : lv_has ls 5 [(0, .ref h), (1, .int a0), (2, .int a1), (3, .int a2), (4, .int a3)] := hl
  refine lv_aload_n hx hb dX13_start_0 rfl (lv_at hl 0 rfl) ?_
  refine lv_iconst (v := 0) hx hb dX13_start_1 (by decide) ?_
  refine va_put (D := (dC, dI)) (ci := 14) (v := .int 0) (ty := .int) (C := RX13) (T := TX13) (N := 97) hx hb hts iw_m_start_X13 tyX13 tyX13_ok nmX13 hown hK hP hD hS 0 rfl rfl 0 (by decide) (hts (.fieldLink RX13 228 "UnlikeBoatsModel" "thrown" "I") (List.mem_of_getElem? (i := 1) rfl)) (fun _ h9 => h9) rfl (by decide +kernel) rfl rfl (mL_lt (Nat.le_of_ble_eq_true rfl)) dX13_start_2 (fun H locs hP hD hS => ?_)
  have hP : va_P (dC, dI) vwCl [(h, .inr (14, (mL f).set 0 (.int 0)))] H := hP
  have hD : va_D A [(h, .inr (14, (mL f).set 0 (.int 0)))] := hD
  rw [mL_same hf_thrown] at hP hD
  refine lv_aload_n hx hb dX13_start_5 rfl (lv_at hl 0 rfl) ?_
  refine lv_iload_n hx hb dX13_start_6 rfl (lv_at hl 1 rfl) ?_
  refine lv_iload_n hx hb dX13_start_7 rfl (lv_at hl 2 rfl) ?_
  have hPc := hP.sub (ws' := [(h, .inr (14, mL f))]) [0] rfl
  have hKc := hK.sub (tys' := []) [] rfl
  refine va_calli (va_runV (As := [.int a0, .int a1]) (rest := []) ⟨hx, hb, hml, hown, hts⟩ (m_isEntry l dC dI h f a0 a1 hf_races) (cwV 2 hts g_m_start_m_isEntry_402 rfl rfl rfl (by decide +kernel) ⟨Nat.le_of_ble_eq_true rfl, Nat.le_of_ble_eq_true rfl⟩) ⟨fun a U g mk q => by obtain ⟨e0, qP, qK⟩ := q; exact ⟨e0, qP, va_K.moved (u := U) (U := U.calling g mk a) (Vm.Alike.refl U.vm) qK⟩, va_recv hK hP (ci := 14) (q0 := 0) rfl rfl, fun U hU hW => ⟨rfl, by rw [hU]; exact hPc, va_K.moved hW.alike hKc⟩⟩ rfl rfl hl.1 rfl (lv_room (Nat.le_of_ble_eq_true rfl)) dX13_start_8 ⟨Nat.le_of_ble_eq_true rfl, Nat.le_of_ble_eq_true rfl⟩) hS (fun _ _ h => h.elim) (fun _ h => h.elim) (fun r1 u2 t H1 locs ht hvm hw hB hz1 hk1 hS => ?_)
  have hP := ub_keep hP hk1
  generalize H1 = H at hP hS ⊢
  obtain rfl : (0 : Int32) = r1 := hw.symm
  refine lv_if_eq (tgt := 36) hx hb dX13_start_11 (by decide) (fun c3 => ?_) (fun c3 => by first | exact absurd c3 (by decide) | exact absurd (by decide) c3)
  refine lv_iconst (v := 0) hx hb dX13_start_36 (by decide) ?_
  exact W.zret (v := (0)) hx hb hr rfl (fun t ht hW => ⟨⟨(0), (), rfl, rfl, trivial⟩, hS.F ht⟩) hS.2.2 dX13_start_37
def A_m_lean : List Cond := [.fieldLink RX13 228 "UnlikeBoatsModel" "thrown" "I", .methodLink RX13 393 yX13_isRace, .instanceMethod yX13_isRace, .selects RX13 yX13_isRace yX13_isRace, .initialized RX13, .constant RX13 431 (-1000000000), .code yX13_isRace cX13_isRace 2 (some .boolean), .fieldLink RX13 390 "UnlikeBoatsModel" "races" "I"]
def v_m_lean : List Cond := .code yX13_lean cX13_lean 5 (some .int) :: (A_m_lean ++ wsX130)
theorem iw_m_lean_X13 : ∀ w ∈ wsX130, w ∈ v_m_lean := fun _ h => List.mem_cons_of_mem _ (List.mem_append_right _ (h))
theorem gb_m_lean_m_isRace0 : GoodIn v_m_lean (.code yX13_isRace cX13_isRace 2 (some .boolean) :: A_m_isRace) := (List.forall_mem_cons.mpr ⟨⟨List.mem_of_getElem? (i := 7) rfl, good_of_word rfl⟩, (List.forall_mem_cons.mpr ⟨⟨List.mem_of_getElem? (i := 8) rfl, good_of_word rfl⟩, (fun _ h => nomatch h)⟩)⟩)
theorem gb_m_lean_m_isRace : GoodIn v_m_lean v_m_isRace := (goodIn_ca gb_m_lean_m_isRace0 (goodIn_sub iw_m_lean_X13 gw_X13))
theorem g_m_lean_m_isRace_393 : GoodIn v_m_lean (wsV RX13 393 RX13 yX13_isRace v_m_isRace) := goodIn_app (List.forall_mem_cons.mpr ⟨⟨List.mem_of_getElem? (i := 2) rfl, good_of_word rfl⟩, (List.forall_mem_cons.mpr ⟨⟨List.mem_of_getElem? (i := 3) rfl, good_of_word rfl⟩, (List.forall_mem_cons.mpr ⟨⟨List.mem_of_getElem? (i := 4) rfl, good_of_word rfl⟩, (List.forall_mem_cons.mpr ⟨⟨List.mem_of_getElem? (i := 5) rfl, good_of_word rfl⟩, (fun _ h => nomatch h)⟩)⟩)⟩)⟩) gb_m_lean_m_isRace
set_option maxHeartbeats 4000000 in
set_option maxRecDepth 100000 in
theorem m_lean (l : Launch) (dC : Nat → ClassId) (dI : Nat → Nat → Nat) (h : Nat) (f : Nat → Value) (a0 : Int32) (sz : Nat) (hf_thrown : f 0 = .int 0) (hf_races : f 46 = .int 0) : Met l yX13_lean v_m_lean ({ frames := 1, cells := 0, slots := 0, locals := 40 }) (va_Pc [.ref h, .int a0] (fun U => U.heap.size = sz ∧ va_P (dC, dI) vwCl [(h, .inr (14, mL f))] U.heap ∧ va_K (dC, dI) vwCl [] U ∧ va_D (fun _ => True) [(h, .inr (14, mL f))])) (va_Qi (S := Unit) (fun r _ => r = -1000000000) (fun _ _ => True) (va_A [(h, .inr (14, mL f))] sz)) 0 0 (va_A [(h, .inr (14, mL f))] sz) := by
  refine Met.ofW (cc := cX13_lean) (maxL := 5) (ret := (some .int)) (by decide) rfl ?_
  intro p e s m args below meth c s₁ B hml hv
  obtain ⟨rfl, hsz, hP, hK, hD0⟩ := hv
  have hx := B.exec
  have hb := B.bytes
  have hr := B.returns
  have hts := atoms_spec (ws := v_m_lean) B.pre
  have hown : s.vm.findClass RX13 = some m.cls := findClass_of_methodNamed B.named
  have hlocks := B.notSynchronized
  subst hsz
  have hD := hD0.self (sz := s.heap.size)
  generalize hAe : va_A [(h, .inr (14, mL f))] s.heap.size = A at hD ⊢
  have hA : ∀ q : Nat, s.heap.size ≤ q → A q := fun q h => by rw [← hAe]; exact Or.inr h
  have hS : va_S A s.heap s.heap [] := va_S.rf
  have hP : va_P (dC, dI) vwCl [(h, .inr (14, mL f))] s.heap := hP
  have hl := lv_entry ([.ref h, .int a0]) (n := 5) (Nat.le_of_ble_eq_true rfl)
  rw [lg_entry_eq]
  generalize (lg_sl ([.ref h, .int a0]) ++ List.replicate (5 - (lg_sl ([.ref h, .int a0])).length) Slot.unset).toArray = ls at hl ⊢
  have hl : lv_has ls 5 [(0, .ref h), (1, .int a0)] := hl
  refine lv_aload_n hx hb dX13_lean_0 rfl (lv_at hl 0 rfl) ?_
  refine lv_iconst (v := 0) hx hb dX13_lean_1 (by decide) ?_
  refine va_put (D := (dC, dI)) (ci := 14) (v := .int 0) (ty := .int) (C := RX13) (T := TX13) (N := 97) hx hb hts iw_m_lean_X13 tyX13 tyX13_ok nmX13 hown hK hP hD hS 0 rfl rfl 0 (by decide) (hts (.fieldLink RX13 228 "UnlikeBoatsModel" "thrown" "I") (List.mem_of_getElem? (i := 1) rfl)) (fun _ h9 => h9) rfl (by decide +kernel) rfl rfl (mL_lt (Nat.le_of_ble_eq_true rfl)) dX13_lean_2 (fun H locs hP hD hS => ?_)
  have hP : va_P (dC, dI) vwCl [(h, .inr (14, (mL f).set 0 (.int 0)))] H := hP
  have hD : va_D A [(h, .inr (14, (mL f).set 0 (.int 0)))] := hD
  rw [mL_same hf_thrown] at hP hD
  refine lv_aload_n hx hb dX13_lean_5 rfl (lv_at hl 0 rfl) ?_
  refine lv_iload_n hx hb dX13_lean_6 rfl (lv_at hl 1 rfl) ?_
  have hPc := hP.sub (ws' := [(h, .inr (14, mL f))]) [0] rfl
  have hKc := hK.sub (tys' := []) [] rfl
  refine va_calli (va_runV (As := [.int a0]) (rest := []) ⟨hx, hb, hml, hown, hts⟩ (m_isRace l dC dI h f a0 hf_races) (cwV 1 hts g_m_lean_m_isRace_393 rfl rfl rfl (by decide +kernel) ⟨Nat.le_of_ble_eq_true rfl, Nat.le_of_ble_eq_true rfl⟩) ⟨fun a U g mk q => by obtain ⟨e0, qP, qK⟩ := q; exact ⟨e0, qP, va_K.moved (u := U) (U := U.calling g mk a) (Vm.Alike.refl U.vm) qK⟩, va_recv hK hP (ci := 14) (q0 := 0) rfl rfl, fun U hU hW => ⟨rfl, by rw [hU]; exact hPc, va_K.moved hW.alike hKc⟩⟩ rfl rfl hl.1 rfl (lv_room (Nat.le_of_ble_eq_true rfl)) dX13_lean_7 ⟨Nat.le_of_ble_eq_true rfl, Nat.le_of_ble_eq_true rfl⟩) hS (fun _ _ h => h.elim) (fun _ h => h.elim) (fun r1 u2 t H1 locs ht hvm hw hB hz1 hk1 hS => ?_)
  have hP := ub_keep hP hk1
  generalize H1 = H at hP hS ⊢
  obtain rfl : (0 : Int32) = r1 := hw.symm
  refine lv_if_ne (tgt := 17) hx hb dX13_lean_10 (by decide) (fun c3 => by first | exact absurd c3 (by decide) | exact absurd (by decide) c3) (fun c3 => ?_)
  refine lv_ldcw hx hb hown (hts (.constant RX13 431 (-1000000000)) (List.mem_of_getElem? (i := 6) rfl)) dX13_lean_13 ?_
  exact W.iret (v := (-1000000000)) hx hb hr (fun t ht hW => ⟨⟨(-1000000000), (), rfl, rfl, trivial⟩, hS.F ht⟩) hS.2.2 dX13_lean_16
def A_m_told : List Cond := [.methodLink RX13 393 yX13_isRace, .instanceMethod yX13_isRace, .selects RX13 yX13_isRace yX13_isRace, .initialized RX13, .fieldLink RX13 228 "UnlikeBoatsModel" "thrown" "I", .code yX13_isRace cX13_isRace 2 (some .boolean), .fieldLink RX13 390 "UnlikeBoatsModel" "races" "I"]
def v_m_told : List Cond := .code yX13_told cX13_told 5 (some .int) :: (A_m_told ++ wsX130)
theorem iw_m_told_X13 : ∀ w ∈ wsX130, w ∈ v_m_told := fun _ h => List.mem_cons_of_mem _ (List.mem_append_right _ (h))
theorem gb_m_told_m_isRace0 : GoodIn v_m_told (.code yX13_isRace cX13_isRace 2 (some .boolean) :: A_m_isRace) := (List.forall_mem_cons.mpr ⟨⟨List.mem_of_getElem? (i := 6) rfl, good_of_word rfl⟩, (List.forall_mem_cons.mpr ⟨⟨List.mem_of_getElem? (i := 7) rfl, good_of_word rfl⟩, (fun _ h => nomatch h)⟩)⟩)
theorem gb_m_told_m_isRace : GoodIn v_m_told v_m_isRace := (goodIn_ca gb_m_told_m_isRace0 (goodIn_sub iw_m_told_X13 gw_X13))
theorem g_m_told_m_isRace_393 : GoodIn v_m_told (wsV RX13 393 RX13 yX13_isRace v_m_isRace) := goodIn_app (List.forall_mem_cons.mpr ⟨⟨List.mem_of_getElem? (i := 1) rfl, good_of_word rfl⟩, (List.forall_mem_cons.mpr ⟨⟨List.mem_of_getElem? (i := 2) rfl, good_of_word rfl⟩, (List.forall_mem_cons.mpr ⟨⟨List.mem_of_getElem? (i := 3) rfl, good_of_word rfl⟩, (List.forall_mem_cons.mpr ⟨⟨List.mem_of_getElem? (i := 4) rfl, good_of_word rfl⟩, (fun _ h => nomatch h)⟩)⟩)⟩)⟩) gb_m_told_m_isRace
set_option maxHeartbeats 4000000 in
set_option maxRecDepth 100000 in
theorem m_told (l : Launch) (dC : Nat → ClassId) (dI : Nat → Nat → Nat) (h : Nat) (f : Nat → Value) (a0 : Int32) (a1 : Int32) (sz : Nat) (hf_thrown : f 0 = .int 0) (hf_races : f 46 = .int 0) : Met l yX13_told v_m_told ({ frames := 1, cells := 0, slots := 0, locals := 40 }) (va_Pc [.ref h, .int a0, .int a1] (fun U => U.heap.size = sz ∧ va_P (dC, dI) vwCl [(h, .inr (14, mL f))] U.heap ∧ va_K (dC, dI) vwCl [] U ∧ va_D (fun _ => True) [(h, .inr (14, mL f))])) (va_Qi (S := Nat → Value) (fun r u => r = 0 ∧ u 0 = .int 1) (fun u t => va_P (dC, dI) vwCl [(h, .inr (14, mL u))] t.heap ∧ va_K (dC, dI) vwCl [] t ∧ va_D (va_A [(h, .inr (14, mL f))] sz) [(h, .inr (14, mL u))]) (va_A [(h, .inr (14, mL f))] sz)) 0 0 (va_A [(h, .inr (14, mL f))] sz) := by
  refine Met.ofW (cc := cX13_told) (maxL := 5) (ret := (some .int)) (by decide) rfl ?_
  intro p e s m args below meth c s₁ B hml hv
  obtain ⟨rfl, hsz, hP, hK, hD0⟩ := hv
  have hx := B.exec
  have hb := B.bytes
  have hr := B.returns
  have hts := atoms_spec (ws := v_m_told) B.pre
  have hown : s.vm.findClass RX13 = some m.cls := findClass_of_methodNamed B.named
  have hlocks := B.notSynchronized
  subst hsz
  have hD := hD0.self (sz := s.heap.size)
  generalize hAe : va_A [(h, .inr (14, mL f))] s.heap.size = A at hD ⊢
  have hA : ∀ q : Nat, s.heap.size ≤ q → A q := fun q h => by rw [← hAe]; exact Or.inr h
  have hS : va_S A s.heap s.heap [] := va_S.rf
  have hP : va_P (dC, dI) vwCl [(h, .inr (14, mL f))] s.heap := hP
  have hl := lv_entry ([.ref h, .int a0, .int a1]) (n := 5) (Nat.le_of_ble_eq_true rfl)
  rw [lg_entry_eq]
  generalize (lg_sl ([.ref h, .int a0, .int a1]) ++ List.replicate (5 - (lg_sl ([.ref h, .int a0, .int a1])).length) Slot.unset).toArray = ls at hl ⊢
  have hl : lv_has ls 5 [(0, .ref h), (1, .int a0), (2, .int a1)] := hl
  refine lv_aload_n hx hb dX13_told_0 rfl (lv_at hl 0 rfl) ?_
  refine lv_aload_n hx hb dX13_told_1 rfl (lv_at hl 0 rfl) ?_
  refine lv_iload_n hx hb dX13_told_2 rfl (lv_at hl 1 rfl) ?_
  have hPc := hP.sub (ws' := [(h, .inr (14, mL f))]) [0] rfl
  have hKc := hK.sub (tys' := []) [] rfl
  refine va_calli (va_runV (As := [.int a0]) (rest := [.ref h]) ⟨hx, hb, hml, hown, hts⟩ (m_isRace l dC dI h f a0 hf_races) (cwV 1 hts g_m_told_m_isRace_393 rfl rfl rfl (by decide +kernel) ⟨Nat.le_of_ble_eq_true rfl, Nat.le_of_ble_eq_true rfl⟩) ⟨fun a U g mk q => by obtain ⟨e0, qP, qK⟩ := q; exact ⟨e0, qP, va_K.moved (u := U) (U := U.calling g mk a) (Vm.Alike.refl U.vm) qK⟩, va_recv hK hP (ci := 14) (q0 := 0) rfl rfl, fun U hU hW => ⟨rfl, by rw [hU]; exact hPc, va_K.moved hW.alike hKc⟩⟩ rfl rfl hl.1 rfl (lv_room (Nat.le_of_ble_eq_true rfl)) dX13_told_3 ⟨Nat.le_of_ble_eq_true rfl, Nat.le_of_ble_eq_true rfl⟩) hS (fun _ _ h => h.elim) (fun _ h => h.elim) (fun r1 u2 t H1 locs ht hvm hw hB hz1 hk1 hS => ?_)
  have hP := ub_keep hP hk1
  generalize H1 = H at hP hS ⊢
  obtain rfl : (0 : Int32) = r1 := hw.symm
  refine lv_if_eq (tgt := 23) hx hb dX13_told_6 (by decide) (fun c3 => ?_) (fun c3 => by first | exact absurd c3 (by decide) | exact absurd (by decide) c3)
  refine lv_iconst (v := 1) hx hb dX13_told_23 (by decide) ?_
  refine va_put (D := (dC, dI)) (ci := 14) (v := .int 1) (ty := .int) (C := RX13) (T := TX13) (N := 97) hx hb hts iw_m_told_X13 tyX13 tyX13_ok nmX13 hown hK hP hD hS 0 rfl rfl 0 (by decide) (hts (.fieldLink RX13 228 "UnlikeBoatsModel" "thrown" "I") (List.mem_of_getElem? (i := 5) rfl)) (fun _ h9 => h9) rfl (by decide +kernel) rfl rfl (mL_lt (Nat.le_of_ble_eq_true rfl)) dX13_told_24 (fun H locs hP hD hS => ?_)
  have hP : va_P (dC, dI) vwCl [(h, .inr (14, (mL f).set 0 (.int 1)))] H := hP
  have hD : va_D A [(h, .inr (14, (mL f).set 0 (.int 1)))] := hD
  obtain ⟨g4, eg4⟩ : ∃ z9, z9 = va_up f 0 (.int 1) := ⟨_, rfl⟩
  rw [mL_upd, ← eg4] at hP hD
  have hg4_46 : g4 46 = .int 0 := by rw [eg4]; exact (va_up_ne _ _ (by decide)).trans hf_races
  have hg4_0 : g4 0 = .int 1 := by rw [eg4]; exact va_up_self _ _ _
  refine lv_aload_n hx hb dX13_told_27 rfl (lv_at hl 0 rfl) ?_
  refine va_get (D := (dC, dI)) (ci := 14) (v := .int 1) (C := RX13) (T := TX13) (N := 97) hx hb hts iw_m_told_X13 hown hK hP 0 rfl rfl 0 (by decide) (hts (.fieldLink RX13 228 "UnlikeBoatsModel" "thrown" "I") (List.mem_of_getElem? (i := 5) rfl)) (fun _ h9 => h9) (mL_some (Nat.le_of_ble_eq_true rfl) hg4_0) dX13_told_28 ?_
  refine lv_if_le (tgt := 36) hx hb dX13_told_31 (by decide) (fun c5 => by first | exact absurd c5 (by decide) | exact absurd (by decide) c5) (fun c5 => ?_)
  refine lv_iconst (v := 0) hx hb dX13_told_34 (by decide) ?_
  have hP9 := hP.sub (ws' := [(h, .inr (14, mL g4))]) [0] rfl
  have hD9 := hD.sub (ws' := [(h, .inr (14, mL g4))]) [0] (by decide) rfl
  have hK9 := hK.sub (tys' := []) [] rfl
  exact W.iret (v := (0)) hx hb hr (fun t ht hW => ⟨⟨(0), g4, rfl, ⟨rfl, hg4_0⟩, (by rw [ht]; exact hP9), va_K.moved hW.alike hK9, hD9⟩, hS.F ht⟩) hS.2.2 dX13_told_35
def A_m_count : List Cond := [.fieldLink RX13 228 "UnlikeBoatsModel" "thrown" "I", .fieldLink RX13 232 "UnlikeBoatsModel" "now" "I", .fieldLink RX13 239 "UnlikeBoatsModel" "boats" "I", .fieldLink RX13 242 "UnlikeBoatsModel" "certs" "I", .fieldLink RX13 370 "UnlikeBoatsModel" "rules" "I", .fieldLink RX13 390 "UnlikeBoatsModel" "races" "I", .fieldLink RX13 399 "UnlikeBoatsModel" "results" "I", .fieldLink RX13 460 "UnlikeBoatsModel" "words" "I", .fieldLink RX13 464 "UnlikeBoatsModel" "protests" "I", .fieldLink RX13 259 "UnlikeBoatsModel" "length" "I", .fieldLink RX13 435 "UnlikeBoatsModel" "redresses" "I"]
def v_m_count : List Cond := .code yX13_count cX13_count 5 (some .int) :: (A_m_count ++ wsX130)
theorem iw_m_count_X13 : ∀ w ∈ wsX130, w ∈ v_m_count := fun _ h => List.mem_cons_of_mem _ (List.mem_append_right _ (h))
set_option maxHeartbeats 4000000 in
set_option maxRecDepth 100000 in
theorem m_count (l : Launch) (dC : Nat → ClassId) (dI : Nat → Nat → Nat) (h : Nat) (f : Nat → Value) (a0 : Int32) (sz : Nat) (hf_thrown : f 0 = .int 0) (hf_now : f 1 = .int 0) (hf_boats : f 8 = .int 0) (hf_certs : f 9 = .int 0) (hf_rules : f 17 = .int 0) (hf_races : f 46 = .int 0) (hf_results : f 47 = .int 0) (hf_words : f 74 = .int 0) (hf_protests : f 75 = .int 0) (hf_length : f 16 = .int 0) (hf_redresses : f 48 = .int 0) : Met l yX13_count v_m_count ({ frames := 0, cells := 0, slots := 0, locals := 0 }) (va_Pc [.ref h, .int a0] (fun U => U.heap.size = sz ∧ va_P (dC, dI) vwCl [(h, .inr (14, mL f))] U.heap ∧ va_K (dC, dI) vwCl [] U ∧ va_D (fun _ => True) [(h, .inr (14, mL f))])) (va_Qi (S := Unit) (fun r _ => r = if a0.toInt < 0 ∨ 10 < a0.toInt then -1 else 0) (fun _ _ => True) (va_A [(h, .inr (14, mL f))] sz)) 0 0 (va_A [(h, .inr (14, mL f))] sz) := by
  refine Met.ofW (cc := cX13_count) (maxL := 5) (ret := (some .int)) (by decide) rfl ?_
  intro p e s m args below meth c s₁ B hml hv
  obtain ⟨rfl, hsz, hP, hK, hD0⟩ := hv
  have hx := B.exec
  have hb := B.bytes
  have hr := B.returns
  have hts := atoms_spec (ws := v_m_count) B.pre
  have hown : s.vm.findClass RX13 = some m.cls := findClass_of_methodNamed B.named
  have hlocks := B.notSynchronized
  subst hsz
  have hD := hD0.self (sz := s.heap.size)
  generalize hAe : va_A [(h, .inr (14, mL f))] s.heap.size = A at hD ⊢
  have hA : ∀ q : Nat, s.heap.size ≤ q → A q := fun q h => by rw [← hAe]; exact Or.inr h
  have hS : va_S A s.heap s.heap [] := va_S.rf
  have hP : va_P (dC, dI) vwCl [(h, .inr (14, mL f))] s.heap := hP
  have hl := lv_entry ([.ref h, .int a0]) (n := 5) (Nat.le_of_ble_eq_true rfl)
  rw [lg_entry_eq]
  generalize (lg_sl ([.ref h, .int a0]) ++ List.replicate (5 - (lg_sl ([.ref h, .int a0])).length) Slot.unset).toArray = ls at hl ⊢
  have hl : lv_has ls 5 [(0, .ref h), (1, .int a0)] := hl
  refine lv_aload_n hx hb dX13_count_0 rfl (lv_at hl 0 rfl) ?_
  refine lv_iconst (v := 0) hx hb dX13_count_1 (by decide) ?_
  refine va_put (D := (dC, dI)) (ci := 14) (v := .int 0) (ty := .int) (C := RX13) (T := TX13) (N := 97) hx hb hts iw_m_count_X13 tyX13 tyX13_ok nmX13 hown hK hP hD hS 0 rfl rfl 0 (by decide) (hts (.fieldLink RX13 228 "UnlikeBoatsModel" "thrown" "I") (List.mem_of_getElem? (i := 1) rfl)) (fun _ h9 => h9) rfl (by decide +kernel) rfl rfl (mL_lt (Nat.le_of_ble_eq_true rfl)) dX13_count_2 (fun H locs hP hD hS => ?_)
  have hP : va_P (dC, dI) vwCl [(h, .inr (14, (mL f).set 0 (.int 0)))] H := hP
  have hD : va_D A [(h, .inr (14, (mL f).set 0 (.int 0)))] := hD
  rw [mL_same hf_thrown] at hP hD
  refine lv_iload_n hx hb dX13_count_5 rfl (lv_at hl 1 rfl) ?_
  rcases (show (a0.toInt < 0 ∨ 10 < a0.toInt) ∨ a0.toInt = 0 ∨ a0.toInt = 1 ∨ a0.toInt = 2 ∨ a0.toInt = 3 ∨ a0.toInt = 4 ∨ a0.toInt = 5 ∨ a0.toInt = 6 ∨ a0.toInt = 7 ∨ a0.toInt = 8 ∨ a0.toInt = 9 ∨ a0.toInt = 10 by omega) with c1 | c1 | c1 | c1 | c1 | c1 | c1 | c1 | c1 | c1 | c1 | c1
  · --None
    refine lv_tableOut (tgt := 174) hx hb dX13_count_6 c1 (by decide) ?_
    refine lv_iconst (v := -1) hx hb dX13_count_174 (by decide) ?_
    exact W.iret (v := (-1)) hx hb hr (fun t ht hW => ⟨⟨(-1), (), rfl, by rw [if_pos c1], trivial⟩, hS.F ht⟩) hS.2.2 dX13_count_175
  · --0
    refine lv_tableIn (off := 58) (tgt := 64) hx hb dX13_count_6 (by omega) (by omega) (by rw [c1]; rfl) (by decide) ?_
    refine lv_aload_n hx hb dX13_count_64 rfl (lv_at hl 0 rfl) ?_
    refine va_get (D := (dC, dI)) (ci := 14) (v := .int 0) (C := RX13) (T := TX13) (N := 97) hx hb hts iw_m_count_X13 hown hK hP 0 rfl rfl 1 (by decide) (hts (.fieldLink RX13 232 "UnlikeBoatsModel" "now" "I") (List.mem_of_getElem? (i := 2) rfl)) (fun _ h9 => h9) (mL_some (Nat.le_of_ble_eq_true rfl) hf_now) dX13_count_65 ?_
    exact W.iret (v := (0)) hx hb hr (fun t ht hW => ⟨⟨(0), (), rfl, by rw [if_neg (by omega)], trivial⟩, hS.F ht⟩) hS.2.2 dX13_count_68
  · --1
    refine lv_tableIn (off := 63) (tgt := 69) hx hb dX13_count_6 (by omega) (by omega) (by rw [c1]; rfl) (by decide) ?_
    refine lv_aload_n hx hb dX13_count_69 rfl (lv_at hl 0 rfl) ?_
    refine va_get (D := (dC, dI)) (ci := 14) (v := .int 0) (C := RX13) (T := TX13) (N := 97) hx hb hts iw_m_count_X13 hown hK hP 0 rfl rfl 8 (by decide) (hts (.fieldLink RX13 239 "UnlikeBoatsModel" "boats" "I") (List.mem_of_getElem? (i := 3) rfl)) (fun _ h9 => h9) (mL_some (Nat.le_of_ble_eq_true rfl) hf_boats) dX13_count_70 ?_
    exact W.iret (v := (0)) hx hb hr (fun t ht hW => ⟨⟨(0), (), rfl, by rw [if_neg (by omega)], trivial⟩, hS.F ht⟩) hS.2.2 dX13_count_73
  · --2
    refine lv_tableIn (off := 68) (tgt := 74) hx hb dX13_count_6 (by omega) (by omega) (by rw [c1]; rfl) (by decide) ?_
    refine lv_aload_n hx hb dX13_count_74 rfl (lv_at hl 0 rfl) ?_
    refine va_get (D := (dC, dI)) (ci := 14) (v := .int 0) (C := RX13) (T := TX13) (N := 97) hx hb hts iw_m_count_X13 hown hK hP 0 rfl rfl 9 (by decide) (hts (.fieldLink RX13 242 "UnlikeBoatsModel" "certs" "I") (List.mem_of_getElem? (i := 4) rfl)) (fun _ h9 => h9) (mL_some (Nat.le_of_ble_eq_true rfl) hf_certs) dX13_count_75 ?_
    exact W.iret (v := (0)) hx hb hr (fun t ht hW => ⟨⟨(0), (), rfl, by rw [if_neg (by omega)], trivial⟩, hS.F ht⟩) hS.2.2 dX13_count_78
  · --3
    refine lv_tableIn (off := 73) (tgt := 79) hx hb dX13_count_6 (by omega) (by omega) (by rw [c1]; rfl) (by decide) ?_
    refine lv_aload_n hx hb dX13_count_79 rfl (lv_at hl 0 rfl) ?_
    refine va_get (D := (dC, dI)) (ci := 14) (v := .int 0) (C := RX13) (T := TX13) (N := 97) hx hb hts iw_m_count_X13 hown hK hP 0 rfl rfl 17 (by decide) (hts (.fieldLink RX13 370 "UnlikeBoatsModel" "rules" "I") (List.mem_of_getElem? (i := 5) rfl)) (fun _ h9 => h9) (mL_some (Nat.le_of_ble_eq_true rfl) hf_rules) dX13_count_80 ?_
    exact W.iret (v := (0)) hx hb hr (fun t ht hW => ⟨⟨(0), (), rfl, by rw [if_neg (by omega)], trivial⟩, hS.F ht⟩) hS.2.2 dX13_count_83
  · --4
    refine lv_tableIn (off := 78) (tgt := 84) hx hb dX13_count_6 (by omega) (by omega) (by rw [c1]; rfl) (by decide) ?_
    refine lv_aload_n hx hb dX13_count_84 rfl (lv_at hl 0 rfl) ?_
    refine va_get (D := (dC, dI)) (ci := 14) (v := .int 0) (C := RX13) (T := TX13) (N := 97) hx hb hts iw_m_count_X13 hown hK hP 0 rfl rfl 46 (by decide) (hts (.fieldLink RX13 390 "UnlikeBoatsModel" "races" "I") (List.mem_of_getElem? (i := 6) rfl)) (fun _ h9 => h9) (mL_some (Nat.le_of_ble_eq_true rfl) hf_races) dX13_count_85 ?_
    exact W.iret (v := (0)) hx hb hr (fun t ht hW => ⟨⟨(0), (), rfl, by rw [if_neg (by omega)], trivial⟩, hS.F ht⟩) hS.2.2 dX13_count_88
  · --5
    refine lv_tableIn (off := 83) (tgt := 89) hx hb dX13_count_6 (by omega) (by omega) (by rw [c1]; rfl) (by decide) ?_
    refine lv_aload_n hx hb dX13_count_89 rfl (lv_at hl 0 rfl) ?_
    refine va_get (D := (dC, dI)) (ci := 14) (v := .int 0) (C := RX13) (T := TX13) (N := 97) hx hb hts iw_m_count_X13 hown hK hP 0 rfl rfl 47 (by decide) (hts (.fieldLink RX13 399 "UnlikeBoatsModel" "results" "I") (List.mem_of_getElem? (i := 7) rfl)) (fun _ h9 => h9) (mL_some (Nat.le_of_ble_eq_true rfl) hf_results) dX13_count_90 ?_
    exact W.iret (v := (0)) hx hb hr (fun t ht hW => ⟨⟨(0), (), rfl, by rw [if_neg (by omega)], trivial⟩, hS.F ht⟩) hS.2.2 dX13_count_93
  · --6
    refine lv_tableIn (off := 88) (tgt := 94) hx hb dX13_count_6 (by omega) (by omega) (by rw [c1]; rfl) (by decide) ?_
    refine lv_aload_n hx hb dX13_count_94 rfl (lv_at hl 0 rfl) ?_
    refine va_get (D := (dC, dI)) (ci := 14) (v := .int 0) (C := RX13) (T := TX13) (N := 97) hx hb hts iw_m_count_X13 hown hK hP 0 rfl rfl 74 (by decide) (hts (.fieldLink RX13 460 "UnlikeBoatsModel" "words" "I") (List.mem_of_getElem? (i := 8) rfl)) (fun _ h9 => h9) (mL_some (Nat.le_of_ble_eq_true rfl) hf_words) dX13_count_95 ?_
    exact W.iret (v := (0)) hx hb hr (fun t ht hW => ⟨⟨(0), (), rfl, by rw [if_neg (by omega)], trivial⟩, hS.F ht⟩) hS.2.2 dX13_count_98
  · --7
    refine lv_tableIn (off := 93) (tgt := 99) hx hb dX13_count_6 (by omega) (by omega) (by rw [c1]; rfl) (by decide) ?_
    refine lv_aload_n hx hb dX13_count_99 rfl (lv_at hl 0 rfl) ?_
    refine va_get (D := (dC, dI)) (ci := 14) (v := .int 0) (C := RX13) (T := TX13) (N := 97) hx hb hts iw_m_count_X13 hown hK hP 0 rfl rfl 75 (by decide) (hts (.fieldLink RX13 464 "UnlikeBoatsModel" "protests" "I") (List.mem_of_getElem? (i := 9) rfl)) (fun _ h9 => h9) (mL_some (Nat.le_of_ble_eq_true rfl) hf_protests) dX13_count_100 ?_
    exact W.iret (v := (0)) hx hb hr (fun t ht hW => ⟨⟨(0), (), rfl, by rw [if_neg (by omega)], trivial⟩, hS.F ht⟩) hS.2.2 dX13_count_103
  · --8
    refine lv_tableIn (off := 98) (tgt := 104) hx hb dX13_count_6 (by omega) (by omega) (by rw [c1]; rfl) (by decide) ?_
    refine lv_aload_n hx hb dX13_count_104 rfl (lv_at hl 0 rfl) ?_
    refine va_get (D := (dC, dI)) (ci := 14) (v := .int 0) (C := RX13) (T := TX13) (N := 97) hx hb hts iw_m_count_X13 hown hK hP 0 rfl rfl 16 (by decide) (hts (.fieldLink RX13 259 "UnlikeBoatsModel" "length" "I") (List.mem_of_getElem? (i := 10) rfl)) (fun _ h9 => h9) (mL_some (Nat.le_of_ble_eq_true rfl) hf_length) dX13_count_105 ?_
    exact W.iret (v := (0)) hx hb hr (fun t ht hW => ⟨⟨(0), (), rfl, by rw [if_neg (by omega)], trivial⟩, hS.F ht⟩) hS.2.2 dX13_count_108
  · --9
    refine lv_tableIn (off := 103) (tgt := 109) hx hb dX13_count_6 (by omega) (by omega) (by rw [c1]; rfl) (by decide) ?_
    refine lv_aload_n hx hb dX13_count_109 rfl (lv_at hl 0 rfl) ?_
    refine va_get (D := (dC, dI)) (ci := 14) (v := .int 0) (C := RX13) (T := TX13) (N := 97) hx hb hts iw_m_count_X13 hown hK hP 0 rfl rfl 48 (by decide) (hts (.fieldLink RX13 435 "UnlikeBoatsModel" "redresses" "I") (List.mem_of_getElem? (i := 11) rfl)) (fun _ h9 => h9) (mL_some (Nat.le_of_ble_eq_true rfl) hf_redresses) dX13_count_110 ?_
    exact W.iret (v := (0)) hx hb hr (fun t ht hW => ⟨⟨(0), (), rfl, by rw [if_neg (by omega)], trivial⟩, hS.F ht⟩) hS.2.2 dX13_count_113
  · --10
    refine lv_tableIn (off := 108) (tgt := 114) hx hb dX13_count_6 (by omega) (by omega) (by rw [c1]; rfl) (by decide) ?_
    refine lv_iconst (v := 0) hx hb dX13_count_114 (by decide) ?_
    refine lv_istore_n (lv' := [(2, .int 0), (0, .ref h), (1, .int a0)]) hx hb dX13_count_115 rfl hl (by decide) rfl (fun ls hl => ?_)
    refine lv_iconst (v := 0) hx hb dX13_count_116 (by decide) ?_
    refine lv_istore_n (lv' := [(3, .int 0), (2, .int 0), (0, .ref h), (1, .int a0)]) hx hb dX13_count_117 rfl hl (by decide) rfl (fun ls hl => ?_)
    refine lv_iload_n hx hb dX13_count_118 rfl (lv_at hl 0 rfl) ?_
    refine lv_aload_n hx hb dX13_count_119 rfl (lv_at hl 2 rfl) ?_
    refine va_get (D := (dC, dI)) (ci := 14) (v := .int 0) (C := RX13) (T := TX13) (N := 97) hx hb hts iw_m_count_X13 hown hK hP 0 rfl rfl 46 (by decide) (hts (.fieldLink RX13 390 "UnlikeBoatsModel" "races" "I") (List.mem_of_getElem? (i := 6) rfl)) (fun _ h9 => h9) (mL_some (Nat.le_of_ble_eq_true rfl) hf_races) dX13_count_120 ?_
    refine lv_icmp_ge (tgt := 172) hx hb dX13_count_123 (by decide) (fun c2 => ?_) (fun c2 => by first | exact absurd c2 (by decide) | exact absurd (by decide) c2)
    refine lv_iload_n hx hb dX13_count_172 rfl (lv_at hl 1 rfl) ?_
    exact W.iret (v := (0)) hx hb hr (fun t ht hW => ⟨⟨(0), (), rfl, by rw [if_neg (by omega)], trivial⟩, hS.F ht⟩) hS.2.2 dX13_count_173
def A_m_draw : List Cond := [.fieldLink RX13 228 "UnlikeBoatsModel" "thrown" "I", .fieldLink RX13 239 "UnlikeBoatsModel" "boats" "I"]
def v_m_draw : List Cond := .code yX13_draw cX13_draw 12 (some .int) :: (A_m_draw ++ wsX130)
theorem iw_m_draw_X13 : ∀ w ∈ wsX130, w ∈ v_m_draw := fun _ h => List.mem_cons_of_mem _ (List.mem_append_right _ (h))
set_option maxHeartbeats 4000000 in
set_option maxRecDepth 100000 in
theorem m_draw (l : Launch) (dC : Nat → ClassId) (dI : Nat → Nat → Nat) (h : Nat) (f : Nat → Value) (n : Int32) (sd : Int64) (sz : Nat) (hf_thrown : f 0 = .int 0) (hf_boats : f 8 = .int 0) : Met l yX13_draw v_m_draw ({ frames := 0, cells := 0, slots := 0, locals := 0 }) (va_Pc [.ref h, .int n, .long sd] (fun U => U.heap.size = sz ∧ va_P (dC, dI) vwCl [(h, .inr (14, mL f))] U.heap ∧ va_K (dC, dI) vwCl [] U ∧ va_D (fun _ => True) [(h, .inr (14, mL f))])) (va_Qi (S := Unit) (fun r _ => r = -1) (fun _ _ => True) (va_A [(h, .inr (14, mL f))] sz)) 0 0 (va_A [(h, .inr (14, mL f))] sz) := by
  refine Met.ofW (cc := cX13_draw) (maxL := 12) (ret := (some .int)) (by decide) rfl ?_
  intro p e s m args below meth c s₁ B hml hv
  obtain ⟨rfl, hsz, hP, hK, hD0⟩ := hv
  have hx := B.exec
  have hb := B.bytes
  have hr := B.returns
  have hts := atoms_spec (ws := v_m_draw) B.pre
  have hown : s.vm.findClass RX13 = some m.cls := findClass_of_methodNamed B.named
  have hlocks := B.notSynchronized
  subst hsz
  have hD := hD0.self (sz := s.heap.size)
  generalize hAe : va_A [(h, .inr (14, mL f))] s.heap.size = A at hD ⊢
  have hA : ∀ q : Nat, s.heap.size ≤ q → A q := fun q h => by rw [← hAe]; exact Or.inr h
  have hS : va_S A s.heap s.heap [] := va_S.rf
  have hP : va_P (dC, dI) vwCl [(h, .inr (14, mL f))] s.heap := hP
  have hl := lv_entry ([.ref h, .int n, .long sd]) (n := 12) (Nat.le_of_ble_eq_true rfl)
  rw [lg_entry_eq]
  generalize (lg_sl ([.ref h, .int n, .long sd]) ++ List.replicate (12 - (lg_sl ([.ref h, .int n, .long sd])).length) Slot.unset).toArray = ls at hl ⊢
  have hl : lv_has ls 12 [(0, .ref h), (1, .int n), (2, .long sd)] := hl
  refine lv_aload_n hx hb dX13_draw_0 rfl (lv_at hl 0 rfl) ?_
  refine lv_iconst (v := 0) hx hb dX13_draw_1 (by decide) ?_
  refine va_put (D := (dC, dI)) (ci := 14) (v := .int 0) (ty := .int) (C := RX13) (T := TX13) (N := 97) hx hb hts iw_m_draw_X13 tyX13 tyX13_ok nmX13 hown hK hP hD hS 0 rfl rfl 0 (by decide) (hts (.fieldLink RX13 228 "UnlikeBoatsModel" "thrown" "I") (List.mem_of_getElem? (i := 1) rfl)) (fun _ h9 => h9) rfl (by decide +kernel) rfl rfl (mL_lt (Nat.le_of_ble_eq_true rfl)) dX13_draw_2 (fun H locs hP hD hS => ?_)
  have hP : va_P (dC, dI) vwCl [(h, .inr (14, (mL f).set 0 (.int 0)))] H := hP
  have hD : va_D A [(h, .inr (14, (mL f).set 0 (.int 0)))] := hD
  rw [mL_same hf_thrown] at hP hD
  refine lv_iconst (v := 0) hx hb dX13_draw_5 (by decide) ?_
  refine lv_istore (lv' := [(4, .int 0), (0, .ref h), (1, .int n), (2, .long sd)]) hx hb dX13_draw_6 hl (by decide) rfl (fun ls hl => ?_)
  refine lv_iconst (v := 0) hx hb dX13_draw_8 (by decide) ?_
  refine lv_istore (lv' := [(5, .int 0), (4, .int 0), (0, .ref h), (1, .int n), (2, .long sd)]) hx hb dX13_draw_9 hl (by decide) rfl (fun ls hl => ?_)
  refine lv_iconst (v := 0) hx hb dX13_draw_11 (by decide) ?_
  refine lv_istore (lv' := [(6, .int 0), (5, .int 0), (4, .int 0), (0, .ref h), (1, .int n), (2, .long sd)]) hx hb dX13_draw_12 hl (by decide) rfl (fun ls hl => ?_)
  refine lv_iload hx hb dX13_draw_14 (lv_at hl 0 rfl) ?_
  refine lv_aload_n hx hb dX13_draw_16 rfl (lv_at hl 3 rfl) ?_
  refine va_get (D := (dC, dI)) (ci := 14) (v := .int 0) (C := RX13) (T := TX13) (N := 97) hx hb hts iw_m_draw_X13 hown hK hP 0 rfl rfl 8 (by decide) (hts (.fieldLink RX13 239 "UnlikeBoatsModel" "boats" "I") (List.mem_of_getElem? (i := 2) rfl)) (fun _ h9 => h9) (mL_some (Nat.le_of_ble_eq_true rfl) hf_boats) dX13_draw_17 ?_
  refine lv_icmp_ge (tgt := 166) hx hb dX13_draw_20 (by decide) (fun c1 => ?_) (fun c1 => by first | exact absurd c1 (by decide) | exact absurd (by decide) c1)
  refine lv_iload_n hx hb dX13_draw_166 rfl (lv_at hl 4 rfl) ?_
  refine lv_iconst (v := 1) hx hb dX13_draw_167 (by decide) ?_
  refine lv_icmp_lt (tgt := 177) hx hb dX13_draw_168 (by decide) (fun c2 => ?_) (fun c2 => ?_)
  · --n < 1
    refine lv_iconst (v := -1) hx hb dX13_draw_177 (by decide) ?_
    exact W.iret (v := (-1)) hx hb hr (fun t ht hW => ⟨⟨(-1), (), rfl, rfl, trivial⟩, hS.F ht⟩) hS.2.2 dX13_draw_178
  · --¬ n < 1
    refine lv_iload_n hx hb dX13_draw_171 rfl (lv_at hl 4 rfl) ?_
    refine lv_iload hx hb dX13_draw_172 (lv_at hl 1 rfl) ?_
    refine lv_icmp_le (tgt := 179) hx hb dX13_draw_174 (by decide) (fun c3 => by first | exact absurd c3 (ub_lt1 c2) | exact absurd (ub_lt1 c2) c3) (fun c3 => ?_)
    refine lv_iconst (v := -1) hx hb dX13_draw_177 (by decide) ?_
    exact W.iret (v := (-1)) hx hb hr (fun t ht hW => ⟨⟨(-1), (), rfl, rfl, trivial⟩, hS.F ht⟩) hS.2.2 dX13_draw_178
def A_m_look : List Cond := [.fieldLink RX13 270 "UnlikeBoatsModel" "at" "I", .fieldLink RX13 273 "UnlikeBoatsModel" "textLong" "I"]
def v_m_look : List Cond := .code yX13_look cX13_look 1 (some .int) :: (A_m_look ++ wsX130)
theorem iw_m_look_X13 : ∀ w ∈ wsX130, w ∈ v_m_look := fun _ h => List.mem_cons_of_mem _ (List.mem_append_right _ (h))
set_option maxHeartbeats 4000000 in
set_option maxRecDepth 100000 in
theorem m_look (l : Launch) (dC : Nat → ClassId) (dI : Nat → Nat → Nat) (h : Nat) (f : Nat → Value) (hf_at : f 21 = .int 0) (hf_textLong : f 20 = .int 0) : Met l yX13_look v_m_look ({ frames := 0, cells := 0, slots := 0, locals := 0 }) (va_Pc [.ref h] (fun U => va_P (dC, dI) vwCl [(h, .inr (14, mL f))] U.heap ∧ va_K (dC, dI) vwCl [] U)) (va_Qi (S := Unit) (fun r _ => r = -1) (fun _ _ => True) (fun _ => False)) 0 0 (fun _ => False) := by
  refine Met.ofW (cc := cX13_look) (maxL := 1) (ret := (some .int)) (by decide) rfl ?_
  intro p e s m args below meth c s₁ B hml hv
  obtain ⟨rfl, hP, hK⟩ := hv
  have hx := B.exec
  have hb := B.bytes
  have hr := B.returns
  have hts := atoms_spec (ws := v_m_look) B.pre
  have hown : s.vm.findClass RX13 = some m.cls := findClass_of_methodNamed B.named
  have hlocks := B.notSynchronized
  have hS : va_S (fun _ : Nat => False) s.heap s.heap [] := va_S.rf
  have hl := lv_entry ([.ref h]) (n := 1) (Nat.le_of_ble_eq_true rfl)
  rw [lg_entry_eq]
  generalize (lg_sl ([.ref h]) ++ List.replicate (1 - (lg_sl ([.ref h])).length) Slot.unset).toArray = ls at hl ⊢
  have hl : lv_has ls 1 [(0, .ref h)] := hl
  refine lv_aload_n hx hb dX13_look_0 rfl (lv_at hl 0 rfl) ?_
  refine va_get (D := (dC, dI)) (ci := 14) (v := .int 0) (C := RX13) (T := TX13) (N := 97) hx hb hts iw_m_look_X13 hown hK hP 0 rfl rfl 21 (by decide) (hts (.fieldLink RX13 270 "UnlikeBoatsModel" "at" "I") (List.mem_of_getElem? (i := 1) rfl)) (fun _ h9 => h9) (mL_some (Nat.le_of_ble_eq_true rfl) hf_at) dX13_look_1 ?_
  refine lv_aload_n hx hb dX13_look_4 rfl (lv_at hl 0 rfl) ?_
  refine va_get (D := (dC, dI)) (ci := 14) (v := .int 0) (C := RX13) (T := TX13) (N := 97) hx hb hts iw_m_look_X13 hown hK hP 0 rfl rfl 20 (by decide) (hts (.fieldLink RX13 273 "UnlikeBoatsModel" "textLong" "I") (List.mem_of_getElem? (i := 2) rfl)) (fun _ h9 => h9) (mL_some (Nat.le_of_ble_eq_true rfl) hf_textLong) dX13_look_5 ?_
  refine lv_icmp_ge (tgt := 43) hx hb dX13_look_8 (by decide) (fun c1 => ?_) (fun c1 => by first | exact absurd c1 (by decide) | exact absurd (by decide) c1)
  refine lv_aload_n hx hb dX13_look_43 rfl (lv_at hl 0 rfl) ?_
  refine va_get (D := (dC, dI)) (ci := 14) (v := .int 0) (C := RX13) (T := TX13) (N := 97) hx hb hts iw_m_look_X13 hown hK hP 0 rfl rfl 21 (by decide) (hts (.fieldLink RX13 270 "UnlikeBoatsModel" "at" "I") (List.mem_of_getElem? (i := 1) rfl)) (fun _ h9 => h9) (mL_some (Nat.le_of_ble_eq_true rfl) hf_at) dX13_look_44 ?_
  refine lv_aload_n hx hb dX13_look_47 rfl (lv_at hl 0 rfl) ?_
  refine va_get (D := (dC, dI)) (ci := 14) (v := .int 0) (C := RX13) (T := TX13) (N := 97) hx hb hts iw_m_look_X13 hown hK hP 0 rfl rfl 20 (by decide) (hts (.fieldLink RX13 273 "UnlikeBoatsModel" "textLong" "I") (List.mem_of_getElem? (i := 2) rfl)) (fun _ h9 => h9) (mL_some (Nat.le_of_ble_eq_true rfl) hf_textLong) dX13_look_48 ?_
  refine lv_icmp_ge (tgt := 75) hx hb dX13_look_51 (by decide) (fun c2 => ?_) (fun c2 => by first | exact absurd c2 (by decide) | exact absurd (by decide) c2)
  refine lv_iconst (v := -1) hx hb dX13_look_75 (by decide) ?_
  exact W.iret (v := (-1)) hx hb hr (fun t ht hW => ⟨⟨(-1), (), rfl, rfl, trivial⟩, hS.F ht⟩) hS.2.2 dX13_look_76
def A_m_stop : List Cond := [.fieldLink RX13 279 "UnlikeBoatsModel" "fault" "I", .fieldLink RX13 270 "UnlikeBoatsModel" "at" "I"]
def v_m_stop : List Cond := .code yX13_stop cX13_stop 1 (some .boolean) :: (A_m_stop ++ wsX130)
theorem iw_m_stop_X13 : ∀ w ∈ wsX130, w ∈ v_m_stop := fun _ h => List.mem_cons_of_mem _ (List.mem_append_right _ (h))
set_option maxHeartbeats 4000000 in
set_option maxRecDepth 100000 in
theorem m_stop (l : Launch) (dC : Nat → ClassId) (dI : Nat → Nat → Nat) (h : Nat) (f : Nat → Value) (sz : Nat) (hf_fault : f 22 = .int (-1)) (hf_at : f 21 = .int 0) : Met l yX13_stop v_m_stop ({ frames := 0, cells := 0, slots := 0, locals := 0 }) (va_Pc [.ref h] (fun U => U.heap.size = sz ∧ va_P (dC, dI) vwCl [(h, .inr (14, mL f))] U.heap ∧ va_K (dC, dI) vwCl [] U ∧ va_D (fun _ => True) [(h, .inr (14, mL f))])) (va_Qi (S := Nat → Value) (fun r u => r = 0 ∧ u 22 = .int 0) (fun u t => va_P (dC, dI) vwCl [(h, .inr (14, mL u))] t.heap ∧ va_K (dC, dI) vwCl [] t ∧ va_D (va_A [(h, .inr (14, mL f))] sz) [(h, .inr (14, mL u))]) (va_A [(h, .inr (14, mL f))] sz)) 0 0 (va_A [(h, .inr (14, mL f))] sz) := by
  refine Met.ofW (cc := cX13_stop) (maxL := 1) (ret := (some .boolean)) (by decide) rfl ?_
  intro p e s m args below meth c s₁ B hml hv
  obtain ⟨rfl, hsz, hP, hK, hD0⟩ := hv
  have hx := B.exec
  have hb := B.bytes
  have hr := B.returns
  have hts := atoms_spec (ws := v_m_stop) B.pre
  have hown : s.vm.findClass RX13 = some m.cls := findClass_of_methodNamed B.named
  have hlocks := B.notSynchronized
  subst hsz
  have hD := hD0.self (sz := s.heap.size)
  generalize hAe : va_A [(h, .inr (14, mL f))] s.heap.size = A at hD ⊢
  have hA : ∀ q : Nat, s.heap.size ≤ q → A q := fun q h => by rw [← hAe]; exact Or.inr h
  have hS : va_S A s.heap s.heap [] := va_S.rf
  have hP : va_P (dC, dI) vwCl [(h, .inr (14, mL f))] s.heap := hP
  have hl := lv_entry ([.ref h]) (n := 1) (Nat.le_of_ble_eq_true rfl)
  rw [lg_entry_eq]
  generalize (lg_sl ([.ref h]) ++ List.replicate (1 - (lg_sl ([.ref h])).length) Slot.unset).toArray = ls at hl ⊢
  have hl : lv_has ls 1 [(0, .ref h)] := hl
  refine lv_aload_n hx hb dX13_stop_0 rfl (lv_at hl 0 rfl) ?_
  refine va_get (D := (dC, dI)) (ci := 14) (v := .int (-1)) (C := RX13) (T := TX13) (N := 97) hx hb hts iw_m_stop_X13 hown hK hP 0 rfl rfl 22 (by decide) (hts (.fieldLink RX13 279 "UnlikeBoatsModel" "fault" "I") (List.mem_of_getElem? (i := 1) rfl)) (fun _ h9 => h9) (mL_some (Nat.le_of_ble_eq_true rfl) hf_fault) dX13_stop_1 ?_
  refine lv_iconst (v := -1) hx hb dX13_stop_4 (by decide) ?_
  refine lv_icmp_ne (tgt := 16) hx hb dX13_stop_5 (by decide) (fun c1 => by first | exact absurd c1 (by decide) | exact absurd (by decide) c1) (fun c1 => ?_)
  refine lv_aload_n hx hb dX13_stop_8 rfl (lv_at hl 0 rfl) ?_
  refine lv_aload_n hx hb dX13_stop_9 rfl (lv_at hl 0 rfl) ?_
  refine va_get (D := (dC, dI)) (ci := 14) (v := .int 0) (C := RX13) (T := TX13) (N := 97) hx hb hts iw_m_stop_X13 hown hK hP 0 rfl rfl 21 (by decide) (hts (.fieldLink RX13 270 "UnlikeBoatsModel" "at" "I") (List.mem_of_getElem? (i := 2) rfl)) (fun _ h9 => h9) (mL_some (Nat.le_of_ble_eq_true rfl) hf_at) dX13_stop_10 ?_
  refine va_put (D := (dC, dI)) (ci := 14) (v := .int 0) (ty := .int) (C := RX13) (T := TX13) (N := 97) hx hb hts iw_m_stop_X13 tyX13 tyX13_ok nmX13 hown hK hP hD hS 0 rfl rfl 22 (by decide) (hts (.fieldLink RX13 279 "UnlikeBoatsModel" "fault" "I") (List.mem_of_getElem? (i := 1) rfl)) (fun _ h9 => h9) rfl (by decide +kernel) rfl rfl (mL_lt (Nat.le_of_ble_eq_true rfl)) dX13_stop_13 (fun H locs hP hD hS => ?_)
  have hP : va_P (dC, dI) vwCl [(h, .inr (14, (mL f).set 22 (.int 0)))] H := hP
  have hD : va_D A [(h, .inr (14, (mL f).set 22 (.int 0)))] := hD
  obtain ⟨g2, eg2⟩ : ∃ z9, z9 = va_up f 22 (.int 0) := ⟨_, rfl⟩
  rw [mL_upd, ← eg2] at hP hD
  have hg2_21 : g2 21 = .int 0 := by rw [eg2]; exact (va_up_ne _ _ (by decide)).trans hf_at
  have hg2_22 : g2 22 = .int 0 := by rw [eg2]; exact va_up_self _ _ _
  refine lv_iconst (v := 0) hx hb dX13_stop_16 (by decide) ?_
  have hP9 := hP.sub (ws' := [(h, .inr (14, mL g2))]) [0] rfl
  have hD9 := hD.sub (ws' := [(h, .inr (14, mL g2))]) [0] (by decide) rfl
  have hK9 := hK.sub (tys' := []) [] rfl
  exact W.zret (v := (0)) hx hb hr rfl (fun t ht hW => ⟨⟨(0), g2, rfl, ⟨rfl, hg2_22⟩, (by rw [ht]; exact hP9), va_K.moved hW.alike hK9, hD9⟩, hS.F ht⟩) hS.2.2 dX13_stop_17
def A_m_clause : List Cond := [.methodLink RX13 289 yX13_look, .instanceMethod yX13_look, .selects RX13 yX13_look yX13_look, .initialized RX13, .methodLink RX13 285 yX13_stop, .instanceMethod yX13_stop, .selects RX13 yX13_stop yX13_stop, .code yX13_look cX13_look 1 (some .int), .fieldLink RX13 270 "UnlikeBoatsModel" "at" "I", .fieldLink RX13 273 "UnlikeBoatsModel" "textLong" "I", .code yX13_stop cX13_stop 1 (some .boolean), .fieldLink RX13 279 "UnlikeBoatsModel" "fault" "I"]
def v_m_clause : List Cond := .code yX13_clause cX13_clause 5 none :: (A_m_clause ++ wsX130)
theorem iw_m_clause_X13 : ∀ w ∈ wsX130, w ∈ v_m_clause := fun _ h => List.mem_cons_of_mem _ (List.mem_append_right _ (h))
theorem gb_m_clause_m_look0 : GoodIn v_m_clause (.code yX13_look cX13_look 1 (some .int) :: A_m_look) := (List.forall_mem_cons.mpr ⟨⟨List.mem_of_getElem? (i := 8) rfl, good_of_word rfl⟩, (List.forall_mem_cons.mpr ⟨⟨List.mem_of_getElem? (i := 9) rfl, good_of_word rfl⟩, (List.forall_mem_cons.mpr ⟨⟨List.mem_of_getElem? (i := 10) rfl, good_of_word rfl⟩, (fun _ h => nomatch h)⟩)⟩)⟩)
theorem gb_m_clause_m_look : GoodIn v_m_clause v_m_look := (goodIn_ca gb_m_clause_m_look0 (goodIn_sub iw_m_clause_X13 gw_X13))
theorem g_m_clause_m_look_289 : GoodIn v_m_clause (wsV RX13 289 RX13 yX13_look v_m_look) := goodIn_app (List.forall_mem_cons.mpr ⟨⟨List.mem_of_getElem? (i := 1) rfl, good_of_word rfl⟩, (List.forall_mem_cons.mpr ⟨⟨List.mem_of_getElem? (i := 2) rfl, good_of_word rfl⟩, (List.forall_mem_cons.mpr ⟨⟨List.mem_of_getElem? (i := 3) rfl, good_of_word rfl⟩, (List.forall_mem_cons.mpr ⟨⟨List.mem_of_getElem? (i := 4) rfl, good_of_word rfl⟩, (fun _ h => nomatch h)⟩)⟩)⟩)⟩) gb_m_clause_m_look
theorem gb_m_clause_m_stop0 : GoodIn v_m_clause (.code yX13_stop cX13_stop 1 (some .boolean) :: A_m_stop) := (List.forall_mem_cons.mpr ⟨⟨List.mem_of_getElem? (i := 11) rfl, good_of_word rfl⟩, (List.forall_mem_cons.mpr ⟨⟨List.mem_of_getElem? (i := 12) rfl, good_of_word rfl⟩, (List.forall_mem_cons.mpr ⟨⟨List.mem_of_getElem? (i := 9) rfl, good_of_word rfl⟩, (fun _ h => nomatch h)⟩)⟩)⟩)
theorem gb_m_clause_m_stop : GoodIn v_m_clause v_m_stop := (goodIn_ca gb_m_clause_m_stop0 (goodIn_sub iw_m_clause_X13 gw_X13))
theorem g_m_clause_m_stop_285 : GoodIn v_m_clause (wsV RX13 285 RX13 yX13_stop v_m_stop) := goodIn_app (List.forall_mem_cons.mpr ⟨⟨List.mem_of_getElem? (i := 5) rfl, good_of_word rfl⟩, (List.forall_mem_cons.mpr ⟨⟨List.mem_of_getElem? (i := 6) rfl, good_of_word rfl⟩, (List.forall_mem_cons.mpr ⟨⟨List.mem_of_getElem? (i := 7) rfl, good_of_word rfl⟩, (List.forall_mem_cons.mpr ⟨⟨List.mem_of_getElem? (i := 4) rfl, good_of_word rfl⟩, (fun _ h => nomatch h)⟩)⟩)⟩)⟩) gb_m_clause_m_stop
set_option maxHeartbeats 4000000 in
set_option maxRecDepth 100000 in
theorem m_clause (l : Launch) (dC : Nat → ClassId) (dI : Nat → Nat → Nat) (h : Nat) (f : Nat → Value) (sz : Nat) (hf_fault : f 22 = .int (-1)) (hf_at : f 21 = .int 0) (hf_textLong : f 20 = .int 0) : Met l yX13_clause v_m_clause ({ frames := 1, cells := 0, slots := 0, locals := 40 }) (va_Pc [.ref h] (fun U => U.heap.size = sz ∧ va_P (dC, dI) vwCl [(h, .inr (14, mL f))] U.heap ∧ va_K (dC, dI) vwCl [] U ∧ va_D (fun _ => True) [(h, .inr (14, mL f))])) (va_Qv (S := Nat → Value) (fun u => u 22 = .int 0) (fun u t => va_P (dC, dI) vwCl [(h, .inr (14, mL u))] t.heap ∧ va_K (dC, dI) vwCl [] t ∧ va_D (va_A [(h, .inr (14, mL f))] sz) [(h, .inr (14, mL u))]) (va_A [(h, .inr (14, mL f))] sz)) 0 0 (va_A [(h, .inr (14, mL f))] sz) := by
  refine Met.ofW (cc := cX13_clause) (maxL := 5) (ret := none) (by decide) rfl ?_
  intro p e s m args below meth c s₁ B hml hv
  obtain ⟨rfl, hsz, hP, hK, hD0⟩ := hv
  have hx := B.exec
  have hb := B.bytes
  have hr := B.returns
  have hts := atoms_spec (ws := v_m_clause) B.pre
  have hown : s.vm.findClass RX13 = some m.cls := findClass_of_methodNamed B.named
  have hlocks := B.notSynchronized
  subst hsz
  have hD := hD0.self (sz := s.heap.size)
  generalize hAe : va_A [(h, .inr (14, mL f))] s.heap.size = A at hD ⊢
  have hA : ∀ q : Nat, s.heap.size ≤ q → A q := fun q h => by rw [← hAe]; exact Or.inr h
  have hS : va_S A s.heap s.heap [] := va_S.rf
  have hP : va_P (dC, dI) vwCl [(h, .inr (14, mL f))] s.heap := hP
  have hl := lv_entry ([.ref h]) (n := 5) (Nat.le_of_ble_eq_true rfl)
  rw [lg_entry_eq]
  generalize (lg_sl ([.ref h]) ++ List.replicate (5 - (lg_sl ([.ref h])).length) Slot.unset).toArray = ls at hl ⊢
  have hl : lv_has ls 5 [(0, .ref h)] := hl
  refine lv_aload_n hx hb dX13_clause_0 rfl (lv_at hl 0 rfl) ?_
  have hPc := hP.sub (ws' := [(h, .inr (14, mL f))]) [0] rfl
  have hKc := hK.sub (tys' := []) [] rfl
  refine va_calli (va_runV (As := []) (rest := []) ⟨hx, hb, hml, hown, hts⟩ (m_look l dC dI h f hf_at hf_textLong) (cwV 0 hts g_m_clause_m_look_289 rfl rfl rfl (by decide +kernel) ⟨Nat.le_of_ble_eq_true rfl, Nat.le_of_ble_eq_true rfl⟩) ⟨fun a U g mk q => by obtain ⟨e0, qP, qK⟩ := q; exact ⟨e0, qP, va_K.moved (u := U) (U := U.calling g mk a) (Vm.Alike.refl U.vm) qK⟩, va_recv hK hP (ci := 14) (q0 := 0) rfl rfl, fun U hU hW => ⟨rfl, by rw [hU]; exact hPc, va_K.moved hW.alike hKc⟩⟩ rfl rfl hl.1 rfl (lv_room (Nat.le_of_ble_eq_true rfl)) dX13_clause_1 ⟨Nat.le_of_ble_eq_true rfl, Nat.le_of_ble_eq_true rfl⟩) hS (fun _ _ h => h.elim) (fun _ h => h.elim) (fun r1 u2 t H1 locs ht hvm hw hB hz1 hk1 hS => ?_)
  have hP := ub_keep hP hk1
  generalize H1 = H at hP hS ⊢
  obtain rfl : (-1 : Int32) = r1 := hw.symm
  refine lv_istore_n (lv' := [(1, .int (-1)), (0, .ref h)]) hx hb dX13_clause_4 rfl hl (by decide) rfl (fun ls hl => ?_)
  refine lv_iload_n hx hb dX13_clause_5 rfl (lv_at hl 0 rfl) ?_
  refine lv_iconst (v := -1) hx hb dX13_clause_6 (by decide) ?_
  refine lv_icmp_eq (tgt := 20) hx hb dX13_clause_7 (by decide) (fun c3 => ?_) (fun c3 => by first | exact absurd c3 (by decide) | exact absurd (by decide) c3)
  refine lv_aload_n hx hb dX13_clause_20 rfl (lv_at hl 1 rfl) ?_
  have hPc := hP.sub (ws' := [(h, .inr (14, mL f))]) [0] rfl
  have hKc := hK.sub (tys' := []) [] rfl
  have hDc := hD.sub (ws' := [(h, .inr (14, mL f))]) [0] (by decide) rfl
  have hFc := va_free (wc := [(h, .inr (14, mL f))]) hD hS hA [0] rfl
  refine va_calli (va_runV (As := []) (rest := []) ⟨hx, hb, hml, hown, hts⟩ (m_stop l dC dI h f H.size hf_fault hf_at) (cwV 0 hts g_m_clause_m_stop_285 rfl rfl rfl (by decide +kernel) ⟨Nat.le_of_ble_eq_true rfl, Nat.le_of_ble_eq_true rfl⟩) ⟨fun a U g mk q => by obtain ⟨e0, e1, qP, qK, qD⟩ := q; exact ⟨e0, e1, qP, va_K.moved (u := U) (U := U.calling g mk a) (Vm.Alike.refl U.vm) qK, qD⟩, va_recv hK hP (ci := 14) (q0 := 0) rfl rfl, fun U hU hW => ⟨rfl, by rw [hU], by rw [hU]; exact hPc, va_K.moved hW.alike hKc, hDc.weaken (fun _ _ _ _ => trivial)⟩⟩ rfl rfl hl.1 rfl (lv_room (Nat.le_of_ble_eq_true rfl)) dX13_clause_21 ⟨Nat.le_of_ble_eq_true rfl, Nat.le_of_ble_eq_true rfl⟩) hS (fun q _ h => hFc q h) hFc (fun r4 u5 t H1 locs ht hvm hw hB hz1 hk1 hS => ?_)
  obtain ⟨hP1, hK1, hD1⟩ := hB
  rw [ht] at hP1
  obtain ⟨hP, hD⟩ := va_join (wr := []) (w1 := [(h, .inr (14, mL u5))]) hP hD [0] [] rfl rfl (by decide) (by decide) hk1 hFc hP1 hD1
  generalize H1 = H at hP hS ⊢
  have hP : va_P (dC, dI) vwCl [(h, .inr (14, mL u5))] H := hP
  have hD : va_D A [(h, .inr (14, mL u5))] := hD
  refine W.widen (k := 0) (n := 0) (by omega) (by omega) ?_
  obtain ⟨hw1, hw2⟩ := hw
  obtain rfl : (0 : Int32) = r4 := hw1.symm
  have hw2_u5 := hw2
  refine lv_pop hx hb dX13_clause_24 rfl ?_
  have hP9 := hP.sub (ws' := [(h, .inr (14, mL u5))]) [0] rfl
  have hD9 := hD.sub (ws' := [(h, .inr (14, mL u5))]) [0] (by decide) rfl
  have hK9 := hK.sub (tys' := []) [] rfl
  exact W.vret hx hb hr (fun t ht hW => ⟨⟨u5, rfl, hw2_u5, (by rw [ht]; exact hP9), va_K.moved hW.alike hK9, hD9⟩, hS.F ht⟩) hS.2.2 dX13_clause_25
def A_m_goThrough : List Cond := [.fieldLink RX13 47 "UnlikeBoatsModel" "text" "[B", .fieldLink RX13 276 "UnlikeBoatsModel" "textFrom" "I", .fieldLink RX13 273 "UnlikeBoatsModel" "textLong" "I", .fieldLink RX13 357 "UnlikeBoatsModel" "label" "I", .fieldLink RX13 270 "UnlikeBoatsModel" "at" "I", .fieldLink RX13 279 "UnlikeBoatsModel" "fault" "I", .fieldLink RX13 282 "UnlikeBoatsModel" "deep" "I", .fieldLink RX13 353 "UnlikeBoatsModel" "hasFound" "Z", .fieldLink RX13 360 "UnlikeBoatsModel" "found" "I", .methodLink RX13 363 yX13_clause, .instanceMethod yX13_clause, .selects RX13 yX13_clause yX13_clause, .initialized RX13, .code yX13_clause cX13_clause 5 none, .methodLink RX13 289 yX13_look, .instanceMethod yX13_look, .selects RX13 yX13_look yX13_look, .methodLink RX13 285 yX13_stop, .instanceMethod yX13_stop, .selects RX13 yX13_stop yX13_stop, .code yX13_look cX13_look 1 (some .int), .code yX13_stop cX13_stop 1 (some .boolean)]
def v_m_goThrough : List Cond := .code yX13_goThrough cX13_goThrough 5 none :: (A_m_goThrough ++ wsX130)
theorem iw_m_goThrough_X13 : ∀ w ∈ wsX130, w ∈ v_m_goThrough := fun _ h => List.mem_cons_of_mem _ (List.mem_append_right _ (h))
theorem gb_m_goThrough_m_clause0 : GoodIn v_m_goThrough (.code yX13_clause cX13_clause 5 none :: A_m_clause) := (List.forall_mem_cons.mpr ⟨⟨List.mem_of_getElem? (i := 14) rfl, good_of_word rfl⟩, (List.forall_mem_cons.mpr ⟨⟨List.mem_of_getElem? (i := 15) rfl, good_of_word rfl⟩, (List.forall_mem_cons.mpr ⟨⟨List.mem_of_getElem? (i := 16) rfl, good_of_word rfl⟩, (List.forall_mem_cons.mpr ⟨⟨List.mem_of_getElem? (i := 17) rfl, good_of_word rfl⟩, (List.forall_mem_cons.mpr ⟨⟨List.mem_of_getElem? (i := 13) rfl, good_of_word rfl⟩, (List.forall_mem_cons.mpr ⟨⟨List.mem_of_getElem? (i := 18) rfl, good_of_word rfl⟩, (List.forall_mem_cons.mpr ⟨⟨List.mem_of_getElem? (i := 19) rfl, good_of_word rfl⟩, (List.forall_mem_cons.mpr ⟨⟨List.mem_of_getElem? (i := 20) rfl, good_of_word rfl⟩, (List.forall_mem_cons.mpr ⟨⟨List.mem_of_getElem? (i := 21) rfl, good_of_word rfl⟩, (List.forall_mem_cons.mpr ⟨⟨List.mem_of_getElem? (i := 5) rfl, good_of_word rfl⟩, (List.forall_mem_cons.mpr ⟨⟨List.mem_of_getElem? (i := 3) rfl, good_of_word rfl⟩, (List.forall_mem_cons.mpr ⟨⟨List.mem_of_getElem? (i := 22) rfl, good_of_word rfl⟩, (List.forall_mem_cons.mpr ⟨⟨List.mem_of_getElem? (i := 6) rfl, good_of_word rfl⟩, (fun _ h => nomatch h)⟩)⟩)⟩)⟩)⟩)⟩)⟩)⟩)⟩)⟩)⟩)⟩)⟩)
theorem gb_m_goThrough_m_clause : GoodIn v_m_goThrough v_m_clause := (goodIn_ca gb_m_goThrough_m_clause0 (goodIn_sub iw_m_goThrough_X13 gw_X13))
theorem g_m_goThrough_m_clause_363 : GoodIn v_m_goThrough (wsV RX13 363 RX13 yX13_clause v_m_clause) := goodIn_app (List.forall_mem_cons.mpr ⟨⟨List.mem_of_getElem? (i := 10) rfl, good_of_word rfl⟩, (List.forall_mem_cons.mpr ⟨⟨List.mem_of_getElem? (i := 11) rfl, good_of_word rfl⟩, (List.forall_mem_cons.mpr ⟨⟨List.mem_of_getElem? (i := 12) rfl, good_of_word rfl⟩, (List.forall_mem_cons.mpr ⟨⟨List.mem_of_getElem? (i := 13) rfl, good_of_word rfl⟩, (fun _ h => nomatch h)⟩)⟩)⟩)⟩) gb_m_goThrough_m_clause
set_option maxHeartbeats 4000000 in
set_option maxRecDepth 100000 in
theorem m_goThrough (l : Launch) (dC : Nat → ClassId) (dI : Nat → Nat → Nat) (h : Nat) (f : Nat → Value) (tb : Nat) (sz : Nat)  : Met l yX13_goThrough v_m_goThrough ({ frames := 2, cells := 0, slots := 0, locals := 80 }) (va_Pc [.ref h, .ref tb, .int 0, .int 0, .int 0] (fun U => U.heap.size = sz ∧ va_P (dC, dI) vwCl [(h, .inr (14, mL f))] U.heap ∧ va_K (dC, dI) vwCl [] U ∧ va_D (fun _ => True) [(h, .inr (14, mL f))])) (va_Qv (S := Nat → Value) (fun u => u 22 = .int 0) (fun u t => va_P (dC, dI) vwCl [(h, .inr (14, mL u))] t.heap ∧ va_K (dC, dI) vwCl [] t ∧ va_D (va_A [(h, .inr (14, mL f))] sz) [(h, .inr (14, mL u))]) (va_A [(h, .inr (14, mL f))] sz)) 0 0 (va_A [(h, .inr (14, mL f))] sz) := by
  refine Met.ofW (cc := cX13_goThrough) (maxL := 5) (ret := none) (by decide) rfl ?_
  intro p e s m args below meth c s₁ B hml hv
  obtain ⟨rfl, hsz, hP, hK, hD0⟩ := hv
  have hx := B.exec
  have hb := B.bytes
  have hr := B.returns
  have hts := atoms_spec (ws := v_m_goThrough) B.pre
  have hown : s.vm.findClass RX13 = some m.cls := findClass_of_methodNamed B.named
  have hlocks := B.notSynchronized
  subst hsz
  have hD := hD0.self (sz := s.heap.size)
  generalize hAe : va_A [(h, .inr (14, mL f))] s.heap.size = A at hD ⊢
  have hA : ∀ q : Nat, s.heap.size ≤ q → A q := fun q h => by rw [← hAe]; exact Or.inr h
  have hS : va_S A s.heap s.heap [] := va_S.rf
  have hP : va_P (dC, dI) vwCl [(h, .inr (14, mL f))] s.heap := hP
  have hl := lv_entry ([.ref h, .ref tb, .int 0, .int 0, .int 0]) (n := 5) (Nat.le_of_ble_eq_true rfl)
  rw [lg_entry_eq]
  generalize (lg_sl ([.ref h, .ref tb, .int 0, .int 0, .int 0]) ++ List.replicate (5 - (lg_sl ([.ref h, .ref tb, .int 0, .int 0, .int 0])).length) Slot.unset).toArray = ls at hl ⊢
  have hl : lv_has ls 5 [(0, .ref h), (1, .ref tb), (2, .int 0), (3, .int 0), (4, .int 0)] := hl
  refine lv_aload_n hx hb dX13_goThrough_0 rfl (lv_at hl 0 rfl) ?_
  refine lv_aload_n hx hb dX13_goThrough_1 rfl (lv_at hl 1 rfl) ?_
  refine va_put (D := (dC, dI)) (ci := 14) (v := .ref tb) (ty := .array .byte) (C := RX13) (T := TX13) (N := 97) hx hb hts iw_m_goThrough_X13 tyX13 tyX13_ok nmX13 hown hK hP hD hS 0 rfl rfl 18 (by decide) (hts (.fieldLink RX13 47 "UnlikeBoatsModel" "text" "[B") (List.mem_of_getElem? (i := 1) rfl)) (fun _ h9 => h9) rfl (by decide +kernel) rfl rfl (mL_lt (Nat.le_of_ble_eq_true rfl)) dX13_goThrough_2 (fun H locs hP hD hS => ?_)
  have hP : va_P (dC, dI) vwCl [(h, .inr (14, (mL f).set 18 (.ref tb)))] H := hP
  have hD : va_D A [(h, .inr (14, (mL f).set 18 (.ref tb)))] := hD
  obtain ⟨g1, eg1⟩ : ∃ z9, z9 = va_up f 18 (.ref tb) := ⟨_, rfl⟩
  rw [mL_upd, ← eg1] at hP hD
  have hg1_18 : g1 18 = .ref tb := by rw [eg1]; exact va_up_self _ _ _
  refine lv_aload_n hx hb dX13_goThrough_5 rfl (lv_at hl 0 rfl) ?_
  refine lv_iload_n hx hb dX13_goThrough_6 rfl (lv_at hl 2 rfl) ?_
  refine va_put (D := (dC, dI)) (ci := 14) (v := .int 0) (ty := .int) (C := RX13) (T := TX13) (N := 97) hx hb hts iw_m_goThrough_X13 tyX13 tyX13_ok nmX13 hown hK hP hD hS 0 rfl rfl 19 (by decide) (hts (.fieldLink RX13 276 "UnlikeBoatsModel" "textFrom" "I") (List.mem_of_getElem? (i := 2) rfl)) (fun _ h9 => h9) rfl (by decide +kernel) rfl rfl (mL_lt (Nat.le_of_ble_eq_true rfl)) dX13_goThrough_7 (fun H locs hP hD hS => ?_)
  have hP : va_P (dC, dI) vwCl [(h, .inr (14, (mL g1).set 19 (.int 0)))] H := hP
  have hD : va_D A [(h, .inr (14, (mL g1).set 19 (.int 0)))] := hD
  obtain ⟨g2, eg2⟩ : ∃ z9, z9 = va_up g1 19 (.int 0) := ⟨_, rfl⟩
  rw [mL_upd, ← eg2] at hP hD
  have hg2_18 : g2 18 = .ref tb := by rw [eg2]; exact (va_up_ne _ _ (by decide)).trans hg1_18
  have hg2_19 : g2 19 = .int 0 := by rw [eg2]; exact va_up_self _ _ _
  refine lv_aload_n hx hb dX13_goThrough_10 rfl (lv_at hl 0 rfl) ?_
  refine lv_iload_n hx hb dX13_goThrough_11 rfl (lv_at hl 3 rfl) ?_
  refine va_put (D := (dC, dI)) (ci := 14) (v := .int 0) (ty := .int) (C := RX13) (T := TX13) (N := 97) hx hb hts iw_m_goThrough_X13 tyX13 tyX13_ok nmX13 hown hK hP hD hS 0 rfl rfl 20 (by decide) (hts (.fieldLink RX13 273 "UnlikeBoatsModel" "textLong" "I") (List.mem_of_getElem? (i := 3) rfl)) (fun _ h9 => h9) rfl (by decide +kernel) rfl rfl (mL_lt (Nat.le_of_ble_eq_true rfl)) dX13_goThrough_12 (fun H locs hP hD hS => ?_)
  have hP : va_P (dC, dI) vwCl [(h, .inr (14, (mL g2).set 20 (.int 0)))] H := hP
  have hD : va_D A [(h, .inr (14, (mL g2).set 20 (.int 0)))] := hD
  obtain ⟨g3, eg3⟩ : ∃ z9, z9 = va_up g2 20 (.int 0) := ⟨_, rfl⟩
  rw [mL_upd, ← eg3] at hP hD
  have hg3_18 : g3 18 = .ref tb := by rw [eg3]; exact (va_up_ne _ _ (by decide)).trans hg2_18
  have hg3_19 : g3 19 = .int 0 := by rw [eg3]; exact (va_up_ne _ _ (by decide)).trans hg2_19
  have hg3_20 : g3 20 = .int 0 := by rw [eg3]; exact va_up_self _ _ _
  refine lv_aload_n hx hb dX13_goThrough_15 rfl (lv_at hl 0 rfl) ?_
  refine lv_iload hx hb dX13_goThrough_16 (lv_at hl 4 rfl) ?_
  refine va_put (D := (dC, dI)) (ci := 14) (v := .int 0) (ty := .int) (C := RX13) (T := TX13) (N := 97) hx hb hts iw_m_goThrough_X13 tyX13 tyX13_ok nmX13 hown hK hP hD hS 0 rfl rfl 24 (by decide) (hts (.fieldLink RX13 357 "UnlikeBoatsModel" "label" "I") (List.mem_of_getElem? (i := 4) rfl)) (fun _ h9 => h9) rfl (by decide +kernel) rfl rfl (mL_lt (Nat.le_of_ble_eq_true rfl)) dX13_goThrough_18 (fun H locs hP hD hS => ?_)
  have hP : va_P (dC, dI) vwCl [(h, .inr (14, (mL g3).set 24 (.int 0)))] H := hP
  have hD : va_D A [(h, .inr (14, (mL g3).set 24 (.int 0)))] := hD
  obtain ⟨g4, eg4⟩ : ∃ z9, z9 = va_up g3 24 (.int 0) := ⟨_, rfl⟩
  rw [mL_upd, ← eg4] at hP hD
  have hg4_18 : g4 18 = .ref tb := by rw [eg4]; exact (va_up_ne _ _ (by decide)).trans hg3_18
  have hg4_19 : g4 19 = .int 0 := by rw [eg4]; exact (va_up_ne _ _ (by decide)).trans hg3_19
  have hg4_20 : g4 20 = .int 0 := by rw [eg4]; exact (va_up_ne _ _ (by decide)).trans hg3_20
  have hg4_24 : g4 24 = .int 0 := by rw [eg4]; exact va_up_self _ _ _
  refine lv_aload_n hx hb dX13_goThrough_21 rfl (lv_at hl 0 rfl) ?_
  refine lv_iconst (v := 0) hx hb dX13_goThrough_22 (by decide) ?_
  refine va_put (D := (dC, dI)) (ci := 14) (v := .int 0) (ty := .int) (C := RX13) (T := TX13) (N := 97) hx hb hts iw_m_goThrough_X13 tyX13 tyX13_ok nmX13 hown hK hP hD hS 0 rfl rfl 21 (by decide) (hts (.fieldLink RX13 270 "UnlikeBoatsModel" "at" "I") (List.mem_of_getElem? (i := 5) rfl)) (fun _ h9 => h9) rfl (by decide +kernel) rfl rfl (mL_lt (Nat.le_of_ble_eq_true rfl)) dX13_goThrough_23 (fun H locs hP hD hS => ?_)
  have hP : va_P (dC, dI) vwCl [(h, .inr (14, (mL g4).set 21 (.int 0)))] H := hP
  have hD : va_D A [(h, .inr (14, (mL g4).set 21 (.int 0)))] := hD
  obtain ⟨g5, eg5⟩ : ∃ z9, z9 = va_up g4 21 (.int 0) := ⟨_, rfl⟩
  rw [mL_upd, ← eg5] at hP hD
  have hg5_18 : g5 18 = .ref tb := by rw [eg5]; exact (va_up_ne _ _ (by decide)).trans hg4_18
  have hg5_19 : g5 19 = .int 0 := by rw [eg5]; exact (va_up_ne _ _ (by decide)).trans hg4_19
  have hg5_20 : g5 20 = .int 0 := by rw [eg5]; exact (va_up_ne _ _ (by decide)).trans hg4_20
  have hg5_24 : g5 24 = .int 0 := by rw [eg5]; exact (va_up_ne _ _ (by decide)).trans hg4_24
  have hg5_21 : g5 21 = .int 0 := by rw [eg5]; exact va_up_self _ _ _
  refine lv_aload_n hx hb dX13_goThrough_26 rfl (lv_at hl 0 rfl) ?_
  refine lv_iconst (v := -1) hx hb dX13_goThrough_27 (by decide) ?_
  refine va_put (D := (dC, dI)) (ci := 14) (v := .int (-1)) (ty := .int) (C := RX13) (T := TX13) (N := 97) hx hb hts iw_m_goThrough_X13 tyX13 tyX13_ok nmX13 hown hK hP hD hS 0 rfl rfl 22 (by decide) (hts (.fieldLink RX13 279 "UnlikeBoatsModel" "fault" "I") (List.mem_of_getElem? (i := 6) rfl)) (fun _ h9 => h9) rfl (by decide +kernel) rfl rfl (mL_lt (Nat.le_of_ble_eq_true rfl)) dX13_goThrough_28 (fun H locs hP hD hS => ?_)
  have hP : va_P (dC, dI) vwCl [(h, .inr (14, (mL g5).set 22 (.int (-1))))] H := hP
  have hD : va_D A [(h, .inr (14, (mL g5).set 22 (.int (-1))))] := hD
  obtain ⟨g6, eg6⟩ : ∃ z9, z9 = va_up g5 22 (.int (-1)) := ⟨_, rfl⟩
  rw [mL_upd, ← eg6] at hP hD
  have hg6_18 : g6 18 = .ref tb := by rw [eg6]; exact (va_up_ne _ _ (by decide)).trans hg5_18
  have hg6_19 : g6 19 = .int 0 := by rw [eg6]; exact (va_up_ne _ _ (by decide)).trans hg5_19
  have hg6_20 : g6 20 = .int 0 := by rw [eg6]; exact (va_up_ne _ _ (by decide)).trans hg5_20
  have hg6_24 : g6 24 = .int 0 := by rw [eg6]; exact (va_up_ne _ _ (by decide)).trans hg5_24
  have hg6_21 : g6 21 = .int 0 := by rw [eg6]; exact (va_up_ne _ _ (by decide)).trans hg5_21
  have hg6_22 : g6 22 = .int (-1) := by rw [eg6]; exact va_up_self _ _ _
  refine lv_aload_n hx hb dX13_goThrough_31 rfl (lv_at hl 0 rfl) ?_
  refine lv_iconst (v := 0) hx hb dX13_goThrough_32 (by decide) ?_
  refine va_put (D := (dC, dI)) (ci := 14) (v := .int 0) (ty := .int) (C := RX13) (T := TX13) (N := 97) hx hb hts iw_m_goThrough_X13 tyX13 tyX13_ok nmX13 hown hK hP hD hS 0 rfl rfl 23 (by decide) (hts (.fieldLink RX13 282 "UnlikeBoatsModel" "deep" "I") (List.mem_of_getElem? (i := 7) rfl)) (fun _ h9 => h9) rfl (by decide +kernel) rfl rfl (mL_lt (Nat.le_of_ble_eq_true rfl)) dX13_goThrough_33 (fun H locs hP hD hS => ?_)
  have hP : va_P (dC, dI) vwCl [(h, .inr (14, (mL g6).set 23 (.int 0)))] H := hP
  have hD : va_D A [(h, .inr (14, (mL g6).set 23 (.int 0)))] := hD
  obtain ⟨g7, eg7⟩ : ∃ z9, z9 = va_up g6 23 (.int 0) := ⟨_, rfl⟩
  rw [mL_upd, ← eg7] at hP hD
  have hg7_18 : g7 18 = .ref tb := by rw [eg7]; exact (va_up_ne _ _ (by decide)).trans hg6_18
  have hg7_19 : g7 19 = .int 0 := by rw [eg7]; exact (va_up_ne _ _ (by decide)).trans hg6_19
  have hg7_20 : g7 20 = .int 0 := by rw [eg7]; exact (va_up_ne _ _ (by decide)).trans hg6_20
  have hg7_24 : g7 24 = .int 0 := by rw [eg7]; exact (va_up_ne _ _ (by decide)).trans hg6_24
  have hg7_21 : g7 21 = .int 0 := by rw [eg7]; exact (va_up_ne _ _ (by decide)).trans hg6_21
  have hg7_22 : g7 22 = .int (-1) := by rw [eg7]; exact (va_up_ne _ _ (by decide)).trans hg6_22
  have hg7_23 : g7 23 = .int 0 := by rw [eg7]; exact va_up_self _ _ _
  refine lv_aload_n hx hb dX13_goThrough_36 rfl (lv_at hl 0 rfl) ?_
  refine lv_iconst (v := 0) hx hb dX13_goThrough_37 (by decide) ?_
  refine va_put (D := (dC, dI)) (ci := 14) (v := .int 0) (ty := .boolean) (C := RX13) (T := TX13) (N := 97) hx hb hts iw_m_goThrough_X13 tyX13 tyX13_ok nmX13 hown hK hP hD hS 0 rfl rfl 26 (by decide) (hts (.fieldLink RX13 353 "UnlikeBoatsModel" "hasFound" "Z") (List.mem_of_getElem? (i := 8) rfl)) (fun _ h9 => h9) rfl (by decide +kernel) rfl rfl (mL_lt (Nat.le_of_ble_eq_true rfl)) dX13_goThrough_38 (fun H locs hP hD hS => ?_)
  have hP : va_P (dC, dI) vwCl [(h, .inr (14, (mL g7).set 26 (.int 0)))] H := hP
  have hD : va_D A [(h, .inr (14, (mL g7).set 26 (.int 0)))] := hD
  obtain ⟨g8, eg8⟩ : ∃ z9, z9 = va_up g7 26 (.int 0) := ⟨_, rfl⟩
  rw [mL_upd, ← eg8] at hP hD
  have hg8_18 : g8 18 = .ref tb := by rw [eg8]; exact (va_up_ne _ _ (by decide)).trans hg7_18
  have hg8_19 : g8 19 = .int 0 := by rw [eg8]; exact (va_up_ne _ _ (by decide)).trans hg7_19
  have hg8_20 : g8 20 = .int 0 := by rw [eg8]; exact (va_up_ne _ _ (by decide)).trans hg7_20
  have hg8_24 : g8 24 = .int 0 := by rw [eg8]; exact (va_up_ne _ _ (by decide)).trans hg7_24
  have hg8_21 : g8 21 = .int 0 := by rw [eg8]; exact (va_up_ne _ _ (by decide)).trans hg7_21
  have hg8_22 : g8 22 = .int (-1) := by rw [eg8]; exact (va_up_ne _ _ (by decide)).trans hg7_22
  have hg8_23 : g8 23 = .int 0 := by rw [eg8]; exact (va_up_ne _ _ (by decide)).trans hg7_23
  have hg8_26 : g8 26 = .int 0 := by rw [eg8]; exact va_up_self _ _ _
  refine lv_aload_n hx hb dX13_goThrough_41 rfl (lv_at hl 0 rfl) ?_
  refine lv_iload hx hb dX13_goThrough_42 (lv_at hl 4 rfl) ?_
  refine lv_bipush (v := 110) hx hb dX13_goThrough_44 (by decide) ?_
  refine lv_icmp_ne (tgt := 55) hx hb dX13_goThrough_46 (by decide) (fun c9 => ?_) (fun c9 => by first | exact absurd c9 (by decide) | exact absurd (by decide) c9)
  refine lv_iconst (v := 0) hx hb dX13_goThrough_55 (by decide) ?_
  refine va_put (D := (dC, dI)) (ci := 14) (v := .int 0) (ty := .int) (C := RX13) (T := TX13) (N := 97) hx hb hts iw_m_goThrough_X13 tyX13 tyX13_ok nmX13 hown hK hP hD hS 0 rfl rfl 25 (by decide) (hts (.fieldLink RX13 360 "UnlikeBoatsModel" "found" "I") (List.mem_of_getElem? (i := 9) rfl)) (fun _ h9 => h9) rfl (by decide +kernel) rfl rfl (mL_lt (Nat.le_of_ble_eq_true rfl)) dX13_goThrough_56 (fun H locs hP hD hS => ?_)
  have hP : va_P (dC, dI) vwCl [(h, .inr (14, (mL g8).set 25 (.int 0)))] H := hP
  have hD : va_D A [(h, .inr (14, (mL g8).set 25 (.int 0)))] := hD
  obtain ⟨g10, eg10⟩ : ∃ z9, z9 = va_up g8 25 (.int 0) := ⟨_, rfl⟩
  rw [mL_upd, ← eg10] at hP hD
  have hg10_18 : g10 18 = .ref tb := by rw [eg10]; exact (va_up_ne _ _ (by decide)).trans hg8_18
  have hg10_19 : g10 19 = .int 0 := by rw [eg10]; exact (va_up_ne _ _ (by decide)).trans hg8_19
  have hg10_20 : g10 20 = .int 0 := by rw [eg10]; exact (va_up_ne _ _ (by decide)).trans hg8_20
  have hg10_24 : g10 24 = .int 0 := by rw [eg10]; exact (va_up_ne _ _ (by decide)).trans hg8_24
  have hg10_21 : g10 21 = .int 0 := by rw [eg10]; exact (va_up_ne _ _ (by decide)).trans hg8_21
  have hg10_22 : g10 22 = .int (-1) := by rw [eg10]; exact (va_up_ne _ _ (by decide)).trans hg8_22
  have hg10_23 : g10 23 = .int 0 := by rw [eg10]; exact (va_up_ne _ _ (by decide)).trans hg8_23
  have hg10_26 : g10 26 = .int 0 := by rw [eg10]; exact (va_up_ne _ _ (by decide)).trans hg8_26
  have hg10_25 : g10 25 = .int 0 := by rw [eg10]; exact va_up_self _ _ _
  refine lv_aload_n hx hb dX13_goThrough_59 rfl (lv_at hl 0 rfl) ?_
  have hPc := hP.sub (ws' := [(h, .inr (14, mL g10))]) [0] rfl
  have hKc := hK.sub (tys' := []) [] rfl
  have hDc := hD.sub (ws' := [(h, .inr (14, mL g10))]) [0] (by decide) rfl
  have hFc := va_free (wc := [(h, .inr (14, mL g10))]) hD hS hA [0] rfl
  refine va_callv (va_runV (As := []) (rest := []) ⟨hx, hb, hml, hown, hts⟩ (m_clause l dC dI h g10 H.size hg10_22 hg10_21 hg10_20) (cwV 0 hts g_m_goThrough_m_clause_363 rfl rfl rfl (by decide +kernel) ⟨Nat.le_of_ble_eq_true rfl, Nat.le_of_ble_eq_true rfl⟩) ⟨fun a U g mk q => by obtain ⟨e0, e1, qP, qK, qD⟩ := q; exact ⟨e0, e1, qP, va_K.moved (u := U) (U := U.calling g mk a) (Vm.Alike.refl U.vm) qK, qD⟩, va_recv hK hP (ci := 14) (q0 := 0) rfl rfl, fun U hU hW => ⟨rfl, by rw [hU], by rw [hU]; exact hPc, va_K.moved hW.alike hKc, hDc.weaken (fun _ _ _ _ => trivial)⟩⟩ rfl rfl hl.1 rfl (lv_room (Nat.le_of_ble_eq_true rfl)) dX13_goThrough_60 ⟨Nat.le_of_ble_eq_true rfl, Nat.le_of_ble_eq_true rfl⟩) hS (fun q _ h => hFc q h) hFc (fun u12 t H1 locs ht hvm hw hB hz1 hk1 hS => ?_)
  obtain ⟨hP1, hK1, hD1⟩ := hB
  rw [ht] at hP1
  obtain ⟨hP, hD⟩ := va_join (wr := []) (w1 := [(h, .inr (14, mL u12))]) hP hD [0] [] rfl rfl (by decide) (by decide) hk1 hFc hP1 hD1
  generalize H1 = H at hP hS ⊢
  have hP : va_P (dC, dI) vwCl [(h, .inr (14, mL u12))] H := hP
  have hD : va_D A [(h, .inr (14, mL u12))] := hD
  refine W.widen (k := 0) (n := 0) (by omega) (by omega) ?_
  have hw2_u12 := hw
  refine lv_aload_n hx hb dX13_goThrough_63 rfl (lv_at hl 0 rfl) ?_
  refine va_get (D := (dC, dI)) (ci := 14) (v := .int 0) (C := RX13) (T := TX13) (N := 97) hx hb hts iw_m_goThrough_X13 hown hK hP 0 rfl rfl 22 (by decide) (hts (.fieldLink RX13 279 "UnlikeBoatsModel" "fault" "I") (List.mem_of_getElem? (i := 6) rfl)) (fun _ h9 => h9) (mL_some (Nat.le_of_ble_eq_true rfl) hw2_u12) dX13_goThrough_64 ?_
  refine lv_iconst (v := -1) hx hb dX13_goThrough_67 (by decide) ?_
  refine lv_icmp_ne (tgt := 97) hx hb dX13_goThrough_68 (by decide) (fun c13 => ?_) (fun c13 => by first | exact absurd c13 (by decide) | exact absurd (by decide) c13)
  refine lv_aload_n hx hb dX13_goThrough_97 rfl (lv_at hl 0 rfl) ?_
  refine va_get (D := (dC, dI)) (ci := 14) (v := .int 0) (C := RX13) (T := TX13) (N := 97) hx hb hts iw_m_goThrough_X13 hown hK hP 0 rfl rfl 22 (by decide) (hts (.fieldLink RX13 279 "UnlikeBoatsModel" "fault" "I") (List.mem_of_getElem? (i := 6) rfl)) (fun _ h9 => h9) (mL_some (Nat.le_of_ble_eq_true rfl) hw2_u12) dX13_goThrough_98 ?_
  refine lv_iconst (v := -1) hx hb dX13_goThrough_101 (by decide) ?_
  refine lv_icmp_ne (tgt := 118) hx hb dX13_goThrough_102 (by decide) (fun c14 => ?_) (fun c14 => by first | exact absurd c14 (by decide) | exact absurd (by decide) c14)
  have hP9 := hP.sub (ws' := [(h, .inr (14, mL u12))]) [0] rfl
  have hD9 := hD.sub (ws' := [(h, .inr (14, mL u12))]) [0] (by decide) rfl
  have hK9 := hK.sub (tys' := []) [] rfl
  exact W.vret hx hb hr (fun t ht hW => ⟨⟨u12, rfl, hw2_u12, (by rw [ht]; exact hP9), va_K.moved hW.alike hK9, hD9⟩, hS.F ht⟩) hS.2.2 dX13_goThrough_118
def A_m_fault : List Cond := [.fieldLink RX13 228 "UnlikeBoatsModel" "thrown" "I", .fieldLink RX13 28 "UnlikeBoatsModel" "tape" "[B", .fieldLink RX13 259 "UnlikeBoatsModel" "length" "I", .methodLink RX13 366 yX13_goThrough, .instanceMethod yX13_goThrough, .selects RX13 yX13_goThrough yX13_goThrough, .initialized RX13, .fieldLink RX13 279 "UnlikeBoatsModel" "fault" "I", .code yX13_goThrough cX13_goThrough 5 none, .fieldLink RX13 47 "UnlikeBoatsModel" "text" "[B", .fieldLink RX13 276 "UnlikeBoatsModel" "textFrom" "I", .fieldLink RX13 273 "UnlikeBoatsModel" "textLong" "I", .fieldLink RX13 357 "UnlikeBoatsModel" "label" "I", .fieldLink RX13 270 "UnlikeBoatsModel" "at" "I", .fieldLink RX13 282 "UnlikeBoatsModel" "deep" "I", .fieldLink RX13 353 "UnlikeBoatsModel" "hasFound" "Z", .fieldLink RX13 360 "UnlikeBoatsModel" "found" "I", .methodLink RX13 363 yX13_clause, .instanceMethod yX13_clause, .selects RX13 yX13_clause yX13_clause, .code yX13_clause cX13_clause 5 none, .methodLink RX13 289 yX13_look, .instanceMethod yX13_look, .selects RX13 yX13_look yX13_look, .methodLink RX13 285 yX13_stop, .instanceMethod yX13_stop, .selects RX13 yX13_stop yX13_stop, .code yX13_look cX13_look 1 (some .int), .code yX13_stop cX13_stop 1 (some .boolean)]
def v_m_fault : List Cond := .code yX13_fault cX13_fault 1 (some .int) :: (A_m_fault ++ wsX130)
theorem iw_m_fault_X13 : ∀ w ∈ wsX130, w ∈ v_m_fault := fun _ h => List.mem_cons_of_mem _ (List.mem_append_right _ (h))
theorem gb_m_fault_m_goThrough0 : GoodIn v_m_fault (.code yX13_goThrough cX13_goThrough 5 none :: A_m_goThrough) := (List.forall_mem_cons.mpr ⟨⟨List.mem_of_getElem? (i := 9) rfl, good_of_word rfl⟩, (List.forall_mem_cons.mpr ⟨⟨List.mem_of_getElem? (i := 10) rfl, good_of_word rfl⟩, (List.forall_mem_cons.mpr ⟨⟨List.mem_of_getElem? (i := 11) rfl, good_of_word rfl⟩, (List.forall_mem_cons.mpr ⟨⟨List.mem_of_getElem? (i := 12) rfl, good_of_word rfl⟩, (List.forall_mem_cons.mpr ⟨⟨List.mem_of_getElem? (i := 13) rfl, good_of_word rfl⟩, (List.forall_mem_cons.mpr ⟨⟨List.mem_of_getElem? (i := 14) rfl, good_of_word rfl⟩, (List.forall_mem_cons.mpr ⟨⟨List.mem_of_getElem? (i := 8) rfl, good_of_word rfl⟩, (List.forall_mem_cons.mpr ⟨⟨List.mem_of_getElem? (i := 15) rfl, good_of_word rfl⟩, (List.forall_mem_cons.mpr ⟨⟨List.mem_of_getElem? (i := 16) rfl, good_of_word rfl⟩, (List.forall_mem_cons.mpr ⟨⟨List.mem_of_getElem? (i := 17) rfl, good_of_word rfl⟩, (List.forall_mem_cons.mpr ⟨⟨List.mem_of_getElem? (i := 18) rfl, good_of_word rfl⟩, (List.forall_mem_cons.mpr ⟨⟨List.mem_of_getElem? (i := 19) rfl, good_of_word rfl⟩, (List.forall_mem_cons.mpr ⟨⟨List.mem_of_getElem? (i := 20) rfl, good_of_word rfl⟩, (List.forall_mem_cons.mpr ⟨⟨List.mem_of_getElem? (i := 7) rfl, good_of_word rfl⟩, (List.forall_mem_cons.mpr ⟨⟨List.mem_of_getElem? (i := 21) rfl, good_of_word rfl⟩, (List.forall_mem_cons.mpr ⟨⟨List.mem_of_getElem? (i := 22) rfl, good_of_word rfl⟩, (List.forall_mem_cons.mpr ⟨⟨List.mem_of_getElem? (i := 23) rfl, good_of_word rfl⟩, (List.forall_mem_cons.mpr ⟨⟨List.mem_of_getElem? (i := 24) rfl, good_of_word rfl⟩, (List.forall_mem_cons.mpr ⟨⟨List.mem_of_getElem? (i := 25) rfl, good_of_word rfl⟩, (List.forall_mem_cons.mpr ⟨⟨List.mem_of_getElem? (i := 26) rfl, good_of_word rfl⟩, (List.forall_mem_cons.mpr ⟨⟨List.mem_of_getElem? (i := 27) rfl, good_of_word rfl⟩, (List.forall_mem_cons.mpr ⟨⟨List.mem_of_getElem? (i := 28) rfl, good_of_word rfl⟩, (List.forall_mem_cons.mpr ⟨⟨List.mem_of_getElem? (i := 29) rfl, good_of_word rfl⟩, (fun _ h => nomatch h)⟩)⟩)⟩)⟩)⟩)⟩)⟩)⟩)⟩)⟩)⟩)⟩)⟩)⟩)⟩)⟩)⟩)⟩)⟩)⟩)⟩)⟩)⟩)
theorem gb_m_fault_m_goThrough : GoodIn v_m_fault v_m_goThrough := (goodIn_ca gb_m_fault_m_goThrough0 (goodIn_sub iw_m_fault_X13 gw_X13))
theorem g_m_fault_m_goThrough_366 : GoodIn v_m_fault (wsV RX13 366 RX13 yX13_goThrough v_m_goThrough) := goodIn_app (List.forall_mem_cons.mpr ⟨⟨List.mem_of_getElem? (i := 4) rfl, good_of_word rfl⟩, (List.forall_mem_cons.mpr ⟨⟨List.mem_of_getElem? (i := 5) rfl, good_of_word rfl⟩, (List.forall_mem_cons.mpr ⟨⟨List.mem_of_getElem? (i := 6) rfl, good_of_word rfl⟩, (List.forall_mem_cons.mpr ⟨⟨List.mem_of_getElem? (i := 7) rfl, good_of_word rfl⟩, (fun _ h => nomatch h)⟩)⟩)⟩)⟩) gb_m_fault_m_goThrough
set_option maxHeartbeats 4000000 in
set_option maxRecDepth 100000 in
theorem m_fault (l : Launch) (dC : Nat → ClassId) (dI : Nat → Nat → Nat) (h : Nat) (f : Nat → Value) (tb : Nat) (sz : Nat) (hf_thrown : f 0 = .int 0) (hf_tape : f 10 = .ref tb) (hf_length : f 16 = .int 0) : Met l yX13_fault v_m_fault ({ frames := 3, cells := 0, slots := 0, locals := 120 }) (va_Pc [.ref h] (fun U => U.heap.size = sz ∧ va_P (dC, dI) vwCl [(h, .inr (14, mL f))] U.heap ∧ va_K (dC, dI) vwCl [] U ∧ va_D (fun _ => True) [(h, .inr (14, mL f))])) (va_Qi (S := Unit) (fun r _ => r = 0) (fun _ _ => True) (va_A [(h, .inr (14, mL f))] sz)) 0 0 (va_A [(h, .inr (14, mL f))] sz) := by
  refine Met.ofW (cc := cX13_fault) (maxL := 1) (ret := (some .int)) (by decide) rfl ?_
  intro p e s m args below meth c s₁ B hml hv
  obtain ⟨rfl, hsz, hP, hK, hD0⟩ := hv
  have hx := B.exec
  have hb := B.bytes
  have hr := B.returns
  have hts := atoms_spec (ws := v_m_fault) B.pre
  have hown : s.vm.findClass RX13 = some m.cls := findClass_of_methodNamed B.named
  have hlocks := B.notSynchronized
  subst hsz
  have hD := hD0.self (sz := s.heap.size)
  generalize hAe : va_A [(h, .inr (14, mL f))] s.heap.size = A at hD ⊢
  have hA : ∀ q : Nat, s.heap.size ≤ q → A q := fun q h => by rw [← hAe]; exact Or.inr h
  have hS : va_S A s.heap s.heap [] := va_S.rf
  have hP : va_P (dC, dI) vwCl [(h, .inr (14, mL f))] s.heap := hP
  have hl := lv_entry ([.ref h]) (n := 1) (Nat.le_of_ble_eq_true rfl)
  rw [lg_entry_eq]
  generalize (lg_sl ([.ref h]) ++ List.replicate (1 - (lg_sl ([.ref h])).length) Slot.unset).toArray = ls at hl ⊢
  have hl : lv_has ls 1 [(0, .ref h)] := hl
  refine lv_aload_n hx hb dX13_fault_0 rfl (lv_at hl 0 rfl) ?_
  refine lv_iconst (v := 0) hx hb dX13_fault_1 (by decide) ?_
  refine va_put (D := (dC, dI)) (ci := 14) (v := .int 0) (ty := .int) (C := RX13) (T := TX13) (N := 97) hx hb hts iw_m_fault_X13 tyX13 tyX13_ok nmX13 hown hK hP hD hS 0 rfl rfl 0 (by decide) (hts (.fieldLink RX13 228 "UnlikeBoatsModel" "thrown" "I") (List.mem_of_getElem? (i := 1) rfl)) (fun _ h9 => h9) rfl (by decide +kernel) rfl rfl (mL_lt (Nat.le_of_ble_eq_true rfl)) dX13_fault_2 (fun H locs hP hD hS => ?_)
  have hP : va_P (dC, dI) vwCl [(h, .inr (14, (mL f).set 0 (.int 0)))] H := hP
  have hD : va_D A [(h, .inr (14, (mL f).set 0 (.int 0)))] := hD
  rw [mL_same hf_thrown] at hP hD
  refine lv_aload_n hx hb dX13_fault_5 rfl (lv_at hl 0 rfl) ?_
  refine lv_aload_n hx hb dX13_fault_6 rfl (lv_at hl 0 rfl) ?_
  refine va_get (D := (dC, dI)) (ci := 14) (v := .ref tb) (C := RX13) (T := TX13) (N := 97) hx hb hts iw_m_fault_X13 hown hK hP 0 rfl rfl 10 (by decide) (hts (.fieldLink RX13 28 "UnlikeBoatsModel" "tape" "[B") (List.mem_of_getElem? (i := 2) rfl)) (fun _ h9 => h9) (mL_some (Nat.le_of_ble_eq_true rfl) hf_tape) dX13_fault_7 ?_
  refine lv_iconst (v := 0) hx hb dX13_fault_10 (by decide) ?_
  refine lv_aload_n hx hb dX13_fault_11 rfl (lv_at hl 0 rfl) ?_
  refine va_get (D := (dC, dI)) (ci := 14) (v := .int 0) (C := RX13) (T := TX13) (N := 97) hx hb hts iw_m_fault_X13 hown hK hP 0 rfl rfl 16 (by decide) (hts (.fieldLink RX13 259 "UnlikeBoatsModel" "length" "I") (List.mem_of_getElem? (i := 3) rfl)) (fun _ h9 => h9) (mL_some (Nat.le_of_ble_eq_true rfl) hf_length) dX13_fault_12 ?_
  refine lv_iconst (v := 0) hx hb dX13_fault_15 (by decide) ?_
  have hPc := hP.sub (ws' := [(h, .inr (14, mL f))]) [0] rfl
  have hKc := hK.sub (tys' := []) [] rfl
  have hDc := hD.sub (ws' := [(h, .inr (14, mL f))]) [0] (by decide) rfl
  have hFc := va_free (wc := [(h, .inr (14, mL f))]) hD hS hA [0] rfl
  refine va_callv (va_runV (As := [.ref tb, .int 0, .int 0, .int 0]) (rest := []) ⟨hx, hb, hml, hown, hts⟩ (m_goThrough l dC dI h f tb H.size) (cwV 4 hts g_m_fault_m_goThrough_366 rfl rfl rfl (by decide +kernel) ⟨Nat.le_of_ble_eq_true rfl, Nat.le_of_ble_eq_true rfl⟩) ⟨fun a U g mk q => by obtain ⟨e0, e1, qP, qK, qD⟩ := q; exact ⟨e0, e1, qP, va_K.moved (u := U) (U := U.calling g mk a) (Vm.Alike.refl U.vm) qK, qD⟩, va_recv hK hP (ci := 14) (q0 := 0) rfl rfl, fun U hU hW => ⟨rfl, by rw [hU], by rw [hU]; exact hPc, va_K.moved hW.alike hKc, hDc.weaken (fun _ _ _ _ => trivial)⟩⟩ rfl rfl hl.1 rfl (lv_room (Nat.le_of_ble_eq_true rfl)) dX13_fault_16 ⟨Nat.le_of_ble_eq_true rfl, Nat.le_of_ble_eq_true rfl⟩) hS (fun q _ h => hFc q h) hFc (fun u2 t H1 locs ht hvm hw hB hz1 hk1 hS => ?_)
  obtain ⟨hP1, hK1, hD1⟩ := hB
  rw [ht] at hP1
  obtain ⟨hP, hD⟩ := va_join (wr := []) (w1 := [(h, .inr (14, mL u2))]) hP hD [0] [] rfl rfl (by decide) (by decide) hk1 hFc hP1 hD1
  generalize H1 = H at hP hS ⊢
  have hP : va_P (dC, dI) vwCl [(h, .inr (14, mL u2))] H := hP
  have hD : va_D A [(h, .inr (14, mL u2))] := hD
  refine W.widen (k := 0) (n := 0) (by omega) (by omega) ?_
  have hw2_u2 := hw
  refine lv_aload_n hx hb dX13_fault_19 rfl (lv_at hl 0 rfl) ?_
  refine va_get (D := (dC, dI)) (ci := 14) (v := .int 0) (C := RX13) (T := TX13) (N := 97) hx hb hts iw_m_fault_X13 hown hK hP 0 rfl rfl 22 (by decide) (hts (.fieldLink RX13 279 "UnlikeBoatsModel" "fault" "I") (List.mem_of_getElem? (i := 8) rfl)) (fun _ h9 => h9) (mL_some (Nat.le_of_ble_eq_true rfl) hw2_u2) dX13_fault_20 ?_
  exact W.iret (v := (0)) hx hb hr (fun t ht hW => ⟨⟨(0), (), rfl, rfl, trivial⟩, hS.F ht⟩) hS.2.2 dX13_fault_23
def A_m_rules : List Cond := [.fieldLink RX13 228 "UnlikeBoatsModel" "thrown" "I", .fieldLink RX13 28 "UnlikeBoatsModel" "tape" "[B", .fieldLink RX13 259 "UnlikeBoatsModel" "length" "I", .methodLink RX13 366 yX13_goThrough, .instanceMethod yX13_goThrough, .selects RX13 yX13_goThrough yX13_goThrough, .initialized RX13, .fieldLink RX13 279 "UnlikeBoatsModel" "fault" "I", .code yX13_goThrough cX13_goThrough 5 none, .fieldLink RX13 47 "UnlikeBoatsModel" "text" "[B", .fieldLink RX13 276 "UnlikeBoatsModel" "textFrom" "I", .fieldLink RX13 273 "UnlikeBoatsModel" "textLong" "I", .fieldLink RX13 357 "UnlikeBoatsModel" "label" "I", .fieldLink RX13 270 "UnlikeBoatsModel" "at" "I", .fieldLink RX13 282 "UnlikeBoatsModel" "deep" "I", .fieldLink RX13 353 "UnlikeBoatsModel" "hasFound" "Z", .fieldLink RX13 360 "UnlikeBoatsModel" "found" "I", .methodLink RX13 363 yX13_clause, .instanceMethod yX13_clause, .selects RX13 yX13_clause yX13_clause, .code yX13_clause cX13_clause 5 none, .methodLink RX13 289 yX13_look, .instanceMethod yX13_look, .selects RX13 yX13_look yX13_look, .methodLink RX13 285 yX13_stop, .instanceMethod yX13_stop, .selects RX13 yX13_stop yX13_stop, .code yX13_look cX13_look 1 (some .int), .code yX13_stop cX13_stop 1 (some .boolean)]
def v_m_rules : List Cond := .code yX13_rules cX13_rules 3 (some .int) :: (A_m_rules ++ wsX130)
theorem iw_m_rules_X13 : ∀ w ∈ wsX130, w ∈ v_m_rules := fun _ h => List.mem_cons_of_mem _ (List.mem_append_right _ (h))
theorem gb_m_rules_m_goThrough0 : GoodIn v_m_rules (.code yX13_goThrough cX13_goThrough 5 none :: A_m_goThrough) := (List.forall_mem_cons.mpr ⟨⟨List.mem_of_getElem? (i := 9) rfl, good_of_word rfl⟩, (List.forall_mem_cons.mpr ⟨⟨List.mem_of_getElem? (i := 10) rfl, good_of_word rfl⟩, (List.forall_mem_cons.mpr ⟨⟨List.mem_of_getElem? (i := 11) rfl, good_of_word rfl⟩, (List.forall_mem_cons.mpr ⟨⟨List.mem_of_getElem? (i := 12) rfl, good_of_word rfl⟩, (List.forall_mem_cons.mpr ⟨⟨List.mem_of_getElem? (i := 13) rfl, good_of_word rfl⟩, (List.forall_mem_cons.mpr ⟨⟨List.mem_of_getElem? (i := 14) rfl, good_of_word rfl⟩, (List.forall_mem_cons.mpr ⟨⟨List.mem_of_getElem? (i := 8) rfl, good_of_word rfl⟩, (List.forall_mem_cons.mpr ⟨⟨List.mem_of_getElem? (i := 15) rfl, good_of_word rfl⟩, (List.forall_mem_cons.mpr ⟨⟨List.mem_of_getElem? (i := 16) rfl, good_of_word rfl⟩, (List.forall_mem_cons.mpr ⟨⟨List.mem_of_getElem? (i := 17) rfl, good_of_word rfl⟩, (List.forall_mem_cons.mpr ⟨⟨List.mem_of_getElem? (i := 18) rfl, good_of_word rfl⟩, (List.forall_mem_cons.mpr ⟨⟨List.mem_of_getElem? (i := 19) rfl, good_of_word rfl⟩, (List.forall_mem_cons.mpr ⟨⟨List.mem_of_getElem? (i := 20) rfl, good_of_word rfl⟩, (List.forall_mem_cons.mpr ⟨⟨List.mem_of_getElem? (i := 7) rfl, good_of_word rfl⟩, (List.forall_mem_cons.mpr ⟨⟨List.mem_of_getElem? (i := 21) rfl, good_of_word rfl⟩, (List.forall_mem_cons.mpr ⟨⟨List.mem_of_getElem? (i := 22) rfl, good_of_word rfl⟩, (List.forall_mem_cons.mpr ⟨⟨List.mem_of_getElem? (i := 23) rfl, good_of_word rfl⟩, (List.forall_mem_cons.mpr ⟨⟨List.mem_of_getElem? (i := 24) rfl, good_of_word rfl⟩, (List.forall_mem_cons.mpr ⟨⟨List.mem_of_getElem? (i := 25) rfl, good_of_word rfl⟩, (List.forall_mem_cons.mpr ⟨⟨List.mem_of_getElem? (i := 26) rfl, good_of_word rfl⟩, (List.forall_mem_cons.mpr ⟨⟨List.mem_of_getElem? (i := 27) rfl, good_of_word rfl⟩, (List.forall_mem_cons.mpr ⟨⟨List.mem_of_getElem? (i := 28) rfl, good_of_word rfl⟩, (List.forall_mem_cons.mpr ⟨⟨List.mem_of_getElem? (i := 29) rfl, good_of_word rfl⟩, (fun _ h => nomatch h)⟩)⟩)⟩)⟩)⟩)⟩)⟩)⟩)⟩)⟩)⟩)⟩)⟩)⟩)⟩)⟩)⟩)⟩)⟩)⟩)⟩)⟩)⟩)
theorem gb_m_rules_m_goThrough : GoodIn v_m_rules v_m_goThrough := (goodIn_ca gb_m_rules_m_goThrough0 (goodIn_sub iw_m_rules_X13 gw_X13))
theorem g_m_rules_m_goThrough_366 : GoodIn v_m_rules (wsV RX13 366 RX13 yX13_goThrough v_m_goThrough) := goodIn_app (List.forall_mem_cons.mpr ⟨⟨List.mem_of_getElem? (i := 4) rfl, good_of_word rfl⟩, (List.forall_mem_cons.mpr ⟨⟨List.mem_of_getElem? (i := 5) rfl, good_of_word rfl⟩, (List.forall_mem_cons.mpr ⟨⟨List.mem_of_getElem? (i := 6) rfl, good_of_word rfl⟩, (List.forall_mem_cons.mpr ⟨⟨List.mem_of_getElem? (i := 7) rfl, good_of_word rfl⟩, (fun _ h => nomatch h)⟩)⟩)⟩)⟩) gb_m_rules_m_goThrough
set_option maxHeartbeats 4000000 in
set_option maxRecDepth 100000 in
theorem m_rules (l : Launch) (dC : Nat → ClassId) (dI : Nat → Nat → Nat) (h : Nat) (f : Nat → Value) (tb : Nat) (a0 : Int32) (sz : Nat) (hf_thrown : f 0 = .int 0) (hf_tape : f 10 = .ref tb) (hf_length : f 16 = .int 0) : Met l yX13_rules v_m_rules ({ frames := 3, cells := 0, slots := 0, locals := 120 }) (va_Pc [.ref h, .int a0] (fun U => U.heap.size = sz ∧ va_P (dC, dI) vwCl [(h, .inr (14, mL f))] U.heap ∧ va_K (dC, dI) vwCl [] U ∧ va_D (fun _ => True) [(h, .inr (14, mL f))])) (va_Qi (S := Unit) (fun r _ => r = -1) (fun _ _ => True) (va_A [(h, .inr (14, mL f))] sz)) 0 0 (va_A [(h, .inr (14, mL f))] sz) := by
  refine Met.ofW (cc := cX13_rules) (maxL := 3) (ret := (some .int)) (by decide) rfl ?_
  intro p e s m args below meth c s₁ B hml hv
  obtain ⟨rfl, hsz, hP, hK, hD0⟩ := hv
  have hx := B.exec
  have hb := B.bytes
  have hr := B.returns
  have hts := atoms_spec (ws := v_m_rules) B.pre
  have hown : s.vm.findClass RX13 = some m.cls := findClass_of_methodNamed B.named
  have hlocks := B.notSynchronized
  subst hsz
  have hD := hD0.self (sz := s.heap.size)
  generalize hAe : va_A [(h, .inr (14, mL f))] s.heap.size = A at hD ⊢
  have hA : ∀ q : Nat, s.heap.size ≤ q → A q := fun q h => by rw [← hAe]; exact Or.inr h
  have hS : va_S A s.heap s.heap [] := va_S.rf
  have hP : va_P (dC, dI) vwCl [(h, .inr (14, mL f))] s.heap := hP
  have hl := lv_entry ([.ref h, .int a0]) (n := 3) (Nat.le_of_ble_eq_true rfl)
  rw [lg_entry_eq]
  generalize (lg_sl ([.ref h, .int a0]) ++ List.replicate (3 - (lg_sl ([.ref h, .int a0])).length) Slot.unset).toArray = ls at hl ⊢
  have hl : lv_has ls 3 [(0, .ref h), (1, .int a0)] := hl
  refine lv_aload_n hx hb dX13_rules_0 rfl (lv_at hl 0 rfl) ?_
  refine lv_iconst (v := 0) hx hb dX13_rules_1 (by decide) ?_
  refine va_put (D := (dC, dI)) (ci := 14) (v := .int 0) (ty := .int) (C := RX13) (T := TX13) (N := 97) hx hb hts iw_m_rules_X13 tyX13 tyX13_ok nmX13 hown hK hP hD hS 0 rfl rfl 0 (by decide) (hts (.fieldLink RX13 228 "UnlikeBoatsModel" "thrown" "I") (List.mem_of_getElem? (i := 1) rfl)) (fun _ h9 => h9) rfl (by decide +kernel) rfl rfl (mL_lt (Nat.le_of_ble_eq_true rfl)) dX13_rules_2 (fun H locs hP hD hS => ?_)
  have hP : va_P (dC, dI) vwCl [(h, .inr (14, (mL f).set 0 (.int 0)))] H := hP
  have hD : va_D A [(h, .inr (14, (mL f).set 0 (.int 0)))] := hD
  rw [mL_same hf_thrown] at hP hD
  refine lv_aload_n hx hb dX13_rules_5 rfl (lv_at hl 0 rfl) ?_
  refine lv_aload_n hx hb dX13_rules_6 rfl (lv_at hl 0 rfl) ?_
  refine va_get (D := (dC, dI)) (ci := 14) (v := .ref tb) (C := RX13) (T := TX13) (N := 97) hx hb hts iw_m_rules_X13 hown hK hP 0 rfl rfl 10 (by decide) (hts (.fieldLink RX13 28 "UnlikeBoatsModel" "tape" "[B") (List.mem_of_getElem? (i := 2) rfl)) (fun _ h9 => h9) (mL_some (Nat.le_of_ble_eq_true rfl) hf_tape) dX13_rules_7 ?_
  refine lv_iconst (v := 0) hx hb dX13_rules_10 (by decide) ?_
  refine lv_aload_n hx hb dX13_rules_11 rfl (lv_at hl 0 rfl) ?_
  refine va_get (D := (dC, dI)) (ci := 14) (v := .int 0) (C := RX13) (T := TX13) (N := 97) hx hb hts iw_m_rules_X13 hown hK hP 0 rfl rfl 16 (by decide) (hts (.fieldLink RX13 259 "UnlikeBoatsModel" "length" "I") (List.mem_of_getElem? (i := 3) rfl)) (fun _ h9 => h9) (mL_some (Nat.le_of_ble_eq_true rfl) hf_length) dX13_rules_12 ?_
  refine lv_iconst (v := 0) hx hb dX13_rules_15 (by decide) ?_
  have hPc := hP.sub (ws' := [(h, .inr (14, mL f))]) [0] rfl
  have hKc := hK.sub (tys' := []) [] rfl
  have hDc := hD.sub (ws' := [(h, .inr (14, mL f))]) [0] (by decide) rfl
  have hFc := va_free (wc := [(h, .inr (14, mL f))]) hD hS hA [0] rfl
  refine va_callv (va_runV (As := [.ref tb, .int 0, .int 0, .int 0]) (rest := []) ⟨hx, hb, hml, hown, hts⟩ (m_goThrough l dC dI h f tb H.size) (cwV 4 hts g_m_rules_m_goThrough_366 rfl rfl rfl (by decide +kernel) ⟨Nat.le_of_ble_eq_true rfl, Nat.le_of_ble_eq_true rfl⟩) ⟨fun a U g mk q => by obtain ⟨e0, e1, qP, qK, qD⟩ := q; exact ⟨e0, e1, qP, va_K.moved (u := U) (U := U.calling g mk a) (Vm.Alike.refl U.vm) qK, qD⟩, va_recv hK hP (ci := 14) (q0 := 0) rfl rfl, fun U hU hW => ⟨rfl, by rw [hU], by rw [hU]; exact hPc, va_K.moved hW.alike hKc, hDc.weaken (fun _ _ _ _ => trivial)⟩⟩ rfl rfl hl.1 rfl (lv_room (Nat.le_of_ble_eq_true rfl)) dX13_rules_16 ⟨Nat.le_of_ble_eq_true rfl, Nat.le_of_ble_eq_true rfl⟩) hS (fun q _ h => hFc q h) hFc (fun u2 t H1 locs ht hvm hw hB hz1 hk1 hS => ?_)
  obtain ⟨hP1, hK1, hD1⟩ := hB
  rw [ht] at hP1
  obtain ⟨hP, hD⟩ := va_join (wr := []) (w1 := [(h, .inr (14, mL u2))]) hP hD [0] [] rfl rfl (by decide) (by decide) hk1 hFc hP1 hD1
  generalize H1 = H at hP hS ⊢
  have hP : va_P (dC, dI) vwCl [(h, .inr (14, mL u2))] H := hP
  have hD : va_D A [(h, .inr (14, mL u2))] := hD
  refine W.widen (k := 0) (n := 0) (by omega) (by omega) ?_
  have hw2_u2 := hw
  refine lv_aload_n hx hb dX13_rules_19 rfl (lv_at hl 0 rfl) ?_
  refine va_get (D := (dC, dI)) (ci := 14) (v := .int 0) (C := RX13) (T := TX13) (N := 97) hx hb hts iw_m_rules_X13 hown hK hP 0 rfl rfl 22 (by decide) (hts (.fieldLink RX13 279 "UnlikeBoatsModel" "fault" "I") (List.mem_of_getElem? (i := 8) rfl)) (fun _ h9 => h9) (mL_some (Nat.le_of_ble_eq_true rfl) hw2_u2) dX13_rules_20 ?_
  refine lv_iconst (v := -1) hx hb dX13_rules_23 (by decide) ?_
  refine lv_icmp_ne (tgt := 43) hx hb dX13_rules_24 (by decide) (fun c3 => ?_) (fun c3 => by first | exact absurd c3 (by decide) | exact absurd (by decide) c3)
  refine lv_iconst (v := -1) hx hb dX13_rules_43 (by decide) ?_
  exact W.iret (v := (-1)) hx hb hr (fun t ht hW => ⟨⟨(-1), (), rfl, rfl, trivial⟩, hS.F ht⟩) hS.2.2 dX13_rules_44
