abbrev cX0_init : ByteArray := prog_2_method_1_code
def tyX2 : Nat → FieldType := fun k => match k with
  | 0 => .object "UnlikeBoats$Book"
  | 1 => .array .int
  | 2 => .array .int
  | 3 => .array .int
  | 4 => .array .int
  | 5 => .array .int
  | 6 => .object "UnlikeBoats$Race"
  | 7 => .int
  | 8 => .char
  | _ => .int
theorem nmX2 : ∀ a, a < 10 → ∀ b, b < 10 → a ≠ b → (TX2 a).2.1 ≠ (TX2 b).2.1 := by decide +kernel
theorem tyX2_ok : ∀ k, k < 10 → parseFieldDescriptor (TX2 k).2.2.1 = some (tyX2 k) := by decide +kernel
abbrev cX2_init : ByteArray := prog_4_method_1_code
def yX2_init : MethodName := ⟨RX2, "<init>", "(LUnlikeBoats$Book;)V"⟩
def tyX3 : Nat → FieldType := fun k => match k with
  | 0 => .object "UnlikeBoats$Book"
  | 1 => .object "UnlikeBoats$Sheet"
  | 2 => .array .boolean
  | 3 => .array .int
  | 4 => .array .int
  | 5 => .array .int
  | 6 => .array .int
  | 7 => .array .int
  | 8 => .array .int
  | 9 => .array .int
  | 10 => .array .int
  | 11 => .array .int
  | 12 => .array .int
  | 13 => .array .int
  | 14 => .array .int
  | 15 => .int
  | 16 => .int
  | _ => .array .int
theorem nmX3 : ∀ a, a < 18 → ∀ b, b < 18 → a ≠ b → (TX3 a).2.1 ≠ (TX3 b).2.1 := by decide +kernel
theorem tyX3_ok : ∀ k, k < 18 → parseFieldDescriptor (TX3 k).2.2.1 = some (tyX3 k) := by decide +kernel
abbrev cX3_init : ByteArray := prog_5_method_1_code
def yX3_init : MethodName := ⟨RX3, "<init>", "(LUnlikeBoats$Book;LUnlikeBoats$Sheet;)V"⟩
abbrev cX8_init : ByteArray := prog_10_method_1_code
def yX8_init : MethodName := ⟨RX8, "<init>", "(LUnlikeBoats$Book;LUnlikeBoats$Sheet;)V"⟩
def tyX9 : Nat → FieldType := fun k => match k with
  | 0 => .object "UnlikeBoats$Book"
  | 1 => .array .int
  | 2 => .array .int
  | 3 => .array .int
  | 4 => .array .int
  | 5 => .array .int
  | 6 => .int
  | 7 => .int
  | _ => .int
theorem nmX9 : ∀ a, a < 9 → ∀ b, b < 9 → a ≠ b → (TX9 a).2.1 ≠ (TX9 b).2.1 := by decide +kernel
theorem tyX9_ok : ∀ k, k < 9 → parseFieldDescriptor (TX9 k).2.2.1 = some (tyX9 k) := by decide +kernel
abbrev cX9_init : ByteArray := prog_11_method_1_code
def yX9_init : MethodName := ⟨RX9, "<init>", "(LUnlikeBoats$Book;)V"⟩
abbrev cX10_init : ByteArray := prog_12_method_1_code
def tyX12 : Nat → FieldType := fun k => match k with
  | 0 => .object "UnlikeBoats$Book"
  | 1 => .object "UnlikeBoats$Tape"
  | 2 => .object "UnlikeBoats$Sheet"
  | 3 => .object "UnlikeBoats$Scores"
  | 4 => .object "UnlikeBoats$Hearing"
  | _ => .object "UnlikeBoats$Office"
theorem nmX12 : ∀ a, a < 6 → ∀ b, b < 6 → a ≠ b → (TX12 a).2.1 ≠ (TX12 b).2.1 := by decide +kernel
theorem tyX12_ok : ∀ k, k < 6 → parseFieldDescriptor (TX12 k).2.2.1 = some (tyX12 k) := by decide +kernel
abbrev cX12_init : ByteArray := prog_1_method_1_code
def yX12_init : MethodName := ⟨RX12, "<init>", "()V"⟩
def RJ0 : String := "java/lang/String"
abbrev cJ0_length_8abf5 : ByteArray := prog_26_method_54_code
def yJ0_length_8abf5 : MethodName := ⟨RJ0, "length", "()I"⟩
abbrev cJ0_coder_7d493 : ByteArray := prog_26_method_152_code
def yJ0_coder_7d493 : MethodName := ⟨RJ0, "coder", "()B"⟩
theorem dX0_init_0 : decode cX0_init 0 = .ok (.aload_n 0, 1) := by decide +kernel
theorem dX0_init_1 : decode cX0_init 1 = .ok (.invokespecial 3, 3) := by decide +kernel
theorem dX0_init_4 : decode cX0_init 4 = .ok (.aload_n 0, 1) := by decide +kernel
theorem dX0_init_5 : decode cX0_init 5 = .ok (.new 9, 3) := by decide +kernel
theorem dX0_init_8 : decode cX0_init 8 = .ok (.dup, 1) := by decide +kernel
theorem dX0_init_9 : decode cX0_init 9 = .ok (.invokespecial 11, 3) := by decide +kernel
theorem dX0_init_12 : decode cX0_init 12 = .ok (.putfield 12, 3) := by decide +kernel
theorem dX0_init_15 : decode cX0_init 15 = .ok (.aload_n 0, 1) := by decide +kernel
theorem dX0_init_16 : decode cX0_init 16 = .ok (.new 9, 3) := by decide +kernel
theorem dX0_init_19 : decode cX0_init 19 = .ok (.dup, 1) := by decide +kernel
theorem dX0_init_20 : decode cX0_init 20 = .ok (.invokespecial 11, 3) := by decide +kernel
theorem dX0_init_23 : decode cX0_init 23 = .ok (.putfield 18, 3) := by decide +kernel
theorem dX0_init_26 : decode cX0_init 26 = .ok (.aload_n 0, 1) := by decide +kernel
theorem dX0_init_27 : decode cX0_init 27 = .ok (.new 9, 3) := by decide +kernel
theorem dX0_init_30 : decode cX0_init 30 = .ok (.dup, 1) := by decide +kernel
theorem dX0_init_31 : decode cX0_init 31 = .ok (.invokespecial 11, 3) := by decide +kernel
theorem dX0_init_34 : decode cX0_init 34 = .ok (.putfield 21, 3) := by decide +kernel
theorem dX0_init_37 : decode cX0_init 37 = .ok (.aload_n 0, 1) := by decide +kernel
theorem dX0_init_38 : decode cX0_init 38 = .ok (.new 9, 3) := by decide +kernel
theorem dX0_init_41 : decode cX0_init 41 = .ok (.dup, 1) := by decide +kernel
theorem dX0_init_42 : decode cX0_init 42 = .ok (.invokespecial 11, 3) := by decide +kernel
theorem dX0_init_45 : decode cX0_init 45 = .ok (.putfield 24, 3) := by decide +kernel
theorem dX0_init_48 : decode cX0_init 48 = .ok (.aload_n 0, 1) := by decide +kernel
theorem dX0_init_49 : decode cX0_init 49 = .ok (.new 9, 3) := by decide +kernel
theorem dX0_init_52 : decode cX0_init 52 = .ok (.dup, 1) := by decide +kernel
theorem dX0_init_53 : decode cX0_init 53 = .ok (.invokespecial 11, 3) := by decide +kernel
theorem dX0_init_56 : decode cX0_init 56 = .ok (.putfield 27, 3) := by decide +kernel
theorem dX0_init_59 : decode cX0_init 59 = .ok (.aload_n 0, 1) := by decide +kernel
theorem dX0_init_60 : decode cX0_init 60 = .ok (.new 9, 3) := by decide +kernel
theorem dX0_init_63 : decode cX0_init 63 = .ok (.dup, 1) := by decide +kernel
theorem dX0_init_64 : decode cX0_init 64 = .ok (.invokespecial 11, 3) := by decide +kernel
theorem dX0_init_67 : decode cX0_init 67 = .ok (.putfield 30, 3) := by decide +kernel
theorem dX0_init_70 : decode cX0_init 70 = .ok (.aload_n 0, 1) := by decide +kernel
theorem dX0_init_71 : decode cX0_init 71 = .ok (.ldc 33, 2) := by decide +kernel
theorem dX0_init_73 : decode cX0_init 73 = .ok (.invokevirtual 35, 3) := by decide +kernel
theorem dX0_init_76 : decode cX0_init 76 = .ok (.newarray .int, 2) := by decide +kernel
theorem dX0_init_78 : decode cX0_init 78 = .ok (.putfield 41, 3) := by decide +kernel
theorem dX0_init_81 : decode cX0_init 81 = .ok (.aload_n 0, 1) := by decide +kernel
theorem dX0_init_82 : decode cX0_init 82 = .ok (.sipush 200, 3) := by decide +kernel
theorem dX0_init_85 : decode cX0_init 85 = .ok (.newarray .int, 2) := by decide +kernel
theorem dX0_init_87 : decode cX0_init 87 = .ok (.putfield 45, 3) := by decide +kernel
theorem dX0_init_90 : decode cX0_init 90 = .ok (.return_, 1) := by decide +kernel
theorem dX2_init_0 : decode cX2_init 0 = .ok (.aload_n 0, 1) := by decide +kernel
theorem dX2_init_1 : decode cX2_init 1 = .ok (.invokespecial 3, 3) := by decide +kernel
theorem dX2_init_4 : decode cX2_init 4 = .ok (.aload_n 0, 1) := by decide +kernel
theorem dX2_init_5 : decode cX2_init 5 = .ok (.iconst 2, 1) := by decide +kernel
theorem dX2_init_6 : decode cX2_init 6 = .ok (.newarray .int, 2) := by decide +kernel
theorem dX2_init_8 : decode cX2_init 8 = .ok (.putfield 9, 3) := by decide +kernel
theorem dX2_init_11 : decode cX2_init 11 = .ok (.aload_n 0, 1) := by decide +kernel
theorem dX2_init_12 : decode cX2_init 12 = .ok (.iconst 2, 1) := by decide +kernel
theorem dX2_init_13 : decode cX2_init 13 = .ok (.newarray .int, 2) := by decide +kernel
theorem dX2_init_15 : decode cX2_init 15 = .ok (.putfield 15, 3) := by decide +kernel
theorem dX2_init_18 : decode cX2_init 18 = .ok (.aload_n 0, 1) := by decide +kernel
theorem dX2_init_19 : decode cX2_init 19 = .ok (.iconst 2, 1) := by decide +kernel
theorem dX2_init_20 : decode cX2_init 20 = .ok (.newarray .int, 2) := by decide +kernel
theorem dX2_init_22 : decode cX2_init 22 = .ok (.putfield 18, 3) := by decide +kernel
theorem dX2_init_25 : decode cX2_init 25 = .ok (.aload_n 0, 1) := by decide +kernel
theorem dX2_init_26 : decode cX2_init 26 = .ok (.iconst 2, 1) := by decide +kernel
theorem dX2_init_27 : decode cX2_init 27 = .ok (.newarray .int, 2) := by decide +kernel
theorem dX2_init_29 : decode cX2_init 29 = .ok (.putfield 21, 3) := by decide +kernel
theorem dX2_init_32 : decode cX2_init 32 = .ok (.aload_n 0, 1) := by decide +kernel
theorem dX2_init_33 : decode cX2_init 33 = .ok (.iconst 2, 1) := by decide +kernel
theorem dX2_init_34 : decode cX2_init 34 = .ok (.newarray .int, 2) := by decide +kernel
theorem dX2_init_36 : decode cX2_init 36 = .ok (.putfield 24, 3) := by decide +kernel
theorem dX2_init_39 : decode cX2_init 39 = .ok (.aload_n 0, 1) := by decide +kernel
theorem dX2_init_40 : decode cX2_init 40 = .ok (.aload_n 1, 1) := by decide +kernel
theorem dX2_init_41 : decode cX2_init 41 = .ok (.putfield 27, 3) := by decide +kernel
theorem dX2_init_44 : decode cX2_init 44 = .ok (.return_, 1) := by decide +kernel
theorem dX3_init_0 : decode cX3_init 0 = .ok (.aload_n 0, 1) := by decide +kernel
theorem dX3_init_1 : decode cX3_init 1 = .ok (.invokespecial 5, 3) := by decide +kernel
theorem dX3_init_4 : decode cX3_init 4 = .ok (.aload_n 0, 1) := by decide +kernel
theorem dX3_init_5 : decode cX3_init 5 = .ok (.sipush 320, 3) := by decide +kernel
theorem dX3_init_8 : decode cX3_init 8 = .ok (.newarray .boolean, 2) := by decide +kernel
theorem dX3_init_10 : decode cX3_init 10 = .ok (.putfield 11, 3) := by decide +kernel
theorem dX3_init_13 : decode cX3_init 13 = .ok (.aload_n 0, 1) := by decide +kernel
theorem dX3_init_14 : decode cX3_init 14 = .ok (.sipush 320, 3) := by decide +kernel
theorem dX3_init_17 : decode cX3_init 17 = .ok (.newarray .int, 2) := by decide +kernel
theorem dX3_init_19 : decode cX3_init 19 = .ok (.putfield 15, 3) := by decide +kernel
theorem dX3_init_22 : decode cX3_init 22 = .ok (.aload_n 0, 1) := by decide +kernel
theorem dX3_init_23 : decode cX3_init 23 = .ok (.sipush 320, 3) := by decide +kernel
theorem dX3_init_26 : decode cX3_init 26 = .ok (.newarray .int, 2) := by decide +kernel
theorem dX3_init_28 : decode cX3_init 28 = .ok (.putfield 19, 3) := by decide +kernel
theorem dX3_init_31 : decode cX3_init 31 = .ok (.aload_n 0, 1) := by decide +kernel
theorem dX3_init_32 : decode cX3_init 32 = .ok (.sipush 320, 3) := by decide +kernel
theorem dX3_init_35 : decode cX3_init 35 = .ok (.newarray .int, 2) := by decide +kernel
theorem dX3_init_37 : decode cX3_init 37 = .ok (.putfield 22, 3) := by decide +kernel
theorem dX3_init_40 : decode cX3_init 40 = .ok (.aload_n 0, 1) := by decide +kernel
theorem dX3_init_41 : decode cX3_init 41 = .ok (.bipush 20, 2) := by decide +kernel
theorem dX3_init_43 : decode cX3_init 43 = .ok (.newarray .int, 2) := by decide +kernel
theorem dX3_init_45 : decode cX3_init 45 = .ok (.putfield 25, 3) := by decide +kernel
theorem dX3_init_48 : decode cX3_init 48 = .ok (.aload_n 0, 1) := by decide +kernel
theorem dX3_init_49 : decode cX3_init 49 = .ok (.bipush 20, 2) := by decide +kernel
theorem dX3_init_51 : decode cX3_init 51 = .ok (.newarray .int, 2) := by decide +kernel
theorem dX3_init_53 : decode cX3_init 53 = .ok (.putfield 28, 3) := by decide +kernel
theorem dX3_init_56 : decode cX3_init 56 = .ok (.aload_n 0, 1) := by decide +kernel
theorem dX3_init_57 : decode cX3_init 57 = .ok (.bipush 20, 2) := by decide +kernel
theorem dX3_init_59 : decode cX3_init 59 = .ok (.newarray .int, 2) := by decide +kernel
theorem dX3_init_61 : decode cX3_init 61 = .ok (.putfield 31, 3) := by decide +kernel
theorem dX3_init_64 : decode cX3_init 64 = .ok (.aload_n 0, 1) := by decide +kernel
theorem dX3_init_65 : decode cX3_init 65 = .ok (.bipush 20, 2) := by decide +kernel
theorem dX3_init_67 : decode cX3_init 67 = .ok (.newarray .int, 2) := by decide +kernel
theorem dX3_init_69 : decode cX3_init 69 = .ok (.putfield 34, 3) := by decide +kernel
theorem dX3_init_72 : decode cX3_init 72 = .ok (.aload_n 0, 1) := by decide +kernel
theorem dX3_init_73 : decode cX3_init 73 = .ok (.bipush 16, 2) := by decide +kernel
theorem dX3_init_75 : decode cX3_init 75 = .ok (.newarray .int, 2) := by decide +kernel
theorem dX3_init_77 : decode cX3_init 77 = .ok (.putfield 37, 3) := by decide +kernel
theorem dX3_init_80 : decode cX3_init 80 = .ok (.aload_n 0, 1) := by decide +kernel
theorem dX3_init_81 : decode cX3_init 81 = .ok (.sipush 560, 3) := by decide +kernel
theorem dX3_init_84 : decode cX3_init 84 = .ok (.newarray .int, 2) := by decide +kernel
theorem dX3_init_86 : decode cX3_init 86 = .ok (.putfield 40, 3) := by decide +kernel
theorem dX3_init_89 : decode cX3_init 89 = .ok (.aload_n 0, 1) := by decide +kernel
theorem dX3_init_90 : decode cX3_init 90 = .ok (.iconst 4, 1) := by decide +kernel
theorem dX3_init_91 : decode cX3_init 91 = .ok (.newarray .int, 2) := by decide +kernel
theorem dX3_init_93 : decode cX3_init 93 = .ok (.putfield 43, 3) := by decide +kernel
theorem dX3_init_96 : decode cX3_init 96 = .ok (.aload_n 0, 1) := by decide +kernel
theorem dX3_init_97 : decode cX3_init 97 = .ok (.iconst 4, 1) := by decide +kernel
theorem dX3_init_98 : decode cX3_init 98 = .ok (.newarray .int, 2) := by decide +kernel
theorem dX3_init_100 : decode cX3_init 100 = .ok (.putfield 46, 3) := by decide +kernel
theorem dX3_init_103 : decode cX3_init 103 = .ok (.aload_n 0, 1) := by decide +kernel
theorem dX3_init_104 : decode cX3_init 104 = .ok (.iconst 4, 1) := by decide +kernel
theorem dX3_init_105 : decode cX3_init 105 = .ok (.newarray .int, 2) := by decide +kernel
theorem dX3_init_107 : decode cX3_init 107 = .ok (.putfield 49, 3) := by decide +kernel
theorem dX3_init_110 : decode cX3_init 110 = .ok (.aload_n 0, 1) := by decide +kernel
theorem dX3_init_111 : decode cX3_init 111 = .ok (.bipush 16, 2) := by decide +kernel
theorem dX3_init_113 : decode cX3_init 113 = .ok (.newarray .int, 2) := by decide +kernel
theorem dX3_init_115 : decode cX3_init 115 = .ok (.putfield 52, 3) := by decide +kernel
theorem dX3_init_118 : decode cX3_init 118 = .ok (.aload_n 0, 1) := by decide +kernel
theorem dX3_init_119 : decode cX3_init 119 = .ok (.aload_n 1, 1) := by decide +kernel
theorem dX3_init_120 : decode cX3_init 120 = .ok (.putfield 55, 3) := by decide +kernel
theorem dX3_init_123 : decode cX3_init 123 = .ok (.aload_n 0, 1) := by decide +kernel
theorem dX3_init_124 : decode cX3_init 124 = .ok (.aload_n 2, 1) := by decide +kernel
theorem dX3_init_125 : decode cX3_init 125 = .ok (.putfield 59, 3) := by decide +kernel
theorem dX3_init_128 : decode cX3_init 128 = .ok (.return_, 1) := by decide +kernel
theorem dX8_init_0 : decode cX8_init 0 = .ok (.aload_n 0, 1) := by decide +kernel
theorem dX8_init_1 : decode cX8_init 1 = .ok (.invokespecial 3, 3) := by decide +kernel
theorem dX8_init_4 : decode cX8_init 4 = .ok (.aload_n 0, 1) := by decide +kernel
theorem dX8_init_5 : decode cX8_init 5 = .ok (.sipush 320, 3) := by decide +kernel
theorem dX8_init_8 : decode cX8_init 8 = .ok (.newarray .int, 2) := by decide +kernel
theorem dX8_init_10 : decode cX8_init 10 = .ok (.putfield 9, 3) := by decide +kernel
theorem dX8_init_13 : decode cX8_init 13 = .ok (.aload_n 0, 1) := by decide +kernel
theorem dX8_init_14 : decode cX8_init 14 = .ok (.sipush 320, 3) := by decide +kernel
theorem dX8_init_17 : decode cX8_init 17 = .ok (.newarray .int, 2) := by decide +kernel
theorem dX8_init_19 : decode cX8_init 19 = .ok (.putfield 15, 3) := by decide +kernel
theorem dX8_init_22 : decode cX8_init 22 = .ok (.aload_n 0, 1) := by decide +kernel
theorem dX8_init_23 : decode cX8_init 23 = .ok (.sipush 320, 3) := by decide +kernel
theorem dX8_init_26 : decode cX8_init 26 = .ok (.newarray .boolean, 2) := by decide +kernel
theorem dX8_init_28 : decode cX8_init 28 = .ok (.putfield 18, 3) := by decide +kernel
theorem dX8_init_31 : decode cX8_init 31 = .ok (.aload_n 0, 1) := by decide +kernel
theorem dX8_init_32 : decode cX8_init 32 = .ok (.bipush 16, 2) := by decide +kernel
theorem dX8_init_34 : decode cX8_init 34 = .ok (.newarray .boolean, 2) := by decide +kernel
theorem dX8_init_36 : decode cX8_init 36 = .ok (.putfield 22, 3) := by decide +kernel
theorem dX8_init_39 : decode cX8_init 39 = .ok (.aload_n 0, 1) := by decide +kernel
theorem dX8_init_40 : decode cX8_init 40 = .ok (.bipush 16, 2) := by decide +kernel
theorem dX8_init_42 : decode cX8_init 42 = .ok (.newarray .int, 2) := by decide +kernel
theorem dX8_init_44 : decode cX8_init 44 = .ok (.putfield 25, 3) := by decide +kernel
theorem dX8_init_47 : decode cX8_init 47 = .ok (.aload_n 0, 1) := by decide +kernel
theorem dX8_init_48 : decode cX8_init 48 = .ok (.bipush 20, 2) := by decide +kernel
theorem dX8_init_50 : decode cX8_init 50 = .ok (.newarray .int, 2) := by decide +kernel
theorem dX8_init_52 : decode cX8_init 52 = .ok (.putfield 28, 3) := by decide +kernel
theorem dX8_init_55 : decode cX8_init 55 = .ok (.aload_n 0, 1) := by decide +kernel
theorem dX8_init_56 : decode cX8_init 56 = .ok (.bipush 20, 2) := by decide +kernel
theorem dX8_init_58 : decode cX8_init 58 = .ok (.newarray .int, 2) := by decide +kernel
theorem dX8_init_60 : decode cX8_init 60 = .ok (.putfield 31, 3) := by decide +kernel
theorem dX8_init_63 : decode cX8_init 63 = .ok (.aload_n 0, 1) := by decide +kernel
theorem dX8_init_64 : decode cX8_init 64 = .ok (.aload_n 1, 1) := by decide +kernel
theorem dX8_init_65 : decode cX8_init 65 = .ok (.putfield 34, 3) := by decide +kernel
theorem dX8_init_68 : decode cX8_init 68 = .ok (.aload_n 0, 1) := by decide +kernel
theorem dX8_init_69 : decode cX8_init 69 = .ok (.aload_n 2, 1) := by decide +kernel
theorem dX8_init_70 : decode cX8_init 70 = .ok (.putfield 38, 3) := by decide +kernel
theorem dX8_init_73 : decode cX8_init 73 = .ok (.return_, 1) := by decide +kernel
theorem dX9_init_0 : decode cX9_init 0 = .ok (.aload_n 0, 1) := by decide +kernel
theorem dX9_init_1 : decode cX9_init 1 = .ok (.invokespecial 3, 3) := by decide +kernel
theorem dX9_init_4 : decode cX9_init 4 = .ok (.aload_n 0, 1) := by decide +kernel
theorem dX9_init_5 : decode cX9_init 5 = .ok (.bipush 16, 2) := by decide +kernel
theorem dX9_init_7 : decode cX9_init 7 = .ok (.newarray .int, 2) := by decide +kernel
theorem dX9_init_9 : decode cX9_init 9 = .ok (.putfield 9, 3) := by decide +kernel
theorem dX9_init_12 : decode cX9_init 12 = .ok (.aload_n 0, 1) := by decide +kernel
theorem dX9_init_13 : decode cX9_init 13 = .ok (.bipush 16, 2) := by decide +kernel
theorem dX9_init_15 : decode cX9_init 15 = .ok (.newarray .int, 2) := by decide +kernel
theorem dX9_init_17 : decode cX9_init 17 = .ok (.putfield 15, 3) := by decide +kernel
theorem dX9_init_20 : decode cX9_init 20 = .ok (.aload_n 0, 1) := by decide +kernel
theorem dX9_init_21 : decode cX9_init 21 = .ok (.bipush 16, 2) := by decide +kernel
theorem dX9_init_23 : decode cX9_init 23 = .ok (.newarray .int, 2) := by decide +kernel
theorem dX9_init_25 : decode cX9_init 25 = .ok (.putfield 18, 3) := by decide +kernel
theorem dX9_init_28 : decode cX9_init 28 = .ok (.aload_n 0, 1) := by decide +kernel
theorem dX9_init_29 : decode cX9_init 29 = .ok (.bipush 16, 2) := by decide +kernel
theorem dX9_init_31 : decode cX9_init 31 = .ok (.newarray .int, 2) := by decide +kernel
theorem dX9_init_33 : decode cX9_init 33 = .ok (.putfield 21, 3) := by decide +kernel
theorem dX9_init_36 : decode cX9_init 36 = .ok (.aload_n 0, 1) := by decide +kernel
theorem dX9_init_37 : decode cX9_init 37 = .ok (.bipush 16, 2) := by decide +kernel
theorem dX9_init_39 : decode cX9_init 39 = .ok (.newarray .int, 2) := by decide +kernel
theorem dX9_init_41 : decode cX9_init 41 = .ok (.putfield 24, 3) := by decide +kernel
theorem dX9_init_44 : decode cX9_init 44 = .ok (.aload_n 0, 1) := by decide +kernel
theorem dX9_init_45 : decode cX9_init 45 = .ok (.aload_n 1, 1) := by decide +kernel
theorem dX9_init_46 : decode cX9_init 46 = .ok (.putfield 27, 3) := by decide +kernel
theorem dX9_init_49 : decode cX9_init 49 = .ok (.return_, 1) := by decide +kernel
theorem dX10_init_0 : decode cX10_init 0 = .ok (.aload_n 0, 1) := by decide +kernel
theorem dX10_init_1 : decode cX10_init 1 = .ok (.invokespecial 3, 3) := by decide +kernel
theorem dX10_init_4 : decode cX10_init 4 = .ok (.aload_n 0, 1) := by decide +kernel
theorem dX10_init_5 : decode cX10_init 5 = .ok (.sipush 200, 3) := by decide +kernel
theorem dX10_init_8 : decode cX10_init 8 = .ok (.newarray .int, 2) := by decide +kernel
theorem dX10_init_10 : decode cX10_init 10 = .ok (.putfield 9, 3) := by decide +kernel
theorem dX10_init_13 : decode cX10_init 13 = .ok (.aload_n 0, 1) := by decide +kernel
theorem dX10_init_14 : decode cX10_init 14 = .ok (.sipush 200, 3) := by decide +kernel
theorem dX10_init_17 : decode cX10_init 17 = .ok (.newarray .int, 2) := by decide +kernel
theorem dX10_init_19 : decode cX10_init 19 = .ok (.putfield 15, 3) := by decide +kernel
theorem dX10_init_22 : decode cX10_init 22 = .ok (.aload_n 0, 1) := by decide +kernel
theorem dX10_init_23 : decode cX10_init 23 = .ok (.bipush 51, 2) := by decide +kernel
theorem dX10_init_25 : decode cX10_init 25 = .ok (.newarray .int, 2) := by decide +kernel
theorem dX10_init_27 : decode cX10_init 27 = .ok (.putfield 18, 3) := by decide +kernel
theorem dX10_init_30 : decode cX10_init 30 = .ok (.aload_n 0, 1) := by decide +kernel
theorem dX10_init_31 : decode cX10_init 31 = .ok (.bipush 52, 2) := by decide +kernel
theorem dX10_init_33 : decode cX10_init 33 = .ok (.newarray .int, 2) := by decide +kernel
theorem dX10_init_35 : decode cX10_init 35 = .ok (.putfield 21, 3) := by decide +kernel
theorem dX10_init_38 : decode cX10_init 38 = .ok (.aload_n 0, 1) := by decide +kernel
theorem dX10_init_39 : decode cX10_init 39 = .ok (.bipush 51, 2) := by decide +kernel
theorem dX10_init_41 : decode cX10_init 41 = .ok (.newarray .int, 2) := by decide +kernel
theorem dX10_init_43 : decode cX10_init 43 = .ok (.putfield 24, 3) := by decide +kernel
theorem dX10_init_46 : decode cX10_init 46 = .ok (.return_, 1) := by decide +kernel
theorem dX12_init_0 : decode cX12_init 0 = .ok (.aload_n 0, 1) := by decide +kernel
theorem dX12_init_1 : decode cX12_init 1 = .ok (.invokespecial 1, 3) := by decide +kernel
theorem dX12_init_4 : decode cX12_init 4 = .ok (.aload_n 0, 1) := by decide +kernel
theorem dX12_init_5 : decode cX12_init 5 = .ok (.new 7, 3) := by decide +kernel
theorem dX12_init_8 : decode cX12_init 8 = .ok (.dup, 1) := by decide +kernel
theorem dX12_init_9 : decode cX12_init 9 = .ok (.invokespecial 9, 3) := by decide +kernel
theorem dX12_init_12 : decode cX12_init 12 = .ok (.putfield 10, 3) := by decide +kernel
theorem dX12_init_15 : decode cX12_init 15 = .ok (.aload_n 0, 1) := by decide +kernel
theorem dX12_init_16 : decode cX12_init 16 = .ok (.new 16, 3) := by decide +kernel
theorem dX12_init_19 : decode cX12_init 19 = .ok (.dup, 1) := by decide +kernel
theorem dX12_init_20 : decode cX12_init 20 = .ok (.invokespecial 18, 3) := by decide +kernel
theorem dX12_init_23 : decode cX12_init 23 = .ok (.putfield 19, 3) := by decide +kernel
theorem dX12_init_26 : decode cX12_init 26 = .ok (.aload_n 0, 1) := by decide +kernel
theorem dX12_init_27 : decode cX12_init 27 = .ok (.new 23, 3) := by decide +kernel
theorem dX12_init_30 : decode cX12_init 30 = .ok (.dup, 1) := by decide +kernel
theorem dX12_init_31 : decode cX12_init 31 = .ok (.aload_n 0, 1) := by decide +kernel
theorem dX12_init_32 : decode cX12_init 32 = .ok (.getfield 10, 3) := by decide +kernel
theorem dX12_init_35 : decode cX12_init 35 = .ok (.invokespecial 25, 3) := by decide +kernel
theorem dX12_init_38 : decode cX12_init 38 = .ok (.putfield 28, 3) := by decide +kernel
theorem dX12_init_41 : decode cX12_init 41 = .ok (.aload_n 0, 1) := by decide +kernel
theorem dX12_init_42 : decode cX12_init 42 = .ok (.new 32, 3) := by decide +kernel
theorem dX12_init_45 : decode cX12_init 45 = .ok (.dup, 1) := by decide +kernel
theorem dX12_init_46 : decode cX12_init 46 = .ok (.aload_n 0, 1) := by decide +kernel
theorem dX12_init_47 : decode cX12_init 47 = .ok (.getfield 10, 3) := by decide +kernel
theorem dX12_init_50 : decode cX12_init 50 = .ok (.aload_n 0, 1) := by decide +kernel
theorem dX12_init_51 : decode cX12_init 51 = .ok (.getfield 28, 3) := by decide +kernel
theorem dX12_init_54 : decode cX12_init 54 = .ok (.invokespecial 34, 3) := by decide +kernel
theorem dX12_init_57 : decode cX12_init 57 = .ok (.putfield 37, 3) := by decide +kernel
theorem dX12_init_60 : decode cX12_init 60 = .ok (.aload_n 0, 1) := by decide +kernel
theorem dX12_init_61 : decode cX12_init 61 = .ok (.new 41, 3) := by decide +kernel
theorem dX12_init_64 : decode cX12_init 64 = .ok (.dup, 1) := by decide +kernel
theorem dX12_init_65 : decode cX12_init 65 = .ok (.aload_n 0, 1) := by decide +kernel
theorem dX12_init_66 : decode cX12_init 66 = .ok (.getfield 10, 3) := by decide +kernel
theorem dX12_init_69 : decode cX12_init 69 = .ok (.invokespecial 43, 3) := by decide +kernel
theorem dX12_init_72 : decode cX12_init 72 = .ok (.putfield 44, 3) := by decide +kernel
theorem dX12_init_75 : decode cX12_init 75 = .ok (.aload_n 0, 1) := by decide +kernel
theorem dX12_init_76 : decode cX12_init 76 = .ok (.new 48, 3) := by decide +kernel
theorem dX12_init_79 : decode cX12_init 79 = .ok (.dup, 1) := by decide +kernel
theorem dX12_init_80 : decode cX12_init 80 = .ok (.aload_n 0, 1) := by decide +kernel
theorem dX12_init_81 : decode cX12_init 81 = .ok (.getfield 10, 3) := by decide +kernel
theorem dX12_init_84 : decode cX12_init 84 = .ok (.aload_n 0, 1) := by decide +kernel
theorem dX12_init_85 : decode cX12_init 85 = .ok (.getfield 28, 3) := by decide +kernel
theorem dX12_init_88 : decode cX12_init 88 = .ok (.invokespecial 50, 3) := by decide +kernel
theorem dX12_init_91 : decode cX12_init 91 = .ok (.putfield 51, 3) := by decide +kernel
theorem dX12_init_94 : decode cX12_init 94 = .ok (.return_, 1) := by decide +kernel
theorem dJ0_length_8abf5_0 : decode cJ0_length_8abf5 0 = .ok (.aload_n 0, 1) := by decide +kernel
theorem dJ0_length_8abf5_1 : decode cJ0_length_8abf5 1 = .ok (.getfield 9, 3) := by decide +kernel
theorem dJ0_length_8abf5_4 : decode cJ0_length_8abf5 4 = .ok (.arraylength, 1) := by decide +kernel
theorem dJ0_length_8abf5_5 : decode cJ0_length_8abf5 5 = .ok (.aload_n 0, 1) := by decide +kernel
theorem dJ0_length_8abf5_6 : decode cJ0_length_8abf5 6 = .ok (.invokevirtual 335, 3) := by decide +kernel
theorem dJ0_length_8abf5_9 : decode cJ0_length_8abf5 9 = .ok (.ishr, 1) := by decide +kernel
theorem dJ0_length_8abf5_10 : decode cJ0_length_8abf5 10 = .ok (.ireturn, 1) := by decide +kernel
theorem dJ0_coder_7d493_0 : decode cJ0_coder_7d493 0 = .ok (.getstatic 38, 3) := by decide +kernel
theorem dJ0_coder_7d493_3 : decode cJ0_coder_7d493 3 = .ok (.ifCond .eq 10, 3) := by decide +kernel
theorem dJ0_coder_7d493_6 : decode cJ0_coder_7d493 6 = .ok (.aload_n 0, 1) := by decide +kernel
theorem dJ0_coder_7d493_7 : decode cJ0_coder_7d493 7 = .ok (.getfield 15, 3) := by decide +kernel
theorem dJ0_coder_7d493_10 : decode cJ0_coder_7d493 10 = .ok (.goto 4, 3) := by decide +kernel
theorem dJ0_coder_7d493_14 : decode cJ0_coder_7d493 14 = .ok (.ireturn, 1) := by decide +kernel
def A_c_coder : List Cond := [.fieldLink RJ0 38 "java/lang/String" "COMPACT_STRINGS" "Z", .fieldLink RJ0 15 "java/lang/String" "coder" "B"]
def v_c_coder : List Cond := .code yJ0_coder_7d493 cJ0_coder_7d493 1 (some .byte) :: (A_c_coder)
set_option maxHeartbeats 4000000 in
set_option maxRecDepth 100000 in
theorem c_coder (l : Launch) (dC : Nat → ClassId) (dI : Nat → Nat → Nat) (qs : Nat)  : Met l yJ0_coder_7d493 v_c_coder ({ frames := 0, cells := 0, slots := 0, locals := 0 }) (va_Pc [.ref qs] (fun U => va_P (dC, dI) vwCl [] U.heap ∧ va_K (dC, dI) vwCl [] U ∧ ub_SQ qs (fun _ => False) U U.heap)) (va_Qi (S := Unit) (fun r _ => r = 0) (fun _ _ => True) (fun _ => False)) 0 0 (fun _ => False) := by
  refine Met.ofW (cc := cJ0_coder_7d493) (maxL := 1) (ret := (some .byte)) (by decide) rfl ?_
  intro p e s m args below meth c s₁ B hml hv
  obtain ⟨rfl, hP, hK, hQ⟩ := hv
  have hx := B.exec
  have hb := B.bytes
  have hr := B.returns
  have hts := atoms_spec (ws := v_c_coder) B.pre
  have hown : s.vm.findClass RJ0 = some m.cls := findClass_of_methodNamed B.named
  have hlocks := B.notSynchronized
  have hS : va_S (fun _ : Nat => False) s.heap s.heap [] := va_S.rf
  have hl := lv_entry ([.ref qs]) (n := 1) (Nat.le_of_ble_eq_true rfl)
  rw [lg_entry_eq]
  generalize (lg_sl ([.ref qs]) ++ List.replicate (1 - (lg_sl ([.ref qs])).length) Slot.unset).toArray = ls at hl ⊢
  have hl : lv_has ls 1 [(0, .ref qs)] := hl
  refine va_gets hx hb hQ.2.2.2 hS hown (hts (.fieldLink RJ0 38 "java/lang/String" "COMPACT_STRINGS" "Z") (List.mem_of_getElem? (i := 1) rfl)) (fun _ h9 => h9) dJ0_coder_7d493_0 ?_
  refine lv_if_eq (tgt := 13) hx hb dJ0_coder_7d493_3 (by decide) (fun c1 => by first | exact absurd c1 (by decide) | exact absurd (by decide) c1) (fun c1 => ?_)
  refine lv_aload_n hx hb dJ0_coder_7d493_6 rfl (lv_at hl 0 rfl) ?_
  refine vk_getf hx hb hQ.2.1 hS hown (hts (.fieldLink RJ0 15 "java/lang/String" "coder" "B") (List.mem_of_getElem? (i := 2) rfl)) (fun _ h9 => h9) dJ0_coder_7d493_7 ?_
  refine lv_goto (tgt := 14) hx hb dJ0_coder_7d493_10 (by decide) ?_
  exact W.zret (v := (0)) hx hb hr rfl (fun t ht hW => ⟨⟨(0), (), rfl, rfl, trivial⟩, hS.F ht⟩) hS.2.2 dJ0_coder_7d493_14
def A_c_strlen : List Cond := [.fieldLink RJ0 9 "java/lang/String" "value" "[B", .methodLink RJ0 335 yJ0_coder_7d493, .instanceMethod yJ0_coder_7d493, .selects RJ0 yJ0_coder_7d493 yJ0_coder_7d493, .initialized RJ0, .code yJ0_coder_7d493 cJ0_coder_7d493 1 (some .byte), .fieldLink RJ0 38 "java/lang/String" "COMPACT_STRINGS" "Z", .fieldLink RJ0 15 "java/lang/String" "coder" "B"]
def v_c_strlen : List Cond := .code yJ0_length_8abf5 cJ0_length_8abf5 1 (some .int) :: (A_c_strlen)
theorem gb_c_strlen_c_coder0 : GoodIn v_c_strlen (.code yJ0_coder_7d493 cJ0_coder_7d493 1 (some .byte) :: A_c_coder) := (List.forall_mem_cons.mpr ⟨⟨List.mem_of_getElem? (i := 6) rfl, good_of_word rfl⟩, (List.forall_mem_cons.mpr ⟨⟨List.mem_of_getElem? (i := 7) rfl, good_of_word rfl⟩, (List.forall_mem_cons.mpr ⟨⟨List.mem_of_getElem? (i := 8) rfl, good_of_word rfl⟩, (fun _ h => nomatch h)⟩)⟩)⟩)
theorem gb_c_strlen_c_coder : GoodIn v_c_strlen v_c_coder := gb_c_strlen_c_coder0
theorem g_c_strlen_c_coder_335 : GoodIn v_c_strlen (wsV RJ0 335 RJ0 yJ0_coder_7d493 v_c_coder) := goodIn_app (List.forall_mem_cons.mpr ⟨⟨List.mem_of_getElem? (i := 2) rfl, good_of_word rfl⟩, (List.forall_mem_cons.mpr ⟨⟨List.mem_of_getElem? (i := 3) rfl, good_of_word rfl⟩, (List.forall_mem_cons.mpr ⟨⟨List.mem_of_getElem? (i := 4) rfl, good_of_word rfl⟩, (List.forall_mem_cons.mpr ⟨⟨List.mem_of_getElem? (i := 5) rfl, good_of_word rfl⟩, (fun _ h => nomatch h)⟩)⟩)⟩)⟩) gb_c_strlen_c_coder
set_option maxHeartbeats 4000000 in
set_option maxRecDepth 100000 in
theorem c_strlen (l : Launch) (dC : Nat → ClassId) (dI : Nat → Nat → Nat) (qs : Nat)  : Met l yJ0_length_8abf5 v_c_strlen ({ frames := 1, cells := 0, slots := 0, locals := 40 }) (va_Pc [.ref qs] (fun U => va_P (dC, dI) vwCl [] U.heap ∧ va_K (dC, dI) vwCl [] U ∧ ub_SQ qs (fun _ => False) U U.heap)) (va_Qi (S := Unit) (fun r _ => r = 14) (fun _ _ => True) (fun _ => False)) 0 0 (fun _ => False) := by
  refine Met.ofW (cc := cJ0_length_8abf5) (maxL := 1) (ret := (some .int)) (by decide) rfl ?_
  intro p e s m args below meth c s₁ B hml hv
  obtain ⟨rfl, hP, hK, hQ⟩ := hv
  have hx := B.exec
  have hb := B.bytes
  have hr := B.returns
  have hts := atoms_spec (ws := v_c_strlen) B.pre
  have hown : s.vm.findClass RJ0 = some m.cls := findClass_of_methodNamed B.named
  have hlocks := B.notSynchronized
  have hS : va_S (fun _ : Nat => False) s.heap s.heap [] := va_S.rf
  have hl := lv_entry ([.ref qs]) (n := 1) (Nat.le_of_ble_eq_true rfl)
  rw [lg_entry_eq]
  generalize (lg_sl ([.ref qs]) ++ List.replicate (1 - (lg_sl ([.ref qs])).length) Slot.unset).toArray = ls at hl ⊢
  have hl : lv_has ls 1 [(0, .ref qs)] := hl
  obtain ⟨vs, hq3, fb, hq4⟩ := hQ.2.2.1
  refine lv_aload_n hx hb dJ0_length_8abf5_0 rfl (lv_at hl 0 rfl) ?_
  refine vk_getf hx hb hq3 hS hown (hts (.fieldLink RJ0 9 "java/lang/String" "value" "[B") (List.mem_of_getElem? (i := 1) rfl)) (fun _ h9 => h9) dJ0_length_8abf5_1 ?_
  refine va_tlen (v := 14) hx hb hq4 hS rfl dJ0_length_8abf5_4 ?_
  refine lv_aload_n hx hb dJ0_length_8abf5_5 rfl (lv_at hl 0 rfl) ?_
  have hPc := hP.sub (ws' := []) [] rfl
  have hKc := hK.sub (tys' := []) [] rfl
  refine va_calli (va_runV (As := []) (rest := [.int 14]) ⟨hx, hb, hml, hown, hts⟩ (c_coder l dC dI qs) (cwV 0 hts g_c_strlen_c_coder_335 rfl rfl rfl (by decide +kernel) ⟨Nat.le_of_ble_eq_true rfl, Nat.le_of_ble_eq_true rfl⟩) ⟨fun a U g mk q => by obtain ⟨e0, qP, qK, qQ⟩ := q; exact ⟨e0, qP, va_K.moved (u := U) (U := U.calling g mk a) (Vm.Alike.refl U.vm) qK, ub_Q_c qQ⟩, va_Orecv hQ.1 hS, fun U hU hW => ⟨rfl, by rw [hU]; exact hPc, va_K.moved hW.alike hKc, ub_Q_w hU hW hS hQ⟩⟩ rfl rfl hl.1 rfl (lv_room (Nat.le_of_ble_eq_true rfl)) dJ0_length_8abf5_6 ⟨Nat.le_of_ble_eq_true rfl, Nat.le_of_ble_eq_true rfl⟩) hS (fun _ _ h => h.elim) (fun _ h => h.elim) (fun r1 u2 t H1 locs ht hvm hw hB hz1 hk1 hS => ?_)
  generalize H1 = H at hS ⊢
  obtain rfl : (0 : Int32) = r1 := hw.symm
  refine lv_ishr hx hb dJ0_length_8abf5_9 ?_
  refine lv_topi (fun y3 ey3 => ?_)
  obtain rfl : (14 : Int32) = y3 := (ey3.trans (by decide)).symm
  exact W.iret (v := (14)) hx hb hr (fun t ht hW => ⟨⟨(14), (), rfl, rfl, trivial⟩, hS.F ht⟩) hS.2.2 dJ0_length_8abf5_10
def A_c_BookI : List Cond := [.instanceMethod objectInit, .code objectInit ⟨#[0xb1]⟩ 1 none, .methodLink RX0 3 objectInit, .classLink RX0 9 RJx4a65c, .instantiable RJx4a65c 3, .initialized RJx4a65c, .methodLink RX0 11 yJx4a65c_init_da8c8, .instanceMethod yJx4a65c_init_da8c8, .fieldLink RX0 12 "UnlikeBoats$Book" "certificates" "Ljava/util/ArrayList;", .fieldLink RX0 18 "UnlikeBoats$Book" "rules" "Ljava/util/ArrayList;", .fieldLink RX0 21 "UnlikeBoats$Book" "races" "Ljava/util/ArrayList;", .fieldLink RX0 24 "UnlikeBoats$Book" "results" "Ljava/util/ArrayList;", .fieldLink RX0 27 "UnlikeBoats$Book" "words" "Ljava/util/ArrayList;", .fieldLink RX0 30 "UnlikeBoats$Book" "protests" "Ljava/util/ArrayList;", .methodLink RX0 35 yJ0_length_8abf5, .instanceMethod yJ0_length_8abf5, .selects RJ0 yJ0_length_8abf5 yJ0_length_8abf5, .initialized RJ0, .arrayClass .int, .fieldLink RX0 41 "UnlikeBoats$Book" "letters" "[I", .fieldLink RX0 45 "UnlikeBoats$Book" "stack" "[I", .code yJx4a65c_init_da8c8 cJx4a65c_init_da8c8 1 none, .initialized RJxc12de, .methodLink RJx4a65c 1 yJxc12de_init_da8c8, .instanceMethod yJxc12de_init_da8c8, .fieldLink RJx4a65c 39 "java/util/ArrayList" "DEFAULTCAPACITY_EMPTY_ELEMENTDATA" "[Ljava/lang/Object;", .fieldLink RJx4a65c 9 "java/util/ArrayList" "elementData" "[Ljava/lang/Object;", .code yJxc12de_init_da8c8 cJxc12de_init_da8c8 1 none, .initialized RJxa1e45, .methodLink RJxc12de 1 yJxa1e45_init_da8c8, .instanceMethod yJxa1e45_init_da8c8, .fieldLink RJxc12de 7 "java/util/AbstractList" "modCount" "I", .code yJxa1e45_init_da8c8 cJxa1e45_init_da8c8 1 none, .methodLink RJxa1e45 1 objectInit, .code yJ0_length_8abf5 cJ0_length_8abf5 1 (some .int), .fieldLink RJ0 9 "java/lang/String" "value" "[B", .methodLink RJ0 335 yJ0_coder_7d493, .instanceMethod yJ0_coder_7d493, .selects RJ0 yJ0_coder_7d493 yJ0_coder_7d493, .code yJ0_coder_7d493 cJ0_coder_7d493 1 (some .byte), .fieldLink RJ0 38 "java/lang/String" "COMPACT_STRINGS" "Z", .fieldLink RJ0 15 "java/lang/String" "coder" "B"]
def v_c_BookI : List Cond := .code yX0_init cX0_init 1 none :: (A_c_BookI ++ wsJx4a65c0 ++ wsX00)
theorem iw_c_BookI_Jx4a65c : ∀ w ∈ wsJx4a65c0, w ∈ v_c_BookI := fun _ h => List.mem_cons_of_mem _ (List.mem_append_left _ (List.mem_append_right _ (h)))
theorem iw_c_BookI_X0 : ∀ w ∈ wsX00, w ∈ v_c_BookI := fun _ h => List.mem_cons_of_mem _ (List.mem_append_right _ (h))
theorem gb_c_BookI_c_ALinit0 : GoodIn v_c_BookI (.code yJx4a65c_init_da8c8 cJx4a65c_init_da8c8 1 none :: A_c_ALinit) := (List.forall_mem_cons.mpr ⟨⟨List.mem_of_getElem? (i := 22) rfl, good_of_word rfl⟩, (List.forall_mem_cons.mpr ⟨⟨List.mem_of_getElem? (i := 23) rfl, good_of_word rfl⟩, (List.forall_mem_cons.mpr ⟨⟨List.mem_of_getElem? (i := 24) rfl, good_of_word rfl⟩, (List.forall_mem_cons.mpr ⟨⟨List.mem_of_getElem? (i := 25) rfl, good_of_word rfl⟩, (List.forall_mem_cons.mpr ⟨⟨List.mem_of_getElem? (i := 26) rfl, good_of_word rfl⟩, (List.forall_mem_cons.mpr ⟨⟨List.mem_of_getElem? (i := 27) rfl, good_of_word rfl⟩, (List.forall_mem_cons.mpr ⟨⟨List.mem_of_getElem? (i := 28) rfl, good_of_word rfl⟩, (List.forall_mem_cons.mpr ⟨⟨List.mem_of_getElem? (i := 29) rfl, good_of_word rfl⟩, (List.forall_mem_cons.mpr ⟨⟨List.mem_of_getElem? (i := 30) rfl, good_of_word rfl⟩, (List.forall_mem_cons.mpr ⟨⟨List.mem_of_getElem? (i := 31) rfl, good_of_word rfl⟩, (List.forall_mem_cons.mpr ⟨⟨List.mem_of_getElem? (i := 32) rfl, good_of_word rfl⟩, (List.forall_mem_cons.mpr ⟨⟨List.mem_of_getElem? (i := 33) rfl, good_of_word rfl⟩, (List.forall_mem_cons.mpr ⟨⟨List.mem_of_getElem? (i := 1) rfl, good_of_word rfl⟩, (List.forall_mem_cons.mpr ⟨⟨List.mem_of_getElem? (i := 2) rfl, good_of_word rfl⟩, (List.forall_mem_cons.mpr ⟨⟨List.mem_of_getElem? (i := 34) rfl, good_of_word rfl⟩, (fun _ h => nomatch h)⟩)⟩)⟩)⟩)⟩)⟩)⟩)⟩)⟩)⟩)⟩)⟩)⟩)⟩)⟩)
theorem gb_c_BookI_c_ALinit : GoodIn v_c_BookI v_c_ALinit := (goodIn_ca gb_c_BookI_c_ALinit0 (goodIn_sub iw_c_BookI_Jx4a65c gw_Jx4a65c))
theorem g_c_BookI_c_ALinit : GoodIn v_c_BookI (v_c_ALinit) := gb_c_BookI_c_ALinit
theorem gb_c_BookI_c_strlen0 : GoodIn v_c_BookI (.code yJ0_length_8abf5 cJ0_length_8abf5 1 (some .int) :: A_c_strlen) := (List.forall_mem_cons.mpr ⟨⟨List.mem_of_getElem? (i := 35) rfl, good_of_word rfl⟩, (List.forall_mem_cons.mpr ⟨⟨List.mem_of_getElem? (i := 36) rfl, good_of_word rfl⟩, (List.forall_mem_cons.mpr ⟨⟨List.mem_of_getElem? (i := 37) rfl, good_of_word rfl⟩, (List.forall_mem_cons.mpr ⟨⟨List.mem_of_getElem? (i := 38) rfl, good_of_word rfl⟩, (List.forall_mem_cons.mpr ⟨⟨List.mem_of_getElem? (i := 39) rfl, good_of_word rfl⟩, (List.forall_mem_cons.mpr ⟨⟨List.mem_of_getElem? (i := 18) rfl, good_of_word rfl⟩, (List.forall_mem_cons.mpr ⟨⟨List.mem_of_getElem? (i := 40) rfl, good_of_word rfl⟩, (List.forall_mem_cons.mpr ⟨⟨List.mem_of_getElem? (i := 41) rfl, good_of_word rfl⟩, (List.forall_mem_cons.mpr ⟨⟨List.mem_of_getElem? (i := 42) rfl, good_of_word rfl⟩, (fun _ h => nomatch h)⟩)⟩)⟩)⟩)⟩)⟩)⟩)⟩)⟩)
theorem gb_c_BookI_c_strlen : GoodIn v_c_BookI v_c_strlen := gb_c_BookI_c_strlen0
theorem g_c_BookI_c_strlen_35 : GoodIn v_c_BookI (wsV RX0 35 RJ0 yJ0_length_8abf5 v_c_strlen) := goodIn_app (List.forall_mem_cons.mpr ⟨⟨List.mem_of_getElem? (i := 15) rfl, good_of_word rfl⟩, (List.forall_mem_cons.mpr ⟨⟨List.mem_of_getElem? (i := 16) rfl, good_of_word rfl⟩, (List.forall_mem_cons.mpr ⟨⟨List.mem_of_getElem? (i := 17) rfl, good_of_word rfl⟩, (List.forall_mem_cons.mpr ⟨⟨List.mem_of_getElem? (i := 18) rfl, good_of_word rfl⟩, (fun _ h => nomatch h)⟩)⟩)⟩)⟩) gb_c_BookI_c_strlen
set_option maxHeartbeats 4000000 in
set_option maxRecDepth 100000 in
theorem c_BookI (l : Launch) (dC : Nat → ClassId) (dI : Nat → Nat → Nat) (bk : Nat) (ed : Nat) (sz : Nat)  : Met l yX0_init v_c_BookI ({ frames := 4, cells := 8, slots := 232, locals := 160 }) (va_Pc [.ref bk] (fun U => U.heap.size = sz ∧ va_P (dC, dI) vwCl [(bk, .inr (1, [.int 0, .int 0, .int 0, .null, .null, .null, .null, .null, .null, .null, .null]))] U.heap ∧ va_K (dC, dI) vwCl [] U ∧ va_D (fun _ => True) [(bk, .inr (1, [.int 0, .int 0, .int 0, .null, .null, .null, .null, .null, .null, .null, .null]))] ∧ ub_ZE ed (va_A [(bk, .inr (1, [.int 0, .int 0, .int 0, .null, .null, .null, .null, .null, .null, .null, .null]))] sz) U U.heap ∧ ub_SL (va_A [(bk, .inr (1, [.int 0, .int 0, .int 0, .null, .null, .null, .null, .null, .null, .null, .null]))] sz) U U.heap)) (va_Qv (S := Nat × Nat × Nat × Nat × Nat × Nat × Nat × Nat × ClassId) (fun _ => True) (fun u t => match u with | (lc, lr, la, le, lw, lp, ltr, stk, cI) => va_P (dC, dI) vwCl [(bk, .inr (1, [.int 0, .int 0, .int 0, .ref lc, .ref lr, .ref la, .ref le, .ref lw, .ref lp, .ref ltr, .ref stk])), (lc, .inr (0, [.int 0, .ref ed, .int 0])), (lr, .inr (0, [.int 0, .ref ed, .int 0])), (la, .inr (0, [.int 0, .ref ed, .int 0])), (le, .inr (0, [.int 0, .ref ed, .int 0])), (lw, .inr (0, [.int 0, .ref ed, .int 0])), (lp, .inr (0, [.int 0, .ref ed, .int 0])), (ltr, .inl (cI, 14, .inl (fun _ => (0 : Int32))))] t.heap ∧ va_K (dC, dI) vwCl [(cI, .int)] t ∧ va_D (va_A [(bk, .inr (1, [.int 0, .int 0, .int 0, .null, .null, .null, .null, .null, .null, .null, .null]))] sz) [(bk, .inr (1, [.int 0, .int 0, .int 0, .ref lc, .ref lr, .ref la, .ref le, .ref lw, .ref lp, .ref ltr, .ref stk])), (lc, .inr (0, [.int 0, .ref ed, .int 0])), (lr, .inr (0, [.int 0, .ref ed, .int 0])), (la, .inr (0, [.int 0, .ref ed, .int 0])), (le, .inr (0, [.int 0, .ref ed, .int 0])), (lw, .inr (0, [.int 0, .ref ed, .int 0])), (lp, .inr (0, [.int 0, .ref ed, .int 0])), (ltr, .inl (cI, 14, .inl (fun _ => (0 : Int32))))]) (va_A [(bk, .inr (1, [.int 0, .int 0, .int 0, .null, .null, .null, .null, .null, .null, .null, .null]))] sz)) 8 232 (va_A [(bk, .inr (1, [.int 0, .int 0, .int 0, .null, .null, .null, .null, .null, .null, .null, .null]))] sz) := by
  refine Met.ofW (cc := cX0_init) (maxL := 1) (ret := none) (by decide) rfl ?_
  intro p e s m args below meth c s₁ B hml hv
  obtain ⟨rfl, hsz, hP, hK, hD0, hZ, hL⟩ := hv
  have hx := B.exec
  have hb := B.bytes
  have hr := B.returns
  have hts := atoms_spec (ws := v_c_BookI) B.pre
  have hown : s.vm.findClass RX0 = some m.cls := findClass_of_methodNamed B.named
  have hlocks := B.notSynchronized
  have hin : meth.name = "<init>" := (name_of_methodNamed B.named B.method).1
  subst hsz
  have hD := hD0.self (sz := s.heap.size)
  generalize hAe : va_A [(bk, .inr (1, [.int 0, .int 0, .int 0, .null, .null, .null, .null, .null, .null, .null, .null]))] s.heap.size = A at hD ⊢
  have hA : ∀ q : Nat, s.heap.size ≤ q → A q := fun q h => by rw [← hAe]; exact Or.inr h
  try rw [hAe] at hZ
  try rw [hAe] at hL
  have hS : va_S A s.heap s.heap [] := va_S.rf
  have hP : va_P (dC, dI) vwCl [(bk, .inr (1, [.int 0, .int 0, .int 0, .null, .null, .null, .null, .null, .null, .null, .null]))] s.heap := hP
  have hl := lv_entry ([.ref bk]) (n := 1) (Nat.le_of_ble_eq_true rfl)
  rw [lg_entry_eq]
  generalize (lg_sl ([.ref bk]) ++ List.replicate (1 - (lg_sl ([.ref bk])).length) Slot.unset).toArray = ls at hl ⊢
  have hl : lv_has ls 1 [(0, .ref bk)] := hl
  refine lv_aload_n hx hb dX0_init_0 rfl (lv_at hl 0 rfl) ?_
  refine W.objInit hx hb hown (hts (.methodLink RX0 3 objectInit) (List.mem_of_getElem? (i := 3) rfl)) (hts (.instanceMethod objectInit) (List.mem_of_getElem? (i := 1) rfl)) (hts (.code objectInit ⟨#[0xb1]⟩ 1 none) (List.mem_of_getElem? (i := 2) rfl)) rfl (by rw [hml]; exact hl.1) rfl dX0_init_1 (Nat.le_of_ble_eq_true rfl) (Nat.le_of_ble_eq_true rfl) ?_
  refine W.eq (g2 := F0 m 4 ls []) rfl ?_
  refine lv_aload_n hx hb dX0_init_4 rfl (lv_at hl 0 rfl) ?_
  refine va_new (ci := 0) (fs := [.int 0, .null, .int 0]) (C := RJx4a65c) (T := TJx4a65c) (N := 3) hx hb hts iw_c_BookI_Jx4a65c tyJx4a65c tyJx4a65c_ok hown (hts (.classLink RX0 9 RJx4a65c) (List.mem_of_getElem? (i := 4) rfl)) (hts (.instantiable RJx4a65c 3) (List.mem_of_getElem? (i := 5) rfl)) (hts (.initialized RJx4a65c) (List.mem_of_getElem? (i := 6) rfl)) hK hP hD hS hA rfl (fun j hj => by rcases (show j = 0 ∨ j = 1 ∨ j = 2 by omega) with rfl | rfl | rfl <;> rfl) (Nat.le_of_ble_eq_true rfl) (Nat.le_of_ble_eq_true rfl) dX0_init_5 (fun q1 H hP hD hS => ?_)
  have hP : va_P (dC, dI) vwCl [(bk, .inr (1, [.int 0, .int 0, .int 0, .null, .null, .null, .null, .null, .null, .null, .null])), (q1, .inr (0, [.int 0, .null, .int 0]))] H := hP
  have hD : va_D A [(bk, .inr (1, [.int 0, .int 0, .int 0, .null, .null, .null, .null, .null, .null, .null, .null])), (q1, .inr (0, [.int 0, .null, .int 0]))] := hD
  refine W.widen (k := 1) (n := 3) (by omega) (by omega) ?_
  refine lv_dup hx hb dX0_init_8 rfl ?_
  have hPc := hP.sub (ws' := [(q1, .inr (0, [.int 0, .null, .int 0]))]) [1] rfl
  have hKc := hK.sub (tys' := []) [] rfl
  have hDc := hD.sub (ws' := [(q1, .inr (0, [.int 0, .null, .int 0]))]) [1] (by decide) rfl
  have hFc := va_free (wc := [(q1, .inr (0, [.int 0, .null, .int 0]))]) hD hS hA [1] rfl
  refine va_callv (va_runI (As := []) (rest := [.ref q1, .ref bk]) ⟨hx, hb, hml, hown, hts⟩ (c_ALinit l dC dI q1 ed H.size) (cwI 0 hts g_c_BookI_c_ALinit rfl rfl rfl (hts (.initialized RJx4a65c) (List.mem_of_getElem? (i := 6) rfl)) (hts (.methodLink RX0 11 yJx4a65c_init_da8c8) (List.mem_of_getElem? (i := 7) rfl)) (hts (.instanceMethod yJx4a65c_init_da8c8) (List.mem_of_getElem? (i := 8) rfl)) rfl (by decide +kernel) ⟨Nat.le_of_ble_eq_true rfl, Nat.le_of_ble_eq_true rfl⟩) ⟨fun a U g mk q => by obtain ⟨e0, e1, qP, qK, qD, qZ⟩ := q; exact ⟨e0, e1, qP, va_K.moved (u := U) (U := U.calling g mk a) (Vm.Alike.refl U.vm) qK, qD, ub_Z_c qZ⟩, fun U hU hW => ⟨rfl, by rw [hU], by rw [hU]; exact hPc, va_K.moved hW.alike hKc, hDc.weaken (fun _ _ _ _ => trivial), ub_Z_w hU hW hS hFc hZ⟩⟩ rfl rfl hl.1 rfl (lv_room (Nat.le_of_ble_eq_true rfl)) dX0_init_9 ⟨Nat.le_of_ble_eq_true rfl, Nat.le_of_ble_eq_true rfl⟩) hS (fun q _ h => hFc q h) hFc (fun u3 t H1 locs ht hvm hw hB hz1 hk1 hS => ?_)
  obtain ⟨hP1, hK1, hD1⟩ := hB
  rw [ht] at hP1
  obtain ⟨hP, hD⟩ := va_join (wr := [(bk, .inr (1, [.int 0, .int 0, .int 0, .null, .null, .null, .null, .null, .null, .null, .null]))]) (w1 := [(q1, .inr (0, [.int 0, .ref ed, .int 0]))]) hP hD [1] [0] rfl rfl (by decide) (by decide) hk1 hFc hP1 hD1
  generalize H1 = H at hP hS ⊢
  have hP : va_P (dC, dI) vwCl [(bk, .inr (1, [.int 0, .int 0, .int 0, .null, .null, .null, .null, .null, .null, .null, .null])), (q1, .inr (0, [.int 0, .ref ed, .int 0]))] H := hP
  have hD : va_D A [(bk, .inr (1, [.int 0, .int 0, .int 0, .null, .null, .null, .null, .null, .null, .null, .null])), (q1, .inr (0, [.int 0, .ref ed, .int 0]))] := hD
  refine W.widen (k := 1) (n := 3) (by omega) (by omega) ?_
  refine va_putF (D := (dC, dI)) (ci := 1) (v := .ref q1) (ty := .object "java/util/ArrayList") (C := RX0) (T := TX0) (N := 11) hx hb hts iw_c_BookI_X0 tyX0 tyX0_ok nmX0 hown hK hP hD hS 0 rfl rfl 3 (by decide) (hts (.fieldLink RX0 12 "UnlikeBoats$Book" "certificates" "Ljava/util/ArrayList;") (List.mem_of_getElem? (i := 9) rfl)) (fun _ h9 => h9) rfl hin rfl (by decide +kernel) rfl rfl (Nat.le_of_ble_eq_true rfl) dX0_init_12 (fun H locs hP hD hS => ?_)
  have hP : va_P (dC, dI) vwCl [(bk, .inr (1, [.int 0, .int 0, .int 0, .ref q1, .null, .null, .null, .null, .null, .null, .null])), (q1, .inr (0, [.int 0, .ref ed, .int 0]))] H := hP
  have hD : va_D A [(bk, .inr (1, [.int 0, .int 0, .int 0, .ref q1, .null, .null, .null, .null, .null, .null, .null])), (q1, .inr (0, [.int 0, .ref ed, .int 0]))] := hD
  refine lv_aload_n hx hb dX0_init_15 rfl (lv_at hl 0 rfl) ?_
  refine va_new (ci := 0) (fs := [.int 0, .null, .int 0]) (C := RJx4a65c) (T := TJx4a65c) (N := 3) hx hb hts iw_c_BookI_Jx4a65c tyJx4a65c tyJx4a65c_ok hown (hts (.classLink RX0 9 RJx4a65c) (List.mem_of_getElem? (i := 4) rfl)) (hts (.instantiable RJx4a65c 3) (List.mem_of_getElem? (i := 5) rfl)) (hts (.initialized RJx4a65c) (List.mem_of_getElem? (i := 6) rfl)) hK hP hD hS hA rfl (fun j hj => by rcases (show j = 0 ∨ j = 1 ∨ j = 2 by omega) with rfl | rfl | rfl <;> rfl) (Nat.le_of_ble_eq_true rfl) (Nat.le_of_ble_eq_true rfl) dX0_init_16 (fun q4 H hP hD hS => ?_)
  have hP : va_P (dC, dI) vwCl [(bk, .inr (1, [.int 0, .int 0, .int 0, .ref q1, .null, .null, .null, .null, .null, .null, .null])), (q1, .inr (0, [.int 0, .ref ed, .int 0])), (q4, .inr (0, [.int 0, .null, .int 0]))] H := hP
  have hD : va_D A [(bk, .inr (1, [.int 0, .int 0, .int 0, .ref q1, .null, .null, .null, .null, .null, .null, .null])), (q1, .inr (0, [.int 0, .ref ed, .int 0])), (q4, .inr (0, [.int 0, .null, .int 0]))] := hD
  refine W.widen (k := 2) (n := 6) (by omega) (by omega) ?_
  refine lv_dup hx hb dX0_init_19 rfl ?_
  have hPc := hP.sub (ws' := [(q4, .inr (0, [.int 0, .null, .int 0]))]) [2] rfl
  have hKc := hK.sub (tys' := []) [] rfl
  have hDc := hD.sub (ws' := [(q4, .inr (0, [.int 0, .null, .int 0]))]) [2] (by decide) rfl
  have hFc := va_free (wc := [(q4, .inr (0, [.int 0, .null, .int 0]))]) hD hS hA [2] rfl
  refine va_callv (va_runI (As := []) (rest := [.ref q4, .ref bk]) ⟨hx, hb, hml, hown, hts⟩ (c_ALinit l dC dI q4 ed H.size) (cwI 0 hts g_c_BookI_c_ALinit rfl rfl rfl (hts (.initialized RJx4a65c) (List.mem_of_getElem? (i := 6) rfl)) (hts (.methodLink RX0 11 yJx4a65c_init_da8c8) (List.mem_of_getElem? (i := 7) rfl)) (hts (.instanceMethod yJx4a65c_init_da8c8) (List.mem_of_getElem? (i := 8) rfl)) rfl (by decide +kernel) ⟨Nat.le_of_ble_eq_true rfl, Nat.le_of_ble_eq_true rfl⟩) ⟨fun a U g mk q => by obtain ⟨e0, e1, qP, qK, qD, qZ⟩ := q; exact ⟨e0, e1, qP, va_K.moved (u := U) (U := U.calling g mk a) (Vm.Alike.refl U.vm) qK, qD, ub_Z_c qZ⟩, fun U hU hW => ⟨rfl, by rw [hU], by rw [hU]; exact hPc, va_K.moved hW.alike hKc, hDc.weaken (fun _ _ _ _ => trivial), ub_Z_w hU hW hS hFc hZ⟩⟩ rfl rfl hl.1 rfl (lv_room (Nat.le_of_ble_eq_true rfl)) dX0_init_20 ⟨Nat.le_of_ble_eq_true rfl, Nat.le_of_ble_eq_true rfl⟩) hS (fun q _ h => hFc q h) hFc (fun u6 t H1 locs ht hvm hw hB hz1 hk1 hS => ?_)
  obtain ⟨hP1, hK1, hD1⟩ := hB
  rw [ht] at hP1
  obtain ⟨hP, hD⟩ := va_join (wr := [(bk, .inr (1, [.int 0, .int 0, .int 0, .ref q1, .null, .null, .null, .null, .null, .null, .null])), (q1, .inr (0, [.int 0, .ref ed, .int 0]))]) (w1 := [(q4, .inr (0, [.int 0, .ref ed, .int 0]))]) hP hD [2] [0, 1] rfl rfl (by decide) (by decide) hk1 hFc hP1 hD1
  generalize H1 = H at hP hS ⊢
  have hP : va_P (dC, dI) vwCl [(bk, .inr (1, [.int 0, .int 0, .int 0, .ref q1, .null, .null, .null, .null, .null, .null, .null])), (q1, .inr (0, [.int 0, .ref ed, .int 0])), (q4, .inr (0, [.int 0, .ref ed, .int 0]))] H := hP
  have hD : va_D A [(bk, .inr (1, [.int 0, .int 0, .int 0, .ref q1, .null, .null, .null, .null, .null, .null, .null])), (q1, .inr (0, [.int 0, .ref ed, .int 0])), (q4, .inr (0, [.int 0, .ref ed, .int 0]))] := hD
  refine W.widen (k := 2) (n := 6) (by omega) (by omega) ?_
  refine va_putF (D := (dC, dI)) (ci := 1) (v := .ref q4) (ty := .object "java/util/ArrayList") (C := RX0) (T := TX0) (N := 11) hx hb hts iw_c_BookI_X0 tyX0 tyX0_ok nmX0 hown hK hP hD hS 0 rfl rfl 4 (by decide) (hts (.fieldLink RX0 18 "UnlikeBoats$Book" "rules" "Ljava/util/ArrayList;") (List.mem_of_getElem? (i := 10) rfl)) (fun _ h9 => h9) rfl hin rfl (by decide +kernel) rfl rfl (Nat.le_of_ble_eq_true rfl) dX0_init_23 (fun H locs hP hD hS => ?_)
  have hP : va_P (dC, dI) vwCl [(bk, .inr (1, [.int 0, .int 0, .int 0, .ref q1, .ref q4, .null, .null, .null, .null, .null, .null])), (q1, .inr (0, [.int 0, .ref ed, .int 0])), (q4, .inr (0, [.int 0, .ref ed, .int 0]))] H := hP
  have hD : va_D A [(bk, .inr (1, [.int 0, .int 0, .int 0, .ref q1, .ref q4, .null, .null, .null, .null, .null, .null])), (q1, .inr (0, [.int 0, .ref ed, .int 0])), (q4, .inr (0, [.int 0, .ref ed, .int 0]))] := hD
  refine lv_aload_n hx hb dX0_init_26 rfl (lv_at hl 0 rfl) ?_
  refine va_new (ci := 0) (fs := [.int 0, .null, .int 0]) (C := RJx4a65c) (T := TJx4a65c) (N := 3) hx hb hts iw_c_BookI_Jx4a65c tyJx4a65c tyJx4a65c_ok hown (hts (.classLink RX0 9 RJx4a65c) (List.mem_of_getElem? (i := 4) rfl)) (hts (.instantiable RJx4a65c 3) (List.mem_of_getElem? (i := 5) rfl)) (hts (.initialized RJx4a65c) (List.mem_of_getElem? (i := 6) rfl)) hK hP hD hS hA rfl (fun j hj => by rcases (show j = 0 ∨ j = 1 ∨ j = 2 by omega) with rfl | rfl | rfl <;> rfl) (Nat.le_of_ble_eq_true rfl) (Nat.le_of_ble_eq_true rfl) dX0_init_27 (fun q7 H hP hD hS => ?_)
  have hP : va_P (dC, dI) vwCl [(bk, .inr (1, [.int 0, .int 0, .int 0, .ref q1, .ref q4, .null, .null, .null, .null, .null, .null])), (q1, .inr (0, [.int 0, .ref ed, .int 0])), (q4, .inr (0, [.int 0, .ref ed, .int 0])), (q7, .inr (0, [.int 0, .null, .int 0]))] H := hP
  have hD : va_D A [(bk, .inr (1, [.int 0, .int 0, .int 0, .ref q1, .ref q4, .null, .null, .null, .null, .null, .null])), (q1, .inr (0, [.int 0, .ref ed, .int 0])), (q4, .inr (0, [.int 0, .ref ed, .int 0])), (q7, .inr (0, [.int 0, .null, .int 0]))] := hD
  refine W.widen (k := 3) (n := 9) (by omega) (by omega) ?_
  refine lv_dup hx hb dX0_init_30 rfl ?_
  have hPc := hP.sub (ws' := [(q7, .inr (0, [.int 0, .null, .int 0]))]) [3] rfl
  have hKc := hK.sub (tys' := []) [] rfl
  have hDc := hD.sub (ws' := [(q7, .inr (0, [.int 0, .null, .int 0]))]) [3] (by decide) rfl
  have hFc := va_free (wc := [(q7, .inr (0, [.int 0, .null, .int 0]))]) hD hS hA [3] rfl
  refine va_callv (va_runI (As := []) (rest := [.ref q7, .ref bk]) ⟨hx, hb, hml, hown, hts⟩ (c_ALinit l dC dI q7 ed H.size) (cwI 0 hts g_c_BookI_c_ALinit rfl rfl rfl (hts (.initialized RJx4a65c) (List.mem_of_getElem? (i := 6) rfl)) (hts (.methodLink RX0 11 yJx4a65c_init_da8c8) (List.mem_of_getElem? (i := 7) rfl)) (hts (.instanceMethod yJx4a65c_init_da8c8) (List.mem_of_getElem? (i := 8) rfl)) rfl (by decide +kernel) ⟨Nat.le_of_ble_eq_true rfl, Nat.le_of_ble_eq_true rfl⟩) ⟨fun a U g mk q => by obtain ⟨e0, e1, qP, qK, qD, qZ⟩ := q; exact ⟨e0, e1, qP, va_K.moved (u := U) (U := U.calling g mk a) (Vm.Alike.refl U.vm) qK, qD, ub_Z_c qZ⟩, fun U hU hW => ⟨rfl, by rw [hU], by rw [hU]; exact hPc, va_K.moved hW.alike hKc, hDc.weaken (fun _ _ _ _ => trivial), ub_Z_w hU hW hS hFc hZ⟩⟩ rfl rfl hl.1 rfl (lv_room (Nat.le_of_ble_eq_true rfl)) dX0_init_31 ⟨Nat.le_of_ble_eq_true rfl, Nat.le_of_ble_eq_true rfl⟩) hS (fun q _ h => hFc q h) hFc (fun u9 t H1 locs ht hvm hw hB hz1 hk1 hS => ?_)
  obtain ⟨hP1, hK1, hD1⟩ := hB
  rw [ht] at hP1
  obtain ⟨hP, hD⟩ := va_join (wr := [(bk, .inr (1, [.int 0, .int 0, .int 0, .ref q1, .ref q4, .null, .null, .null, .null, .null, .null])), (q1, .inr (0, [.int 0, .ref ed, .int 0])), (q4, .inr (0, [.int 0, .ref ed, .int 0]))]) (w1 := [(q7, .inr (0, [.int 0, .ref ed, .int 0]))]) hP hD [3] [0, 1, 2] rfl rfl (by decide) (by decide) hk1 hFc hP1 hD1
  generalize H1 = H at hP hS ⊢
  have hP : va_P (dC, dI) vwCl [(bk, .inr (1, [.int 0, .int 0, .int 0, .ref q1, .ref q4, .null, .null, .null, .null, .null, .null])), (q1, .inr (0, [.int 0, .ref ed, .int 0])), (q4, .inr (0, [.int 0, .ref ed, .int 0])), (q7, .inr (0, [.int 0, .ref ed, .int 0]))] H := hP
  have hD : va_D A [(bk, .inr (1, [.int 0, .int 0, .int 0, .ref q1, .ref q4, .null, .null, .null, .null, .null, .null])), (q1, .inr (0, [.int 0, .ref ed, .int 0])), (q4, .inr (0, [.int 0, .ref ed, .int 0])), (q7, .inr (0, [.int 0, .ref ed, .int 0]))] := hD
  refine W.widen (k := 3) (n := 9) (by omega) (by omega) ?_
  refine va_putF (D := (dC, dI)) (ci := 1) (v := .ref q7) (ty := .object "java/util/ArrayList") (C := RX0) (T := TX0) (N := 11) hx hb hts iw_c_BookI_X0 tyX0 tyX0_ok nmX0 hown hK hP hD hS 0 rfl rfl 5 (by decide) (hts (.fieldLink RX0 21 "UnlikeBoats$Book" "races" "Ljava/util/ArrayList;") (List.mem_of_getElem? (i := 11) rfl)) (fun _ h9 => h9) rfl hin rfl (by decide +kernel) rfl rfl (Nat.le_of_ble_eq_true rfl) dX0_init_34 (fun H locs hP hD hS => ?_)
  have hP : va_P (dC, dI) vwCl [(bk, .inr (1, [.int 0, .int 0, .int 0, .ref q1, .ref q4, .ref q7, .null, .null, .null, .null, .null])), (q1, .inr (0, [.int 0, .ref ed, .int 0])), (q4, .inr (0, [.int 0, .ref ed, .int 0])), (q7, .inr (0, [.int 0, .ref ed, .int 0]))] H := hP
  have hD : va_D A [(bk, .inr (1, [.int 0, .int 0, .int 0, .ref q1, .ref q4, .ref q7, .null, .null, .null, .null, .null])), (q1, .inr (0, [.int 0, .ref ed, .int 0])), (q4, .inr (0, [.int 0, .ref ed, .int 0])), (q7, .inr (0, [.int 0, .ref ed, .int 0]))] := hD
  refine lv_aload_n hx hb dX0_init_37 rfl (lv_at hl 0 rfl) ?_
  refine va_new (ci := 0) (fs := [.int 0, .null, .int 0]) (C := RJx4a65c) (T := TJx4a65c) (N := 3) hx hb hts iw_c_BookI_Jx4a65c tyJx4a65c tyJx4a65c_ok hown (hts (.classLink RX0 9 RJx4a65c) (List.mem_of_getElem? (i := 4) rfl)) (hts (.instantiable RJx4a65c 3) (List.mem_of_getElem? (i := 5) rfl)) (hts (.initialized RJx4a65c) (List.mem_of_getElem? (i := 6) rfl)) hK hP hD hS hA rfl (fun j hj => by rcases (show j = 0 ∨ j = 1 ∨ j = 2 by omega) with rfl | rfl | rfl <;> rfl) (Nat.le_of_ble_eq_true rfl) (Nat.le_of_ble_eq_true rfl) dX0_init_38 (fun q10 H hP hD hS => ?_)
  have hP : va_P (dC, dI) vwCl [(bk, .inr (1, [.int 0, .int 0, .int 0, .ref q1, .ref q4, .ref q7, .null, .null, .null, .null, .null])), (q1, .inr (0, [.int 0, .ref ed, .int 0])), (q4, .inr (0, [.int 0, .ref ed, .int 0])), (q7, .inr (0, [.int 0, .ref ed, .int 0])), (q10, .inr (0, [.int 0, .null, .int 0]))] H := hP
  have hD : va_D A [(bk, .inr (1, [.int 0, .int 0, .int 0, .ref q1, .ref q4, .ref q7, .null, .null, .null, .null, .null])), (q1, .inr (0, [.int 0, .ref ed, .int 0])), (q4, .inr (0, [.int 0, .ref ed, .int 0])), (q7, .inr (0, [.int 0, .ref ed, .int 0])), (q10, .inr (0, [.int 0, .null, .int 0]))] := hD
  refine W.widen (k := 4) (n := 12) (by omega) (by omega) ?_
  refine lv_dup hx hb dX0_init_41 rfl ?_
  have hPc := hP.sub (ws' := [(q10, .inr (0, [.int 0, .null, .int 0]))]) [4] rfl
  have hKc := hK.sub (tys' := []) [] rfl
  have hDc := hD.sub (ws' := [(q10, .inr (0, [.int 0, .null, .int 0]))]) [4] (by decide) rfl
  have hFc := va_free (wc := [(q10, .inr (0, [.int 0, .null, .int 0]))]) hD hS hA [4] rfl
  refine va_callv (va_runI (As := []) (rest := [.ref q10, .ref bk]) ⟨hx, hb, hml, hown, hts⟩ (c_ALinit l dC dI q10 ed H.size) (cwI 0 hts g_c_BookI_c_ALinit rfl rfl rfl (hts (.initialized RJx4a65c) (List.mem_of_getElem? (i := 6) rfl)) (hts (.methodLink RX0 11 yJx4a65c_init_da8c8) (List.mem_of_getElem? (i := 7) rfl)) (hts (.instanceMethod yJx4a65c_init_da8c8) (List.mem_of_getElem? (i := 8) rfl)) rfl (by decide +kernel) ⟨Nat.le_of_ble_eq_true rfl, Nat.le_of_ble_eq_true rfl⟩) ⟨fun a U g mk q => by obtain ⟨e0, e1, qP, qK, qD, qZ⟩ := q; exact ⟨e0, e1, qP, va_K.moved (u := U) (U := U.calling g mk a) (Vm.Alike.refl U.vm) qK, qD, ub_Z_c qZ⟩, fun U hU hW => ⟨rfl, by rw [hU], by rw [hU]; exact hPc, va_K.moved hW.alike hKc, hDc.weaken (fun _ _ _ _ => trivial), ub_Z_w hU hW hS hFc hZ⟩⟩ rfl rfl hl.1 rfl (lv_room (Nat.le_of_ble_eq_true rfl)) dX0_init_42 ⟨Nat.le_of_ble_eq_true rfl, Nat.le_of_ble_eq_true rfl⟩) hS (fun q _ h => hFc q h) hFc (fun u12 t H1 locs ht hvm hw hB hz1 hk1 hS => ?_)
  obtain ⟨hP1, hK1, hD1⟩ := hB
  rw [ht] at hP1
  obtain ⟨hP, hD⟩ := va_join (wr := [(bk, .inr (1, [.int 0, .int 0, .int 0, .ref q1, .ref q4, .ref q7, .null, .null, .null, .null, .null])), (q1, .inr (0, [.int 0, .ref ed, .int 0])), (q4, .inr (0, [.int 0, .ref ed, .int 0])), (q7, .inr (0, [.int 0, .ref ed, .int 0]))]) (w1 := [(q10, .inr (0, [.int 0, .ref ed, .int 0]))]) hP hD [4] [0, 1, 2, 3] rfl rfl (by decide) (by decide) hk1 hFc hP1 hD1
  generalize H1 = H at hP hS ⊢
  have hP : va_P (dC, dI) vwCl [(bk, .inr (1, [.int 0, .int 0, .int 0, .ref q1, .ref q4, .ref q7, .null, .null, .null, .null, .null])), (q1, .inr (0, [.int 0, .ref ed, .int 0])), (q4, .inr (0, [.int 0, .ref ed, .int 0])), (q7, .inr (0, [.int 0, .ref ed, .int 0])), (q10, .inr (0, [.int 0, .ref ed, .int 0]))] H := hP
  have hD : va_D A [(bk, .inr (1, [.int 0, .int 0, .int 0, .ref q1, .ref q4, .ref q7, .null, .null, .null, .null, .null])), (q1, .inr (0, [.int 0, .ref ed, .int 0])), (q4, .inr (0, [.int 0, .ref ed, .int 0])), (q7, .inr (0, [.int 0, .ref ed, .int 0])), (q10, .inr (0, [.int 0, .ref ed, .int 0]))] := hD
  refine W.widen (k := 4) (n := 12) (by omega) (by omega) ?_
  refine va_putF (D := (dC, dI)) (ci := 1) (v := .ref q10) (ty := .object "java/util/ArrayList") (C := RX0) (T := TX0) (N := 11) hx hb hts iw_c_BookI_X0 tyX0 tyX0_ok nmX0 hown hK hP hD hS 0 rfl rfl 6 (by decide) (hts (.fieldLink RX0 24 "UnlikeBoats$Book" "results" "Ljava/util/ArrayList;") (List.mem_of_getElem? (i := 12) rfl)) (fun _ h9 => h9) rfl hin rfl (by decide +kernel) rfl rfl (Nat.le_of_ble_eq_true rfl) dX0_init_45 (fun H locs hP hD hS => ?_)
  have hP : va_P (dC, dI) vwCl [(bk, .inr (1, [.int 0, .int 0, .int 0, .ref q1, .ref q4, .ref q7, .ref q10, .null, .null, .null, .null])), (q1, .inr (0, [.int 0, .ref ed, .int 0])), (q4, .inr (0, [.int 0, .ref ed, .int 0])), (q7, .inr (0, [.int 0, .ref ed, .int 0])), (q10, .inr (0, [.int 0, .ref ed, .int 0]))] H := hP
  have hD : va_D A [(bk, .inr (1, [.int 0, .int 0, .int 0, .ref q1, .ref q4, .ref q7, .ref q10, .null, .null, .null, .null])), (q1, .inr (0, [.int 0, .ref ed, .int 0])), (q4, .inr (0, [.int 0, .ref ed, .int 0])), (q7, .inr (0, [.int 0, .ref ed, .int 0])), (q10, .inr (0, [.int 0, .ref ed, .int 0]))] := hD
  refine lv_aload_n hx hb dX0_init_48 rfl (lv_at hl 0 rfl) ?_
  refine va_new (ci := 0) (fs := [.int 0, .null, .int 0]) (C := RJx4a65c) (T := TJx4a65c) (N := 3) hx hb hts iw_c_BookI_Jx4a65c tyJx4a65c tyJx4a65c_ok hown (hts (.classLink RX0 9 RJx4a65c) (List.mem_of_getElem? (i := 4) rfl)) (hts (.instantiable RJx4a65c 3) (List.mem_of_getElem? (i := 5) rfl)) (hts (.initialized RJx4a65c) (List.mem_of_getElem? (i := 6) rfl)) hK hP hD hS hA rfl (fun j hj => by rcases (show j = 0 ∨ j = 1 ∨ j = 2 by omega) with rfl | rfl | rfl <;> rfl) (Nat.le_of_ble_eq_true rfl) (Nat.le_of_ble_eq_true rfl) dX0_init_49 (fun q13 H hP hD hS => ?_)
  have hP : va_P (dC, dI) vwCl [(bk, .inr (1, [.int 0, .int 0, .int 0, .ref q1, .ref q4, .ref q7, .ref q10, .null, .null, .null, .null])), (q1, .inr (0, [.int 0, .ref ed, .int 0])), (q4, .inr (0, [.int 0, .ref ed, .int 0])), (q7, .inr (0, [.int 0, .ref ed, .int 0])), (q10, .inr (0, [.int 0, .ref ed, .int 0])), (q13, .inr (0, [.int 0, .null, .int 0]))] H := hP
  have hD : va_D A [(bk, .inr (1, [.int 0, .int 0, .int 0, .ref q1, .ref q4, .ref q7, .ref q10, .null, .null, .null, .null])), (q1, .inr (0, [.int 0, .ref ed, .int 0])), (q4, .inr (0, [.int 0, .ref ed, .int 0])), (q7, .inr (0, [.int 0, .ref ed, .int 0])), (q10, .inr (0, [.int 0, .ref ed, .int 0])), (q13, .inr (0, [.int 0, .null, .int 0]))] := hD
  refine W.widen (k := 5) (n := 15) (by omega) (by omega) ?_
  refine lv_dup hx hb dX0_init_52 rfl ?_
  have hPc := hP.sub (ws' := [(q13, .inr (0, [.int 0, .null, .int 0]))]) [5] rfl
  have hKc := hK.sub (tys' := []) [] rfl
  have hDc := hD.sub (ws' := [(q13, .inr (0, [.int 0, .null, .int 0]))]) [5] (by decide) rfl
  have hFc := va_free (wc := [(q13, .inr (0, [.int 0, .null, .int 0]))]) hD hS hA [5] rfl
  refine va_callv (va_runI (As := []) (rest := [.ref q13, .ref bk]) ⟨hx, hb, hml, hown, hts⟩ (c_ALinit l dC dI q13 ed H.size) (cwI 0 hts g_c_BookI_c_ALinit rfl rfl rfl (hts (.initialized RJx4a65c) (List.mem_of_getElem? (i := 6) rfl)) (hts (.methodLink RX0 11 yJx4a65c_init_da8c8) (List.mem_of_getElem? (i := 7) rfl)) (hts (.instanceMethod yJx4a65c_init_da8c8) (List.mem_of_getElem? (i := 8) rfl)) rfl (by decide +kernel) ⟨Nat.le_of_ble_eq_true rfl, Nat.le_of_ble_eq_true rfl⟩) ⟨fun a U g mk q => by obtain ⟨e0, e1, qP, qK, qD, qZ⟩ := q; exact ⟨e0, e1, qP, va_K.moved (u := U) (U := U.calling g mk a) (Vm.Alike.refl U.vm) qK, qD, ub_Z_c qZ⟩, fun U hU hW => ⟨rfl, by rw [hU], by rw [hU]; exact hPc, va_K.moved hW.alike hKc, hDc.weaken (fun _ _ _ _ => trivial), ub_Z_w hU hW hS hFc hZ⟩⟩ rfl rfl hl.1 rfl (lv_room (Nat.le_of_ble_eq_true rfl)) dX0_init_53 ⟨Nat.le_of_ble_eq_true rfl, Nat.le_of_ble_eq_true rfl⟩) hS (fun q _ h => hFc q h) hFc (fun u15 t H1 locs ht hvm hw hB hz1 hk1 hS => ?_)
  obtain ⟨hP1, hK1, hD1⟩ := hB
  rw [ht] at hP1
  obtain ⟨hP, hD⟩ := va_join (wr := [(bk, .inr (1, [.int 0, .int 0, .int 0, .ref q1, .ref q4, .ref q7, .ref q10, .null, .null, .null, .null])), (q1, .inr (0, [.int 0, .ref ed, .int 0])), (q4, .inr (0, [.int 0, .ref ed, .int 0])), (q7, .inr (0, [.int 0, .ref ed, .int 0])), (q10, .inr (0, [.int 0, .ref ed, .int 0]))]) (w1 := [(q13, .inr (0, [.int 0, .ref ed, .int 0]))]) hP hD [5] [0, 1, 2, 3, 4] rfl rfl (by decide) (by decide) hk1 hFc hP1 hD1
  generalize H1 = H at hP hS ⊢
  have hP : va_P (dC, dI) vwCl [(bk, .inr (1, [.int 0, .int 0, .int 0, .ref q1, .ref q4, .ref q7, .ref q10, .null, .null, .null, .null])), (q1, .inr (0, [.int 0, .ref ed, .int 0])), (q4, .inr (0, [.int 0, .ref ed, .int 0])), (q7, .inr (0, [.int 0, .ref ed, .int 0])), (q10, .inr (0, [.int 0, .ref ed, .int 0])), (q13, .inr (0, [.int 0, .ref ed, .int 0]))] H := hP
  have hD : va_D A [(bk, .inr (1, [.int 0, .int 0, .int 0, .ref q1, .ref q4, .ref q7, .ref q10, .null, .null, .null, .null])), (q1, .inr (0, [.int 0, .ref ed, .int 0])), (q4, .inr (0, [.int 0, .ref ed, .int 0])), (q7, .inr (0, [.int 0, .ref ed, .int 0])), (q10, .inr (0, [.int 0, .ref ed, .int 0])), (q13, .inr (0, [.int 0, .ref ed, .int 0]))] := hD
  refine W.widen (k := 5) (n := 15) (by omega) (by omega) ?_
  refine va_putF (D := (dC, dI)) (ci := 1) (v := .ref q13) (ty := .object "java/util/ArrayList") (C := RX0) (T := TX0) (N := 11) hx hb hts iw_c_BookI_X0 tyX0 tyX0_ok nmX0 hown hK hP hD hS 0 rfl rfl 7 (by decide) (hts (.fieldLink RX0 27 "UnlikeBoats$Book" "words" "Ljava/util/ArrayList;") (List.mem_of_getElem? (i := 13) rfl)) (fun _ h9 => h9) rfl hin rfl (by decide +kernel) rfl rfl (Nat.le_of_ble_eq_true rfl) dX0_init_56 (fun H locs hP hD hS => ?_)
  have hP : va_P (dC, dI) vwCl [(bk, .inr (1, [.int 0, .int 0, .int 0, .ref q1, .ref q4, .ref q7, .ref q10, .ref q13, .null, .null, .null])), (q1, .inr (0, [.int 0, .ref ed, .int 0])), (q4, .inr (0, [.int 0, .ref ed, .int 0])), (q7, .inr (0, [.int 0, .ref ed, .int 0])), (q10, .inr (0, [.int 0, .ref ed, .int 0])), (q13, .inr (0, [.int 0, .ref ed, .int 0]))] H := hP
  have hD : va_D A [(bk, .inr (1, [.int 0, .int 0, .int 0, .ref q1, .ref q4, .ref q7, .ref q10, .ref q13, .null, .null, .null])), (q1, .inr (0, [.int 0, .ref ed, .int 0])), (q4, .inr (0, [.int 0, .ref ed, .int 0])), (q7, .inr (0, [.int 0, .ref ed, .int 0])), (q10, .inr (0, [.int 0, .ref ed, .int 0])), (q13, .inr (0, [.int 0, .ref ed, .int 0]))] := hD
  refine lv_aload_n hx hb dX0_init_59 rfl (lv_at hl 0 rfl) ?_
  refine va_new (ci := 0) (fs := [.int 0, .null, .int 0]) (C := RJx4a65c) (T := TJx4a65c) (N := 3) hx hb hts iw_c_BookI_Jx4a65c tyJx4a65c tyJx4a65c_ok hown (hts (.classLink RX0 9 RJx4a65c) (List.mem_of_getElem? (i := 4) rfl)) (hts (.instantiable RJx4a65c 3) (List.mem_of_getElem? (i := 5) rfl)) (hts (.initialized RJx4a65c) (List.mem_of_getElem? (i := 6) rfl)) hK hP hD hS hA rfl (fun j hj => by rcases (show j = 0 ∨ j = 1 ∨ j = 2 by omega) with rfl | rfl | rfl <;> rfl) (Nat.le_of_ble_eq_true rfl) (Nat.le_of_ble_eq_true rfl) dX0_init_60 (fun q16 H hP hD hS => ?_)
  have hP : va_P (dC, dI) vwCl [(bk, .inr (1, [.int 0, .int 0, .int 0, .ref q1, .ref q4, .ref q7, .ref q10, .ref q13, .null, .null, .null])), (q1, .inr (0, [.int 0, .ref ed, .int 0])), (q4, .inr (0, [.int 0, .ref ed, .int 0])), (q7, .inr (0, [.int 0, .ref ed, .int 0])), (q10, .inr (0, [.int 0, .ref ed, .int 0])), (q13, .inr (0, [.int 0, .ref ed, .int 0])), (q16, .inr (0, [.int 0, .null, .int 0]))] H := hP
  have hD : va_D A [(bk, .inr (1, [.int 0, .int 0, .int 0, .ref q1, .ref q4, .ref q7, .ref q10, .ref q13, .null, .null, .null])), (q1, .inr (0, [.int 0, .ref ed, .int 0])), (q4, .inr (0, [.int 0, .ref ed, .int 0])), (q7, .inr (0, [.int 0, .ref ed, .int 0])), (q10, .inr (0, [.int 0, .ref ed, .int 0])), (q13, .inr (0, [.int 0, .ref ed, .int 0])), (q16, .inr (0, [.int 0, .null, .int 0]))] := hD
  refine W.widen (k := 6) (n := 18) (by omega) (by omega) ?_
  refine lv_dup hx hb dX0_init_63 rfl ?_
  have hPc := hP.sub (ws' := [(q16, .inr (0, [.int 0, .null, .int 0]))]) [6] rfl
  have hKc := hK.sub (tys' := []) [] rfl
  have hDc := hD.sub (ws' := [(q16, .inr (0, [.int 0, .null, .int 0]))]) [6] (by decide) rfl
  have hFc := va_free (wc := [(q16, .inr (0, [.int 0, .null, .int 0]))]) hD hS hA [6] rfl
  refine va_callv (va_runI (As := []) (rest := [.ref q16, .ref bk]) ⟨hx, hb, hml, hown, hts⟩ (c_ALinit l dC dI q16 ed H.size) (cwI 0 hts g_c_BookI_c_ALinit rfl rfl rfl (hts (.initialized RJx4a65c) (List.mem_of_getElem? (i := 6) rfl)) (hts (.methodLink RX0 11 yJx4a65c_init_da8c8) (List.mem_of_getElem? (i := 7) rfl)) (hts (.instanceMethod yJx4a65c_init_da8c8) (List.mem_of_getElem? (i := 8) rfl)) rfl (by decide +kernel) ⟨Nat.le_of_ble_eq_true rfl, Nat.le_of_ble_eq_true rfl⟩) ⟨fun a U g mk q => by obtain ⟨e0, e1, qP, qK, qD, qZ⟩ := q; exact ⟨e0, e1, qP, va_K.moved (u := U) (U := U.calling g mk a) (Vm.Alike.refl U.vm) qK, qD, ub_Z_c qZ⟩, fun U hU hW => ⟨rfl, by rw [hU], by rw [hU]; exact hPc, va_K.moved hW.alike hKc, hDc.weaken (fun _ _ _ _ => trivial), ub_Z_w hU hW hS hFc hZ⟩⟩ rfl rfl hl.1 rfl (lv_room (Nat.le_of_ble_eq_true rfl)) dX0_init_64 ⟨Nat.le_of_ble_eq_true rfl, Nat.le_of_ble_eq_true rfl⟩) hS (fun q _ h => hFc q h) hFc (fun u18 t H1 locs ht hvm hw hB hz1 hk1 hS => ?_)
  obtain ⟨hP1, hK1, hD1⟩ := hB
  rw [ht] at hP1
  obtain ⟨hP, hD⟩ := va_join (wr := [(bk, .inr (1, [.int 0, .int 0, .int 0, .ref q1, .ref q4, .ref q7, .ref q10, .ref q13, .null, .null, .null])), (q1, .inr (0, [.int 0, .ref ed, .int 0])), (q4, .inr (0, [.int 0, .ref ed, .int 0])), (q7, .inr (0, [.int 0, .ref ed, .int 0])), (q10, .inr (0, [.int 0, .ref ed, .int 0])), (q13, .inr (0, [.int 0, .ref ed, .int 0]))]) (w1 := [(q16, .inr (0, [.int 0, .ref ed, .int 0]))]) hP hD [6] [0, 1, 2, 3, 4, 5] rfl rfl (by decide) (by decide) hk1 hFc hP1 hD1
  generalize H1 = H at hP hS ⊢
  have hP : va_P (dC, dI) vwCl [(bk, .inr (1, [.int 0, .int 0, .int 0, .ref q1, .ref q4, .ref q7, .ref q10, .ref q13, .null, .null, .null])), (q1, .inr (0, [.int 0, .ref ed, .int 0])), (q4, .inr (0, [.int 0, .ref ed, .int 0])), (q7, .inr (0, [.int 0, .ref ed, .int 0])), (q10, .inr (0, [.int 0, .ref ed, .int 0])), (q13, .inr (0, [.int 0, .ref ed, .int 0])), (q16, .inr (0, [.int 0, .ref ed, .int 0]))] H := hP
  have hD : va_D A [(bk, .inr (1, [.int 0, .int 0, .int 0, .ref q1, .ref q4, .ref q7, .ref q10, .ref q13, .null, .null, .null])), (q1, .inr (0, [.int 0, .ref ed, .int 0])), (q4, .inr (0, [.int 0, .ref ed, .int 0])), (q7, .inr (0, [.int 0, .ref ed, .int 0])), (q10, .inr (0, [.int 0, .ref ed, .int 0])), (q13, .inr (0, [.int 0, .ref ed, .int 0])), (q16, .inr (0, [.int 0, .ref ed, .int 0]))] := hD
  refine W.widen (k := 6) (n := 18) (by omega) (by omega) ?_
  refine va_putF (D := (dC, dI)) (ci := 1) (v := .ref q16) (ty := .object "java/util/ArrayList") (C := RX0) (T := TX0) (N := 11) hx hb hts iw_c_BookI_X0 tyX0 tyX0_ok nmX0 hown hK hP hD hS 0 rfl rfl 8 (by decide) (hts (.fieldLink RX0 30 "UnlikeBoats$Book" "protests" "Ljava/util/ArrayList;") (List.mem_of_getElem? (i := 14) rfl)) (fun _ h9 => h9) rfl hin rfl (by decide +kernel) rfl rfl (Nat.le_of_ble_eq_true rfl) dX0_init_67 (fun H locs hP hD hS => ?_)
  have hP : va_P (dC, dI) vwCl [(bk, .inr (1, [.int 0, .int 0, .int 0, .ref q1, .ref q4, .ref q7, .ref q10, .ref q13, .ref q16, .null, .null])), (q1, .inr (0, [.int 0, .ref ed, .int 0])), (q4, .inr (0, [.int 0, .ref ed, .int 0])), (q7, .inr (0, [.int 0, .ref ed, .int 0])), (q10, .inr (0, [.int 0, .ref ed, .int 0])), (q13, .inr (0, [.int 0, .ref ed, .int 0])), (q16, .inr (0, [.int 0, .ref ed, .int 0]))] H := hP
  have hD : va_D A [(bk, .inr (1, [.int 0, .int 0, .int 0, .ref q1, .ref q4, .ref q7, .ref q10, .ref q13, .ref q16, .null, .null])), (q1, .inr (0, [.int 0, .ref ed, .int 0])), (q4, .inr (0, [.int 0, .ref ed, .int 0])), (q7, .inr (0, [.int 0, .ref ed, .int 0])), (q10, .inr (0, [.int 0, .ref ed, .int 0])), (q13, .inr (0, [.int 0, .ref ed, .int 0])), (q16, .inr (0, [.int 0, .ref ed, .int 0]))] := hD
  refine lv_aload_n hx hb dX0_init_70 rfl (lv_at hl 0 rfl) ?_
  obtain ⟨qs, hqR, hQ⟩ := hL
  refine va_ldcS hx hb hown hqR dX0_init_71 ?_
  have hPc := hP.sub (ws' := []) [] rfl
  have hKc := hK.sub (tys' := []) [] rfl
  refine va_calli (va_runV (As := []) (rest := [.ref bk]) ⟨hx, hb, hml, hown, hts⟩ (c_strlen l dC dI qs) (cwV 0 hts g_c_BookI_c_strlen_35 rfl rfl rfl (by decide +kernel) ⟨Nat.le_of_ble_eq_true rfl, Nat.le_of_ble_eq_true rfl⟩) ⟨fun a U g mk q => by obtain ⟨e0, qP, qK, qQ⟩ := q; exact ⟨e0, qP, va_K.moved (u := U) (U := U.calling g mk a) (Vm.Alike.refl U.vm) qK, ub_Q_c qQ⟩, va_Orecv hQ.1 hS, fun U hU hW => ⟨rfl, by rw [hU]; exact hPc, va_K.moved hW.alike hKc, ub_Q_w hU hW hS hQ⟩⟩ rfl rfl hl.1 rfl (lv_room (Nat.le_of_ble_eq_true rfl)) dX0_init_73 ⟨Nat.le_of_ble_eq_true rfl, Nat.le_of_ble_eq_true rfl⟩) hS (fun _ _ h => h.elim) (fun _ h => h.elim) (fun r19 u20 t H1 locs ht hvm hw hB hz1 hk1 hS => ?_)
  have hP := ub_keep hP hk1
  generalize H1 = H at hP hS ⊢
  obtain rfl : (14 : Int32) = r19 := hw.symm
  refine va_newa (atype := .int) (ty := .int) (N' := 14) (a0 := (14, .inl (fun _ => (0 : Int32)))) hx hb (hts (.arrayClass .int) (List.mem_of_getElem? (i := 19) rfl)) rfl hK hP hD hS hA (fun _ => rfl) (by decide) (by decide) (Nat.le_of_ble_eq_true rfl) (Nat.le_of_ble_eq_true rfl) (Nat.le_of_ble_eq_true rfl) dX0_init_76 (fun q21 kq21 H hK hP hD hS => ?_)
  have hK : va_K (dC, dI) vwCl [(kq21, .int)] s := hK
  have hP : va_P (dC, dI) vwCl [(bk, .inr (1, [.int 0, .int 0, .int 0, .ref q1, .ref q4, .ref q7, .ref q10, .ref q13, .ref q16, .null, .null])), (q1, .inr (0, [.int 0, .ref ed, .int 0])), (q4, .inr (0, [.int 0, .ref ed, .int 0])), (q7, .inr (0, [.int 0, .ref ed, .int 0])), (q10, .inr (0, [.int 0, .ref ed, .int 0])), (q13, .inr (0, [.int 0, .ref ed, .int 0])), (q16, .inr (0, [.int 0, .ref ed, .int 0])), (q21, .inl (kq21, 14, .inl (fun _ => (0 : Int32))))] H := hP
  have hD : va_D A [(bk, .inr (1, [.int 0, .int 0, .int 0, .ref q1, .ref q4, .ref q7, .ref q10, .ref q13, .ref q16, .null, .null])), (q1, .inr (0, [.int 0, .ref ed, .int 0])), (q4, .inr (0, [.int 0, .ref ed, .int 0])), (q7, .inr (0, [.int 0, .ref ed, .int 0])), (q10, .inr (0, [.int 0, .ref ed, .int 0])), (q13, .inr (0, [.int 0, .ref ed, .int 0])), (q16, .inr (0, [.int 0, .ref ed, .int 0])), (q21, .inl (kq21, 14, .inl (fun _ => (0 : Int32))))] := hD
  refine W.widen (k := 7) (n := 32) (by omega) (by omega) ?_
  refine va_putF (D := (dC, dI)) (ci := 1) (v := .ref q21) (ty := .array .int) (C := RX0) (T := TX0) (N := 11) hx hb hts iw_c_BookI_X0 tyX0 tyX0_ok nmX0 hown hK hP hD hS 0 rfl rfl 9 (by decide) (hts (.fieldLink RX0 41 "UnlikeBoats$Book" "letters" "[I") (List.mem_of_getElem? (i := 20) rfl)) (fun _ h9 => h9) rfl hin rfl (by decide +kernel) rfl rfl (Nat.le_of_ble_eq_true rfl) dX0_init_78 (fun H locs hP hD hS => ?_)
  have hP : va_P (dC, dI) vwCl [(bk, .inr (1, [.int 0, .int 0, .int 0, .ref q1, .ref q4, .ref q7, .ref q10, .ref q13, .ref q16, .ref q21, .null])), (q1, .inr (0, [.int 0, .ref ed, .int 0])), (q4, .inr (0, [.int 0, .ref ed, .int 0])), (q7, .inr (0, [.int 0, .ref ed, .int 0])), (q10, .inr (0, [.int 0, .ref ed, .int 0])), (q13, .inr (0, [.int 0, .ref ed, .int 0])), (q16, .inr (0, [.int 0, .ref ed, .int 0])), (q21, .inl (kq21, 14, .inl (fun _ => (0 : Int32))))] H := hP
  have hD : va_D A [(bk, .inr (1, [.int 0, .int 0, .int 0, .ref q1, .ref q4, .ref q7, .ref q10, .ref q13, .ref q16, .ref q21, .null])), (q1, .inr (0, [.int 0, .ref ed, .int 0])), (q4, .inr (0, [.int 0, .ref ed, .int 0])), (q7, .inr (0, [.int 0, .ref ed, .int 0])), (q10, .inr (0, [.int 0, .ref ed, .int 0])), (q13, .inr (0, [.int 0, .ref ed, .int 0])), (q16, .inr (0, [.int 0, .ref ed, .int 0])), (q21, .inl (kq21, 14, .inl (fun _ => (0 : Int32))))] := hD
  refine lv_aload_n hx hb dX0_init_81 rfl (lv_at hl 0 rfl) ?_
  refine lv_sipush (v := 200) hx hb dX0_init_82 (by decide) ?_
  refine va_newa (atype := .int) (ty := .int) (N' := 200) (a0 := (200, .inl (fun _ => (0 : Int32)))) hx hb (hts (.arrayClass .int) (List.mem_of_getElem? (i := 19) rfl)) rfl hK hP hD hS hA (fun _ => rfl) (by decide) (by decide) (Nat.le_of_ble_eq_true rfl) (Nat.le_of_ble_eq_true rfl) (Nat.le_of_ble_eq_true rfl) dX0_init_85 (fun q22 kq22 H hK hP hD hS => ?_)
  have hK : va_K (dC, dI) vwCl [(kq21, .int), (kq22, .int)] s := hK
  have hP : va_P (dC, dI) vwCl [(bk, .inr (1, [.int 0, .int 0, .int 0, .ref q1, .ref q4, .ref q7, .ref q10, .ref q13, .ref q16, .ref q21, .null])), (q1, .inr (0, [.int 0, .ref ed, .int 0])), (q4, .inr (0, [.int 0, .ref ed, .int 0])), (q7, .inr (0, [.int 0, .ref ed, .int 0])), (q10, .inr (0, [.int 0, .ref ed, .int 0])), (q13, .inr (0, [.int 0, .ref ed, .int 0])), (q16, .inr (0, [.int 0, .ref ed, .int 0])), (q21, .inl (kq21, 14, .inl (fun _ => (0 : Int32)))), (q22, .inl (kq22, 200, .inl (fun _ => (0 : Int32))))] H := hP
  have hD : va_D A [(bk, .inr (1, [.int 0, .int 0, .int 0, .ref q1, .ref q4, .ref q7, .ref q10, .ref q13, .ref q16, .ref q21, .null])), (q1, .inr (0, [.int 0, .ref ed, .int 0])), (q4, .inr (0, [.int 0, .ref ed, .int 0])), (q7, .inr (0, [.int 0, .ref ed, .int 0])), (q10, .inr (0, [.int 0, .ref ed, .int 0])), (q13, .inr (0, [.int 0, .ref ed, .int 0])), (q16, .inr (0, [.int 0, .ref ed, .int 0])), (q21, .inl (kq21, 14, .inl (fun _ => (0 : Int32)))), (q22, .inl (kq22, 200, .inl (fun _ => (0 : Int32))))] := hD
  refine W.widen (k := 8) (n := 232) (by omega) (by omega) ?_
  obtain rfl : kq21 = kq22 := ub_sa_int hK 0 1 rfl rfl
  have hK := hK.sub (tys' := [(kq21, .int)]) [0] rfl
  refine va_putF (D := (dC, dI)) (ci := 1) (v := .ref q22) (ty := .array .int) (C := RX0) (T := TX0) (N := 11) hx hb hts iw_c_BookI_X0 tyX0 tyX0_ok nmX0 hown hK hP hD hS 0 rfl rfl 10 (by decide) (hts (.fieldLink RX0 45 "UnlikeBoats$Book" "stack" "[I") (List.mem_of_getElem? (i := 21) rfl)) (fun _ h9 => h9) rfl hin rfl (by decide +kernel) rfl rfl (Nat.le_of_ble_eq_true rfl) dX0_init_87 (fun H locs hP hD hS => ?_)
  have hP : va_P (dC, dI) vwCl [(bk, .inr (1, [.int 0, .int 0, .int 0, .ref q1, .ref q4, .ref q7, .ref q10, .ref q13, .ref q16, .ref q21, .ref q22])), (q1, .inr (0, [.int 0, .ref ed, .int 0])), (q4, .inr (0, [.int 0, .ref ed, .int 0])), (q7, .inr (0, [.int 0, .ref ed, .int 0])), (q10, .inr (0, [.int 0, .ref ed, .int 0])), (q13, .inr (0, [.int 0, .ref ed, .int 0])), (q16, .inr (0, [.int 0, .ref ed, .int 0])), (q21, .inl (kq21, 14, .inl (fun _ => (0 : Int32)))), (q22, .inl (kq21, 200, .inl (fun _ => (0 : Int32))))] H := hP
  have hD : va_D A [(bk, .inr (1, [.int 0, .int 0, .int 0, .ref q1, .ref q4, .ref q7, .ref q10, .ref q13, .ref q16, .ref q21, .ref q22])), (q1, .inr (0, [.int 0, .ref ed, .int 0])), (q4, .inr (0, [.int 0, .ref ed, .int 0])), (q7, .inr (0, [.int 0, .ref ed, .int 0])), (q10, .inr (0, [.int 0, .ref ed, .int 0])), (q13, .inr (0, [.int 0, .ref ed, .int 0])), (q16, .inr (0, [.int 0, .ref ed, .int 0])), (q21, .inl (kq21, 14, .inl (fun _ => (0 : Int32)))), (q22, .inl (kq21, 200, .inl (fun _ => (0 : Int32))))] := hD
  have hP := hP.sub (ws' := [(bk, .inr (1, [.int 0, .int 0, .int 0, .ref q1, .ref q4, .ref q7, .ref q10, .ref q13, .ref q16, .ref q21, .ref q22])), (q1, .inr (0, [.int 0, .ref ed, .int 0])), (q4, .inr (0, [.int 0, .ref ed, .int 0])), (q7, .inr (0, [.int 0, .ref ed, .int 0])), (q10, .inr (0, [.int 0, .ref ed, .int 0])), (q13, .inr (0, [.int 0, .ref ed, .int 0])), (q16, .inr (0, [.int 0, .ref ed, .int 0])), (q21, .inl (kq21, 14, .inl (fun _ => (0 : Int32))))]) [0, 1, 2, 3, 4, 5, 6, 7] rfl
  have hD := hD.sub (ws' := [(bk, .inr (1, [.int 0, .int 0, .int 0, .ref q1, .ref q4, .ref q7, .ref q10, .ref q13, .ref q16, .ref q21, .ref q22])), (q1, .inr (0, [.int 0, .ref ed, .int 0])), (q4, .inr (0, [.int 0, .ref ed, .int 0])), (q7, .inr (0, [.int 0, .ref ed, .int 0])), (q10, .inr (0, [.int 0, .ref ed, .int 0])), (q13, .inr (0, [.int 0, .ref ed, .int 0])), (q16, .inr (0, [.int 0, .ref ed, .int 0])), (q21, .inl (kq21, 14, .inl (fun _ => (0 : Int32))))]) [0, 1, 2, 3, 4, 5, 6, 7] (by decide) rfl
  have hP9 := hP.sub (ws' := [(bk, .inr (1, [.int 0, .int 0, .int 0, .ref q1, .ref q4, .ref q7, .ref q10, .ref q13, .ref q16, .ref q21, .ref q22])), (q1, .inr (0, [.int 0, .ref ed, .int 0])), (q4, .inr (0, [.int 0, .ref ed, .int 0])), (q7, .inr (0, [.int 0, .ref ed, .int 0])), (q10, .inr (0, [.int 0, .ref ed, .int 0])), (q13, .inr (0, [.int 0, .ref ed, .int 0])), (q16, .inr (0, [.int 0, .ref ed, .int 0])), (q21, .inl (kq21, 14, .inl (fun _ => (0 : Int32))))]) [0, 1, 2, 3, 4, 5, 6, 7] rfl
  have hD9 := hD.sub (ws' := [(bk, .inr (1, [.int 0, .int 0, .int 0, .ref q1, .ref q4, .ref q7, .ref q10, .ref q13, .ref q16, .ref q21, .ref q22])), (q1, .inr (0, [.int 0, .ref ed, .int 0])), (q4, .inr (0, [.int 0, .ref ed, .int 0])), (q7, .inr (0, [.int 0, .ref ed, .int 0])), (q10, .inr (0, [.int 0, .ref ed, .int 0])), (q13, .inr (0, [.int 0, .ref ed, .int 0])), (q16, .inr (0, [.int 0, .ref ed, .int 0])), (q21, .inl (kq21, 14, .inl (fun _ => (0 : Int32))))]) [0, 1, 2, 3, 4, 5, 6, 7] (by decide) rfl
  have hK9 := hK.sub (tys' := [(kq21, .int)]) [0] rfl
  exact W.vret hx hb hr (fun t ht hW => ⟨⟨(q1, q4, q7, q10, q13, q16, q21, q22, kq21), rfl, trivial, (by rw [ht]; exact hP9), va_K.moved hW.alike hK9, hD9⟩, hS.F ht⟩) hS.2.2 dX0_init_90
def A_c_TapeI : List Cond := [.instanceMethod objectInit, .code objectInit ⟨#[0xb1]⟩ 1 none, .methodLink RX10 3 objectInit, .arrayClass .int, .fieldLink RX10 9 "UnlikeBoats$Tape" "bytes" "[I", .fieldLink RX10 15 "UnlikeBoats$Tape" "steps" "[I", .fieldLink RX10 18 "UnlikeBoats$Tape" "labels" "[I", .fieldLink RX10 21 "UnlikeBoats$Tape" "begins" "[I", .fieldLink RX10 24 "UnlikeBoats$Tape" "sums" "[I"]
def v_c_TapeI : List Cond := .code yX10_init cX10_init 1 none :: (A_c_TapeI ++ wsX100)
theorem iw_c_TapeI_X10 : ∀ w ∈ wsX100, w ∈ v_c_TapeI := fun _ h => List.mem_cons_of_mem _ (List.mem_append_right _ (h))
set_option maxHeartbeats 4000000 in
set_option maxRecDepth 100000 in
theorem c_TapeI (l : Launch) (dC : Nat → ClassId) (dI : Nat → Nat → Nat) (tp : Nat) (sz : Nat)  : Met l yX10_init v_c_TapeI ({ frames := 1, cells := 5, slots := 554, locals := 40 }) (va_Pc [.ref tp] (fun U => U.heap.size = sz ∧ va_P (dC, dI) vwCl [(tp, .inr (11, [.null, .int 0, .int 0, .int 0, .null, .int 0, .null, .null, .null, .int 0]))] U.heap ∧ va_K (dC, dI) vwCl [] U ∧ va_D (fun _ => True) [(tp, .inr (11, [.null, .int 0, .int 0, .int 0, .null, .int 0, .null, .null, .null, .int 0]))])) (va_Qv (S := Nat × Nat × Nat × Nat × Nat × ClassId) (fun _ => True) (fun u t => match u with | (tby, tst, tla, tbe, tsu, cI) => va_P (dC, dI) vwCl [(tp, .inr (11, [.ref tby, .int 0, .int 0, .int 0, .ref tst, .int 0, .ref tla, .ref tbe, .ref tsu, .int 0])), (tby, .inl (cI, 200, .inl (fun _ => (0 : Int32)))), (tbe, .inl (cI, 52, .inl (fun _ => (0 : Int32))))] t.heap ∧ va_K (dC, dI) vwCl [(cI, .int)] t ∧ va_D (va_A [(tp, .inr (11, [.null, .int 0, .int 0, .int 0, .null, .int 0, .null, .null, .null, .int 0]))] sz) [(tp, .inr (11, [.ref tby, .int 0, .int 0, .int 0, .ref tst, .int 0, .ref tla, .ref tbe, .ref tsu, .int 0])), (tby, .inl (cI, 200, .inl (fun _ => (0 : Int32)))), (tbe, .inl (cI, 52, .inl (fun _ => (0 : Int32))))]) (va_A [(tp, .inr (11, [.null, .int 0, .int 0, .int 0, .null, .int 0, .null, .null, .null, .int 0]))] sz)) 5 554 (va_A [(tp, .inr (11, [.null, .int 0, .int 0, .int 0, .null, .int 0, .null, .null, .null, .int 0]))] sz) := by
  refine Met.ofW (cc := cX10_init) (maxL := 1) (ret := none) (by decide) rfl ?_
  intro p e s m args below meth c s₁ B hml hv
  obtain ⟨rfl, hsz, hP, hK, hD0⟩ := hv
  have hx := B.exec
  have hb := B.bytes
  have hr := B.returns
  have hts := atoms_spec (ws := v_c_TapeI) B.pre
  have hown : s.vm.findClass RX10 = some m.cls := findClass_of_methodNamed B.named
  have hlocks := B.notSynchronized
  have hin : meth.name = "<init>" := (name_of_methodNamed B.named B.method).1
  subst hsz
  have hD := hD0.self (sz := s.heap.size)
  generalize hAe : va_A [(tp, .inr (11, [.null, .int 0, .int 0, .int 0, .null, .int 0, .null, .null, .null, .int 0]))] s.heap.size = A at hD ⊢
  have hA : ∀ q : Nat, s.heap.size ≤ q → A q := fun q h => by rw [← hAe]; exact Or.inr h
  have hS : va_S A s.heap s.heap [] := va_S.rf
  have hP : va_P (dC, dI) vwCl [(tp, .inr (11, [.null, .int 0, .int 0, .int 0, .null, .int 0, .null, .null, .null, .int 0]))] s.heap := hP
  have hl := lv_entry ([.ref tp]) (n := 1) (Nat.le_of_ble_eq_true rfl)
  rw [lg_entry_eq]
  generalize (lg_sl ([.ref tp]) ++ List.replicate (1 - (lg_sl ([.ref tp])).length) Slot.unset).toArray = ls at hl ⊢
  have hl : lv_has ls 1 [(0, .ref tp)] := hl
  refine lv_aload_n hx hb dX10_init_0 rfl (lv_at hl 0 rfl) ?_
  refine W.objInit hx hb hown (hts (.methodLink RX10 3 objectInit) (List.mem_of_getElem? (i := 3) rfl)) (hts (.instanceMethod objectInit) (List.mem_of_getElem? (i := 1) rfl)) (hts (.code objectInit ⟨#[0xb1]⟩ 1 none) (List.mem_of_getElem? (i := 2) rfl)) rfl (by rw [hml]; exact hl.1) rfl dX10_init_1 (Nat.le_of_ble_eq_true rfl) (Nat.le_of_ble_eq_true rfl) ?_
  refine W.eq (g2 := F0 m 4 ls []) rfl ?_
  refine lv_aload_n hx hb dX10_init_4 rfl (lv_at hl 0 rfl) ?_
  refine lv_sipush (v := 200) hx hb dX10_init_5 (by decide) ?_
  refine va_newa (atype := .int) (ty := .int) (N' := 200) (a0 := (200, .inl (fun _ => (0 : Int32)))) hx hb (hts (.arrayClass .int) (List.mem_of_getElem? (i := 4) rfl)) rfl hK hP hD hS hA (fun _ => rfl) (by decide) (by decide) (Nat.le_of_ble_eq_true rfl) (Nat.le_of_ble_eq_true rfl) (Nat.le_of_ble_eq_true rfl) dX10_init_8 (fun q1 kq1 H hK hP hD hS => ?_)
  have hK : va_K (dC, dI) vwCl [(kq1, .int)] s := hK
  have hP : va_P (dC, dI) vwCl [(tp, .inr (11, [.null, .int 0, .int 0, .int 0, .null, .int 0, .null, .null, .null, .int 0])), (q1, .inl (kq1, 200, .inl (fun _ => (0 : Int32))))] H := hP
  have hD : va_D A [(tp, .inr (11, [.null, .int 0, .int 0, .int 0, .null, .int 0, .null, .null, .null, .int 0])), (q1, .inl (kq1, 200, .inl (fun _ => (0 : Int32))))] := hD
  refine W.widen (k := 1) (n := 200) (by omega) (by omega) ?_
  refine va_putF (D := (dC, dI)) (ci := 11) (v := .ref q1) (ty := .array .int) (C := RX10) (T := TX10) (N := 10) hx hb hts iw_c_TapeI_X10 tyX10 tyX10_ok nmX10 hown hK hP hD hS 0 rfl rfl 0 (by decide) (hts (.fieldLink RX10 9 "UnlikeBoats$Tape" "bytes" "[I") (List.mem_of_getElem? (i := 5) rfl)) (fun _ h9 => h9) rfl hin rfl (by decide +kernel) rfl rfl (Nat.le_of_ble_eq_true rfl) dX10_init_10 (fun H locs hP hD hS => ?_)
  have hP : va_P (dC, dI) vwCl [(tp, .inr (11, [.ref q1, .int 0, .int 0, .int 0, .null, .int 0, .null, .null, .null, .int 0])), (q1, .inl (kq1, 200, .inl (fun _ => (0 : Int32))))] H := hP
  have hD : va_D A [(tp, .inr (11, [.ref q1, .int 0, .int 0, .int 0, .null, .int 0, .null, .null, .null, .int 0])), (q1, .inl (kq1, 200, .inl (fun _ => (0 : Int32))))] := hD
  refine lv_aload_n hx hb dX10_init_13 rfl (lv_at hl 0 rfl) ?_
  refine lv_sipush (v := 200) hx hb dX10_init_14 (by decide) ?_
  refine va_newa (atype := .int) (ty := .int) (N' := 200) (a0 := (200, .inl (fun _ => (0 : Int32)))) hx hb (hts (.arrayClass .int) (List.mem_of_getElem? (i := 4) rfl)) rfl hK hP hD hS hA (fun _ => rfl) (by decide) (by decide) (Nat.le_of_ble_eq_true rfl) (Nat.le_of_ble_eq_true rfl) (Nat.le_of_ble_eq_true rfl) dX10_init_17 (fun q2 kq2 H hK hP hD hS => ?_)
  have hK : va_K (dC, dI) vwCl [(kq1, .int), (kq2, .int)] s := hK
  have hP : va_P (dC, dI) vwCl [(tp, .inr (11, [.ref q1, .int 0, .int 0, .int 0, .null, .int 0, .null, .null, .null, .int 0])), (q1, .inl (kq1, 200, .inl (fun _ => (0 : Int32)))), (q2, .inl (kq2, 200, .inl (fun _ => (0 : Int32))))] H := hP
  have hD : va_D A [(tp, .inr (11, [.ref q1, .int 0, .int 0, .int 0, .null, .int 0, .null, .null, .null, .int 0])), (q1, .inl (kq1, 200, .inl (fun _ => (0 : Int32)))), (q2, .inl (kq2, 200, .inl (fun _ => (0 : Int32))))] := hD
  refine W.widen (k := 2) (n := 400) (by omega) (by omega) ?_
  obtain rfl : kq1 = kq2 := ub_sa_int hK 0 1 rfl rfl
  have hK := hK.sub (tys' := [(kq1, .int)]) [0] rfl
  refine va_putF (D := (dC, dI)) (ci := 11) (v := .ref q2) (ty := .array .int) (C := RX10) (T := TX10) (N := 10) hx hb hts iw_c_TapeI_X10 tyX10 tyX10_ok nmX10 hown hK hP hD hS 0 rfl rfl 4 (by decide) (hts (.fieldLink RX10 15 "UnlikeBoats$Tape" "steps" "[I") (List.mem_of_getElem? (i := 6) rfl)) (fun _ h9 => h9) rfl hin rfl (by decide +kernel) rfl rfl (Nat.le_of_ble_eq_true rfl) dX10_init_19 (fun H locs hP hD hS => ?_)
  have hP : va_P (dC, dI) vwCl [(tp, .inr (11, [.ref q1, .int 0, .int 0, .int 0, .ref q2, .int 0, .null, .null, .null, .int 0])), (q1, .inl (kq1, 200, .inl (fun _ => (0 : Int32)))), (q2, .inl (kq1, 200, .inl (fun _ => (0 : Int32))))] H := hP
  have hD : va_D A [(tp, .inr (11, [.ref q1, .int 0, .int 0, .int 0, .ref q2, .int 0, .null, .null, .null, .int 0])), (q1, .inl (kq1, 200, .inl (fun _ => (0 : Int32)))), (q2, .inl (kq1, 200, .inl (fun _ => (0 : Int32))))] := hD
  have hP := hP.sub (ws' := [(tp, .inr (11, [.ref q1, .int 0, .int 0, .int 0, .ref q2, .int 0, .null, .null, .null, .int 0])), (q1, .inl (kq1, 200, .inl (fun _ => (0 : Int32))))]) [0, 1] rfl
  have hD := hD.sub (ws' := [(tp, .inr (11, [.ref q1, .int 0, .int 0, .int 0, .ref q2, .int 0, .null, .null, .null, .int 0])), (q1, .inl (kq1, 200, .inl (fun _ => (0 : Int32))))]) [0, 1] (by decide) rfl
  refine lv_aload_n hx hb dX10_init_22 rfl (lv_at hl 0 rfl) ?_
  refine lv_bipush (v := 51) hx hb dX10_init_23 (by decide) ?_
  refine va_newa (atype := .int) (ty := .int) (N' := 51) (a0 := (51, .inl (fun _ => (0 : Int32)))) hx hb (hts (.arrayClass .int) (List.mem_of_getElem? (i := 4) rfl)) rfl hK hP hD hS hA (fun _ => rfl) (by decide) (by decide) (Nat.le_of_ble_eq_true rfl) (Nat.le_of_ble_eq_true rfl) (Nat.le_of_ble_eq_true rfl) dX10_init_25 (fun q3 kq3 H hK hP hD hS => ?_)
  have hK : va_K (dC, dI) vwCl [(kq1, .int), (kq3, .int)] s := hK
  have hP : va_P (dC, dI) vwCl [(tp, .inr (11, [.ref q1, .int 0, .int 0, .int 0, .ref q2, .int 0, .null, .null, .null, .int 0])), (q1, .inl (kq1, 200, .inl (fun _ => (0 : Int32)))), (q3, .inl (kq3, 51, .inl (fun _ => (0 : Int32))))] H := hP
  have hD : va_D A [(tp, .inr (11, [.ref q1, .int 0, .int 0, .int 0, .ref q2, .int 0, .null, .null, .null, .int 0])), (q1, .inl (kq1, 200, .inl (fun _ => (0 : Int32)))), (q3, .inl (kq3, 51, .inl (fun _ => (0 : Int32))))] := hD
  refine W.widen (k := 3) (n := 451) (by omega) (by omega) ?_
  obtain rfl : kq1 = kq3 := ub_sa_int hK 0 1 rfl rfl
  have hK := hK.sub (tys' := [(kq1, .int)]) [0] rfl
  refine va_putF (D := (dC, dI)) (ci := 11) (v := .ref q3) (ty := .array .int) (C := RX10) (T := TX10) (N := 10) hx hb hts iw_c_TapeI_X10 tyX10 tyX10_ok nmX10 hown hK hP hD hS 0 rfl rfl 6 (by decide) (hts (.fieldLink RX10 18 "UnlikeBoats$Tape" "labels" "[I") (List.mem_of_getElem? (i := 7) rfl)) (fun _ h9 => h9) rfl hin rfl (by decide +kernel) rfl rfl (Nat.le_of_ble_eq_true rfl) dX10_init_27 (fun H locs hP hD hS => ?_)
  have hP : va_P (dC, dI) vwCl [(tp, .inr (11, [.ref q1, .int 0, .int 0, .int 0, .ref q2, .int 0, .ref q3, .null, .null, .int 0])), (q1, .inl (kq1, 200, .inl (fun _ => (0 : Int32)))), (q3, .inl (kq1, 51, .inl (fun _ => (0 : Int32))))] H := hP
  have hD : va_D A [(tp, .inr (11, [.ref q1, .int 0, .int 0, .int 0, .ref q2, .int 0, .ref q3, .null, .null, .int 0])), (q1, .inl (kq1, 200, .inl (fun _ => (0 : Int32)))), (q3, .inl (kq1, 51, .inl (fun _ => (0 : Int32))))] := hD
  have hP := hP.sub (ws' := [(tp, .inr (11, [.ref q1, .int 0, .int 0, .int 0, .ref q2, .int 0, .ref q3, .null, .null, .int 0])), (q1, .inl (kq1, 200, .inl (fun _ => (0 : Int32))))]) [0, 1] rfl
  have hD := hD.sub (ws' := [(tp, .inr (11, [.ref q1, .int 0, .int 0, .int 0, .ref q2, .int 0, .ref q3, .null, .null, .int 0])), (q1, .inl (kq1, 200, .inl (fun _ => (0 : Int32))))]) [0, 1] (by decide) rfl
  refine lv_aload_n hx hb dX10_init_30 rfl (lv_at hl 0 rfl) ?_
  refine lv_bipush (v := 52) hx hb dX10_init_31 (by decide) ?_
  refine va_newa (atype := .int) (ty := .int) (N' := 52) (a0 := (52, .inl (fun _ => (0 : Int32)))) hx hb (hts (.arrayClass .int) (List.mem_of_getElem? (i := 4) rfl)) rfl hK hP hD hS hA (fun _ => rfl) (by decide) (by decide) (Nat.le_of_ble_eq_true rfl) (Nat.le_of_ble_eq_true rfl) (Nat.le_of_ble_eq_true rfl) dX10_init_33 (fun q4 kq4 H hK hP hD hS => ?_)
  have hK : va_K (dC, dI) vwCl [(kq1, .int), (kq4, .int)] s := hK
  have hP : va_P (dC, dI) vwCl [(tp, .inr (11, [.ref q1, .int 0, .int 0, .int 0, .ref q2, .int 0, .ref q3, .null, .null, .int 0])), (q1, .inl (kq1, 200, .inl (fun _ => (0 : Int32)))), (q4, .inl (kq4, 52, .inl (fun _ => (0 : Int32))))] H := hP
  have hD : va_D A [(tp, .inr (11, [.ref q1, .int 0, .int 0, .int 0, .ref q2, .int 0, .ref q3, .null, .null, .int 0])), (q1, .inl (kq1, 200, .inl (fun _ => (0 : Int32)))), (q4, .inl (kq4, 52, .inl (fun _ => (0 : Int32))))] := hD
  refine W.widen (k := 4) (n := 503) (by omega) (by omega) ?_
  obtain rfl : kq1 = kq4 := ub_sa_int hK 0 1 rfl rfl
  have hK := hK.sub (tys' := [(kq1, .int)]) [0] rfl
  refine va_putF (D := (dC, dI)) (ci := 11) (v := .ref q4) (ty := .array .int) (C := RX10) (T := TX10) (N := 10) hx hb hts iw_c_TapeI_X10 tyX10 tyX10_ok nmX10 hown hK hP hD hS 0 rfl rfl 7 (by decide) (hts (.fieldLink RX10 21 "UnlikeBoats$Tape" "begins" "[I") (List.mem_of_getElem? (i := 8) rfl)) (fun _ h9 => h9) rfl hin rfl (by decide +kernel) rfl rfl (Nat.le_of_ble_eq_true rfl) dX10_init_35 (fun H locs hP hD hS => ?_)
  have hP : va_P (dC, dI) vwCl [(tp, .inr (11, [.ref q1, .int 0, .int 0, .int 0, .ref q2, .int 0, .ref q3, .ref q4, .null, .int 0])), (q1, .inl (kq1, 200, .inl (fun _ => (0 : Int32)))), (q4, .inl (kq1, 52, .inl (fun _ => (0 : Int32))))] H := hP
  have hD : va_D A [(tp, .inr (11, [.ref q1, .int 0, .int 0, .int 0, .ref q2, .int 0, .ref q3, .ref q4, .null, .int 0])), (q1, .inl (kq1, 200, .inl (fun _ => (0 : Int32)))), (q4, .inl (kq1, 52, .inl (fun _ => (0 : Int32))))] := hD
  refine lv_aload_n hx hb dX10_init_38 rfl (lv_at hl 0 rfl) ?_
  refine lv_bipush (v := 51) hx hb dX10_init_39 (by decide) ?_
  refine va_newa (atype := .int) (ty := .int) (N' := 51) (a0 := (51, .inl (fun _ => (0 : Int32)))) hx hb (hts (.arrayClass .int) (List.mem_of_getElem? (i := 4) rfl)) rfl hK hP hD hS hA (fun _ => rfl) (by decide) (by decide) (Nat.le_of_ble_eq_true rfl) (Nat.le_of_ble_eq_true rfl) (Nat.le_of_ble_eq_true rfl) dX10_init_41 (fun q5 kq5 H hK hP hD hS => ?_)
  have hK : va_K (dC, dI) vwCl [(kq1, .int), (kq5, .int)] s := hK
  have hP : va_P (dC, dI) vwCl [(tp, .inr (11, [.ref q1, .int 0, .int 0, .int 0, .ref q2, .int 0, .ref q3, .ref q4, .null, .int 0])), (q1, .inl (kq1, 200, .inl (fun _ => (0 : Int32)))), (q4, .inl (kq1, 52, .inl (fun _ => (0 : Int32)))), (q5, .inl (kq5, 51, .inl (fun _ => (0 : Int32))))] H := hP
  have hD : va_D A [(tp, .inr (11, [.ref q1, .int 0, .int 0, .int 0, .ref q2, .int 0, .ref q3, .ref q4, .null, .int 0])), (q1, .inl (kq1, 200, .inl (fun _ => (0 : Int32)))), (q4, .inl (kq1, 52, .inl (fun _ => (0 : Int32)))), (q5, .inl (kq5, 51, .inl (fun _ => (0 : Int32))))] := hD
  refine W.widen (k := 5) (n := 554) (by omega) (by omega) ?_
  obtain rfl : kq1 = kq5 := ub_sa_int hK 0 1 rfl rfl
  have hK := hK.sub (tys' := [(kq1, .int)]) [0] rfl
  refine va_putF (D := (dC, dI)) (ci := 11) (v := .ref q5) (ty := .array .int) (C := RX10) (T := TX10) (N := 10) hx hb hts iw_c_TapeI_X10 tyX10 tyX10_ok nmX10 hown hK hP hD hS 0 rfl rfl 8 (by decide) (hts (.fieldLink RX10 24 "UnlikeBoats$Tape" "sums" "[I") (List.mem_of_getElem? (i := 9) rfl)) (fun _ h9 => h9) rfl hin rfl (by decide +kernel) rfl rfl (Nat.le_of_ble_eq_true rfl) dX10_init_43 (fun H locs hP hD hS => ?_)
  have hP : va_P (dC, dI) vwCl [(tp, .inr (11, [.ref q1, .int 0, .int 0, .int 0, .ref q2, .int 0, .ref q3, .ref q4, .ref q5, .int 0])), (q1, .inl (kq1, 200, .inl (fun _ => (0 : Int32)))), (q4, .inl (kq1, 52, .inl (fun _ => (0 : Int32)))), (q5, .inl (kq1, 51, .inl (fun _ => (0 : Int32))))] H := hP
  have hD : va_D A [(tp, .inr (11, [.ref q1, .int 0, .int 0, .int 0, .ref q2, .int 0, .ref q3, .ref q4, .ref q5, .int 0])), (q1, .inl (kq1, 200, .inl (fun _ => (0 : Int32)))), (q4, .inl (kq1, 52, .inl (fun _ => (0 : Int32)))), (q5, .inl (kq1, 51, .inl (fun _ => (0 : Int32))))] := hD
  have hP := hP.sub (ws' := [(tp, .inr (11, [.ref q1, .int 0, .int 0, .int 0, .ref q2, .int 0, .ref q3, .ref q4, .ref q5, .int 0])), (q1, .inl (kq1, 200, .inl (fun _ => (0 : Int32)))), (q4, .inl (kq1, 52, .inl (fun _ => (0 : Int32))))]) [0, 1, 2] rfl
  have hD := hD.sub (ws' := [(tp, .inr (11, [.ref q1, .int 0, .int 0, .int 0, .ref q2, .int 0, .ref q3, .ref q4, .ref q5, .int 0])), (q1, .inl (kq1, 200, .inl (fun _ => (0 : Int32)))), (q4, .inl (kq1, 52, .inl (fun _ => (0 : Int32))))]) [0, 1, 2] (by decide) rfl
  have hP9 := hP.sub (ws' := [(tp, .inr (11, [.ref q1, .int 0, .int 0, .int 0, .ref q2, .int 0, .ref q3, .ref q4, .ref q5, .int 0])), (q1, .inl (kq1, 200, .inl (fun _ => (0 : Int32)))), (q4, .inl (kq1, 52, .inl (fun _ => (0 : Int32))))]) [0, 1, 2] rfl
  have hD9 := hD.sub (ws' := [(tp, .inr (11, [.ref q1, .int 0, .int 0, .int 0, .ref q2, .int 0, .ref q3, .ref q4, .ref q5, .int 0])), (q1, .inl (kq1, 200, .inl (fun _ => (0 : Int32)))), (q4, .inl (kq1, 52, .inl (fun _ => (0 : Int32))))]) [0, 1, 2] (by decide) rfl
  have hK9 := hK.sub (tys' := [(kq1, .int)]) [0] rfl
  exact W.vret hx hb hr (fun t ht hW => ⟨⟨(q1, q2, q3, q4, q5, kq1), rfl, trivial, (by rw [ht]; exact hP9), va_K.moved hW.alike hK9, hD9⟩, hS.F ht⟩) hS.2.2 dX10_init_46
def A_c_SheetI : List Cond := [.instanceMethod objectInit, .code objectInit ⟨#[0xb1]⟩ 1 none, .methodLink RX9 3 objectInit, .arrayClass .int, .fieldLink RX9 9 "UnlikeBoats$Sheet" "codes" "[I", .fieldLink RX9 15 "UnlikeBoats$Sheet" "seconds" "[I", .fieldLink RX9 18 "UnlikeBoats$Sheet" "numbers" "[I", .fieldLink RX9 21 "UnlikeBoats$Sheet" "times" "[I", .fieldLink RX9 24 "UnlikeBoats$Sheet" "places" "[I", .fieldLink RX9 27 "UnlikeBoats$Sheet" "book" "LUnlikeBoats$Book;"]
def v_c_SheetI : List Cond := .code yX9_init cX9_init 2 none :: (A_c_SheetI ++ wsX90)
theorem iw_c_SheetI_X9 : ∀ w ∈ wsX90, w ∈ v_c_SheetI := fun _ h => List.mem_cons_of_mem _ (List.mem_append_right _ (h))
set_option maxHeartbeats 4000000 in
set_option maxRecDepth 100000 in
theorem c_SheetI (l : Launch) (dC : Nat → ClassId) (dI : Nat → Nat → Nat) (sh : Nat) (bk : Nat) (sz : Nat)  : Met l yX9_init v_c_SheetI ({ frames := 1, cells := 5, slots := 80, locals := 40 }) (va_Pc [.ref sh, .ref bk] (fun U => U.heap.size = sz ∧ va_P (dC, dI) vwCl [(sh, .inr (10, [.null, .null, .null, .null, .null, .null, .int 0, .int 0, .int 0]))] U.heap ∧ va_K (dC, dI) vwCl [] U ∧ va_D (fun _ => True) [(sh, .inr (10, [.null, .null, .null, .null, .null, .null, .int 0, .int 0, .int 0]))])) (va_Qv (S := Unit) (fun _ => True) (fun _ _ => True) (va_A [(sh, .inr (10, [.null, .null, .null, .null, .null, .null, .int 0, .int 0, .int 0]))] sz)) 5 80 (va_A [(sh, .inr (10, [.null, .null, .null, .null, .null, .null, .int 0, .int 0, .int 0]))] sz) := by
  refine Met.ofW (cc := cX9_init) (maxL := 2) (ret := none) (by decide) rfl ?_
  intro p e s m args below meth c s₁ B hml hv
  obtain ⟨rfl, hsz, hP, hK, hD0⟩ := hv
  have hx := B.exec
  have hb := B.bytes
  have hr := B.returns
  have hts := atoms_spec (ws := v_c_SheetI) B.pre
  have hown : s.vm.findClass RX9 = some m.cls := findClass_of_methodNamed B.named
  have hlocks := B.notSynchronized
  have hin : meth.name = "<init>" := (name_of_methodNamed B.named B.method).1
  subst hsz
  have hD := hD0.self (sz := s.heap.size)
  generalize hAe : va_A [(sh, .inr (10, [.null, .null, .null, .null, .null, .null, .int 0, .int 0, .int 0]))] s.heap.size = A at hD ⊢
  have hA : ∀ q : Nat, s.heap.size ≤ q → A q := fun q h => by rw [← hAe]; exact Or.inr h
  have hS : va_S A s.heap s.heap [] := va_S.rf
  have hP : va_P (dC, dI) vwCl [(sh, .inr (10, [.null, .null, .null, .null, .null, .null, .int 0, .int 0, .int 0]))] s.heap := hP
  have hl := lv_entry ([.ref sh, .ref bk]) (n := 2) (Nat.le_of_ble_eq_true rfl)
  rw [lg_entry_eq]
  generalize (lg_sl ([.ref sh, .ref bk]) ++ List.replicate (2 - (lg_sl ([.ref sh, .ref bk])).length) Slot.unset).toArray = ls at hl ⊢
  have hl : lv_has ls 2 [(0, .ref sh), (1, .ref bk)] := hl
  refine lv_aload_n hx hb dX9_init_0 rfl (lv_at hl 0 rfl) ?_
  refine W.objInit hx hb hown (hts (.methodLink RX9 3 objectInit) (List.mem_of_getElem? (i := 3) rfl)) (hts (.instanceMethod objectInit) (List.mem_of_getElem? (i := 1) rfl)) (hts (.code objectInit ⟨#[0xb1]⟩ 1 none) (List.mem_of_getElem? (i := 2) rfl)) rfl (by rw [hml]; exact hl.1) rfl dX9_init_1 (Nat.le_of_ble_eq_true rfl) (Nat.le_of_ble_eq_true rfl) ?_
  refine W.eq (g2 := F0 m 4 ls []) rfl ?_
  refine lv_aload_n hx hb dX9_init_4 rfl (lv_at hl 0 rfl) ?_
  refine lv_bipush (v := 16) hx hb dX9_init_5 (by decide) ?_
  refine va_newa (atype := .int) (ty := .int) (N' := 16) (a0 := (16, .inl (fun _ => (0 : Int32)))) hx hb (hts (.arrayClass .int) (List.mem_of_getElem? (i := 4) rfl)) rfl hK hP hD hS hA (fun _ => rfl) (by decide) (by decide) (Nat.le_of_ble_eq_true rfl) (Nat.le_of_ble_eq_true rfl) (Nat.le_of_ble_eq_true rfl) dX9_init_7 (fun q1 kq1 H hK hP hD hS => ?_)
  have hK : va_K (dC, dI) vwCl [(kq1, .int)] s := hK
  have hP : va_P (dC, dI) vwCl [(sh, .inr (10, [.null, .null, .null, .null, .null, .null, .int 0, .int 0, .int 0])), (q1, .inl (kq1, 16, .inl (fun _ => (0 : Int32))))] H := hP
  have hD : va_D A [(sh, .inr (10, [.null, .null, .null, .null, .null, .null, .int 0, .int 0, .int 0])), (q1, .inl (kq1, 16, .inl (fun _ => (0 : Int32))))] := hD
  refine W.widen (k := 1) (n := 16) (by omega) (by omega) ?_
  refine va_putF (D := (dC, dI)) (ci := 10) (v := .ref q1) (ty := .array .int) (C := RX9) (T := TX9) (N := 9) hx hb hts iw_c_SheetI_X9 tyX9 tyX9_ok nmX9 hown hK hP hD hS 0 rfl rfl 1 (by decide) (hts (.fieldLink RX9 9 "UnlikeBoats$Sheet" "codes" "[I") (List.mem_of_getElem? (i := 5) rfl)) (fun _ h9 => h9) rfl hin rfl (by decide +kernel) rfl rfl (Nat.le_of_ble_eq_true rfl) dX9_init_9 (fun H locs hP hD hS => ?_)
  have hP : va_P (dC, dI) vwCl [(sh, .inr (10, [.null, .ref q1, .null, .null, .null, .null, .int 0, .int 0, .int 0])), (q1, .inl (kq1, 16, .inl (fun _ => (0 : Int32))))] H := hP
  have hD : va_D A [(sh, .inr (10, [.null, .ref q1, .null, .null, .null, .null, .int 0, .int 0, .int 0])), (q1, .inl (kq1, 16, .inl (fun _ => (0 : Int32))))] := hD
  have hP := hP.sub (ws' := [(sh, .inr (10, [.null, .ref q1, .null, .null, .null, .null, .int 0, .int 0, .int 0]))]) [0] rfl
  have hD := hD.sub (ws' := [(sh, .inr (10, [.null, .ref q1, .null, .null, .null, .null, .int 0, .int 0, .int 0]))]) [0] (by decide) rfl
  refine lv_aload_n hx hb dX9_init_12 rfl (lv_at hl 0 rfl) ?_
  refine lv_bipush (v := 16) hx hb dX9_init_13 (by decide) ?_
  refine va_newa (atype := .int) (ty := .int) (N' := 16) (a0 := (16, .inl (fun _ => (0 : Int32)))) hx hb (hts (.arrayClass .int) (List.mem_of_getElem? (i := 4) rfl)) rfl hK hP hD hS hA (fun _ => rfl) (by decide) (by decide) (Nat.le_of_ble_eq_true rfl) (Nat.le_of_ble_eq_true rfl) (Nat.le_of_ble_eq_true rfl) dX9_init_15 (fun q2 kq2 H hK hP hD hS => ?_)
  have hK : va_K (dC, dI) vwCl [(kq1, .int), (kq2, .int)] s := hK
  have hP : va_P (dC, dI) vwCl [(sh, .inr (10, [.null, .ref q1, .null, .null, .null, .null, .int 0, .int 0, .int 0])), (q2, .inl (kq2, 16, .inl (fun _ => (0 : Int32))))] H := hP
  have hD : va_D A [(sh, .inr (10, [.null, .ref q1, .null, .null, .null, .null, .int 0, .int 0, .int 0])), (q2, .inl (kq2, 16, .inl (fun _ => (0 : Int32))))] := hD
  refine W.widen (k := 2) (n := 32) (by omega) (by omega) ?_
  obtain rfl : kq1 = kq2 := ub_sa_int hK 0 1 rfl rfl
  have hK := hK.sub (tys' := [(kq1, .int)]) [0] rfl
  refine va_putF (D := (dC, dI)) (ci := 10) (v := .ref q2) (ty := .array .int) (C := RX9) (T := TX9) (N := 9) hx hb hts iw_c_SheetI_X9 tyX9 tyX9_ok nmX9 hown hK hP hD hS 0 rfl rfl 2 (by decide) (hts (.fieldLink RX9 15 "UnlikeBoats$Sheet" "seconds" "[I") (List.mem_of_getElem? (i := 6) rfl)) (fun _ h9 => h9) rfl hin rfl (by decide +kernel) rfl rfl (Nat.le_of_ble_eq_true rfl) dX9_init_17 (fun H locs hP hD hS => ?_)
  have hP : va_P (dC, dI) vwCl [(sh, .inr (10, [.null, .ref q1, .ref q2, .null, .null, .null, .int 0, .int 0, .int 0])), (q2, .inl (kq1, 16, .inl (fun _ => (0 : Int32))))] H := hP
  have hD : va_D A [(sh, .inr (10, [.null, .ref q1, .ref q2, .null, .null, .null, .int 0, .int 0, .int 0])), (q2, .inl (kq1, 16, .inl (fun _ => (0 : Int32))))] := hD
  have hP := hP.sub (ws' := [(sh, .inr (10, [.null, .ref q1, .ref q2, .null, .null, .null, .int 0, .int 0, .int 0]))]) [0] rfl
  have hD := hD.sub (ws' := [(sh, .inr (10, [.null, .ref q1, .ref q2, .null, .null, .null, .int 0, .int 0, .int 0]))]) [0] (by decide) rfl
  refine lv_aload_n hx hb dX9_init_20 rfl (lv_at hl 0 rfl) ?_
  refine lv_bipush (v := 16) hx hb dX9_init_21 (by decide) ?_
  refine va_newa (atype := .int) (ty := .int) (N' := 16) (a0 := (16, .inl (fun _ => (0 : Int32)))) hx hb (hts (.arrayClass .int) (List.mem_of_getElem? (i := 4) rfl)) rfl hK hP hD hS hA (fun _ => rfl) (by decide) (by decide) (Nat.le_of_ble_eq_true rfl) (Nat.le_of_ble_eq_true rfl) (Nat.le_of_ble_eq_true rfl) dX9_init_23 (fun q3 kq3 H hK hP hD hS => ?_)
  have hK : va_K (dC, dI) vwCl [(kq1, .int), (kq3, .int)] s := hK
  have hP : va_P (dC, dI) vwCl [(sh, .inr (10, [.null, .ref q1, .ref q2, .null, .null, .null, .int 0, .int 0, .int 0])), (q3, .inl (kq3, 16, .inl (fun _ => (0 : Int32))))] H := hP
  have hD : va_D A [(sh, .inr (10, [.null, .ref q1, .ref q2, .null, .null, .null, .int 0, .int 0, .int 0])), (q3, .inl (kq3, 16, .inl (fun _ => (0 : Int32))))] := hD
  refine W.widen (k := 3) (n := 48) (by omega) (by omega) ?_
  obtain rfl : kq1 = kq3 := ub_sa_int hK 0 1 rfl rfl
  have hK := hK.sub (tys' := [(kq1, .int)]) [0] rfl
  refine va_putF (D := (dC, dI)) (ci := 10) (v := .ref q3) (ty := .array .int) (C := RX9) (T := TX9) (N := 9) hx hb hts iw_c_SheetI_X9 tyX9 tyX9_ok nmX9 hown hK hP hD hS 0 rfl rfl 3 (by decide) (hts (.fieldLink RX9 18 "UnlikeBoats$Sheet" "numbers" "[I") (List.mem_of_getElem? (i := 7) rfl)) (fun _ h9 => h9) rfl hin rfl (by decide +kernel) rfl rfl (Nat.le_of_ble_eq_true rfl) dX9_init_25 (fun H locs hP hD hS => ?_)
  have hP : va_P (dC, dI) vwCl [(sh, .inr (10, [.null, .ref q1, .ref q2, .ref q3, .null, .null, .int 0, .int 0, .int 0])), (q3, .inl (kq1, 16, .inl (fun _ => (0 : Int32))))] H := hP
  have hD : va_D A [(sh, .inr (10, [.null, .ref q1, .ref q2, .ref q3, .null, .null, .int 0, .int 0, .int 0])), (q3, .inl (kq1, 16, .inl (fun _ => (0 : Int32))))] := hD
  have hP := hP.sub (ws' := [(sh, .inr (10, [.null, .ref q1, .ref q2, .ref q3, .null, .null, .int 0, .int 0, .int 0]))]) [0] rfl
  have hD := hD.sub (ws' := [(sh, .inr (10, [.null, .ref q1, .ref q2, .ref q3, .null, .null, .int 0, .int 0, .int 0]))]) [0] (by decide) rfl
  refine lv_aload_n hx hb dX9_init_28 rfl (lv_at hl 0 rfl) ?_
  refine lv_bipush (v := 16) hx hb dX9_init_29 (by decide) ?_
  refine va_newa (atype := .int) (ty := .int) (N' := 16) (a0 := (16, .inl (fun _ => (0 : Int32)))) hx hb (hts (.arrayClass .int) (List.mem_of_getElem? (i := 4) rfl)) rfl hK hP hD hS hA (fun _ => rfl) (by decide) (by decide) (Nat.le_of_ble_eq_true rfl) (Nat.le_of_ble_eq_true rfl) (Nat.le_of_ble_eq_true rfl) dX9_init_31 (fun q4 kq4 H hK hP hD hS => ?_)
  have hK : va_K (dC, dI) vwCl [(kq1, .int), (kq4, .int)] s := hK
  have hP : va_P (dC, dI) vwCl [(sh, .inr (10, [.null, .ref q1, .ref q2, .ref q3, .null, .null, .int 0, .int 0, .int 0])), (q4, .inl (kq4, 16, .inl (fun _ => (0 : Int32))))] H := hP
  have hD : va_D A [(sh, .inr (10, [.null, .ref q1, .ref q2, .ref q3, .null, .null, .int 0, .int 0, .int 0])), (q4, .inl (kq4, 16, .inl (fun _ => (0 : Int32))))] := hD
  refine W.widen (k := 4) (n := 64) (by omega) (by omega) ?_
  obtain rfl : kq1 = kq4 := ub_sa_int hK 0 1 rfl rfl
  have hK := hK.sub (tys' := [(kq1, .int)]) [0] rfl
  refine va_putF (D := (dC, dI)) (ci := 10) (v := .ref q4) (ty := .array .int) (C := RX9) (T := TX9) (N := 9) hx hb hts iw_c_SheetI_X9 tyX9 tyX9_ok nmX9 hown hK hP hD hS 0 rfl rfl 4 (by decide) (hts (.fieldLink RX9 21 "UnlikeBoats$Sheet" "times" "[I") (List.mem_of_getElem? (i := 8) rfl)) (fun _ h9 => h9) rfl hin rfl (by decide +kernel) rfl rfl (Nat.le_of_ble_eq_true rfl) dX9_init_33 (fun H locs hP hD hS => ?_)
  have hP : va_P (dC, dI) vwCl [(sh, .inr (10, [.null, .ref q1, .ref q2, .ref q3, .ref q4, .null, .int 0, .int 0, .int 0])), (q4, .inl (kq1, 16, .inl (fun _ => (0 : Int32))))] H := hP
  have hD : va_D A [(sh, .inr (10, [.null, .ref q1, .ref q2, .ref q3, .ref q4, .null, .int 0, .int 0, .int 0])), (q4, .inl (kq1, 16, .inl (fun _ => (0 : Int32))))] := hD
  have hP := hP.sub (ws' := [(sh, .inr (10, [.null, .ref q1, .ref q2, .ref q3, .ref q4, .null, .int 0, .int 0, .int 0]))]) [0] rfl
  have hD := hD.sub (ws' := [(sh, .inr (10, [.null, .ref q1, .ref q2, .ref q3, .ref q4, .null, .int 0, .int 0, .int 0]))]) [0] (by decide) rfl
  refine lv_aload_n hx hb dX9_init_36 rfl (lv_at hl 0 rfl) ?_
  refine lv_bipush (v := 16) hx hb dX9_init_37 (by decide) ?_
  refine va_newa (atype := .int) (ty := .int) (N' := 16) (a0 := (16, .inl (fun _ => (0 : Int32)))) hx hb (hts (.arrayClass .int) (List.mem_of_getElem? (i := 4) rfl)) rfl hK hP hD hS hA (fun _ => rfl) (by decide) (by decide) (Nat.le_of_ble_eq_true rfl) (Nat.le_of_ble_eq_true rfl) (Nat.le_of_ble_eq_true rfl) dX9_init_39 (fun q5 kq5 H hK hP hD hS => ?_)
  have hK : va_K (dC, dI) vwCl [(kq1, .int), (kq5, .int)] s := hK
  have hP : va_P (dC, dI) vwCl [(sh, .inr (10, [.null, .ref q1, .ref q2, .ref q3, .ref q4, .null, .int 0, .int 0, .int 0])), (q5, .inl (kq5, 16, .inl (fun _ => (0 : Int32))))] H := hP
  have hD : va_D A [(sh, .inr (10, [.null, .ref q1, .ref q2, .ref q3, .ref q4, .null, .int 0, .int 0, .int 0])), (q5, .inl (kq5, 16, .inl (fun _ => (0 : Int32))))] := hD
  refine W.widen (k := 5) (n := 80) (by omega) (by omega) ?_
  obtain rfl : kq1 = kq5 := ub_sa_int hK 0 1 rfl rfl
  have hK := hK.sub (tys' := [(kq1, .int)]) [0] rfl
  refine va_putF (D := (dC, dI)) (ci := 10) (v := .ref q5) (ty := .array .int) (C := RX9) (T := TX9) (N := 9) hx hb hts iw_c_SheetI_X9 tyX9 tyX9_ok nmX9 hown hK hP hD hS 0 rfl rfl 5 (by decide) (hts (.fieldLink RX9 24 "UnlikeBoats$Sheet" "places" "[I") (List.mem_of_getElem? (i := 9) rfl)) (fun _ h9 => h9) rfl hin rfl (by decide +kernel) rfl rfl (Nat.le_of_ble_eq_true rfl) dX9_init_41 (fun H locs hP hD hS => ?_)
  have hP : va_P (dC, dI) vwCl [(sh, .inr (10, [.null, .ref q1, .ref q2, .ref q3, .ref q4, .ref q5, .int 0, .int 0, .int 0])), (q5, .inl (kq1, 16, .inl (fun _ => (0 : Int32))))] H := hP
  have hD : va_D A [(sh, .inr (10, [.null, .ref q1, .ref q2, .ref q3, .ref q4, .ref q5, .int 0, .int 0, .int 0])), (q5, .inl (kq1, 16, .inl (fun _ => (0 : Int32))))] := hD
  have hP := hP.sub (ws' := [(sh, .inr (10, [.null, .ref q1, .ref q2, .ref q3, .ref q4, .ref q5, .int 0, .int 0, .int 0]))]) [0] rfl
  have hD := hD.sub (ws' := [(sh, .inr (10, [.null, .ref q1, .ref q2, .ref q3, .ref q4, .ref q5, .int 0, .int 0, .int 0]))]) [0] (by decide) rfl
  refine lv_aload_n hx hb dX9_init_44 rfl (lv_at hl 0 rfl) ?_
  refine lv_aload_n hx hb dX9_init_45 rfl (lv_at hl 1 rfl) ?_
  refine va_putF (D := (dC, dI)) (ci := 10) (v := .ref bk) (ty := .object "UnlikeBoats$Book") (C := RX9) (T := TX9) (N := 9) hx hb hts iw_c_SheetI_X9 tyX9 tyX9_ok nmX9 hown hK hP hD hS 0 rfl rfl 0 (by decide) (hts (.fieldLink RX9 27 "UnlikeBoats$Sheet" "book" "LUnlikeBoats$Book;") (List.mem_of_getElem? (i := 10) rfl)) (fun _ h9 => h9) rfl hin rfl (by decide +kernel) rfl rfl (Nat.le_of_ble_eq_true rfl) dX9_init_46 (fun H locs hP hD hS => ?_)
  have hP : va_P (dC, dI) vwCl [(sh, .inr (10, [.ref bk, .ref q1, .ref q2, .ref q3, .ref q4, .ref q5, .int 0, .int 0, .int 0]))] H := hP
  have hD : va_D A [(sh, .inr (10, [.ref bk, .ref q1, .ref q2, .ref q3, .ref q4, .ref q5, .int 0, .int 0, .int 0]))] := hD
  exact W.vret hx hb hr (fun t ht hW => ⟨⟨(), rfl, trivial, trivial⟩, hS.F ht⟩) hS.2.2 dX9_init_49
def A_c_HearingI : List Cond := [.instanceMethod objectInit, .code objectInit ⟨#[0xb1]⟩ 1 none, .methodLink RX2 3 objectInit, .arrayClass .int, .fieldLink RX2 9 "UnlikeBoats$Hearing" "lowX" "[I", .fieldLink RX2 15 "UnlikeBoats$Hearing" "highX" "[I", .fieldLink RX2 18 "UnlikeBoats$Hearing" "lowY" "[I", .fieldLink RX2 21 "UnlikeBoats$Hearing" "highY" "[I", .fieldLink RX2 24 "UnlikeBoats$Hearing" "ways" "[I", .fieldLink RX2 27 "UnlikeBoats$Hearing" "book" "LUnlikeBoats$Book;"]
def v_c_HearingI : List Cond := .code yX2_init cX2_init 2 none :: (A_c_HearingI ++ wsX20)
theorem iw_c_HearingI_X2 : ∀ w ∈ wsX20, w ∈ v_c_HearingI := fun _ h => List.mem_cons_of_mem _ (List.mem_append_right _ (h))
set_option maxHeartbeats 4000000 in
set_option maxRecDepth 100000 in
theorem c_HearingI (l : Launch) (dC : Nat → ClassId) (dI : Nat → Nat → Nat) (he : Nat) (bk : Nat) (sz : Nat)  : Met l yX2_init v_c_HearingI ({ frames := 1, cells := 5, slots := 10, locals := 40 }) (va_Pc [.ref he, .ref bk] (fun U => U.heap.size = sz ∧ va_P (dC, dI) vwCl [(he, .inr (3, [.null, .null, .null, .null, .null, .null, .null, .int 0, .int 0, .int 0]))] U.heap ∧ va_K (dC, dI) vwCl [] U ∧ va_D (fun _ => True) [(he, .inr (3, [.null, .null, .null, .null, .null, .null, .null, .int 0, .int 0, .int 0]))])) (va_Qv (S := Unit) (fun _ => True) (fun _ _ => True) (va_A [(he, .inr (3, [.null, .null, .null, .null, .null, .null, .null, .int 0, .int 0, .int 0]))] sz)) 5 10 (va_A [(he, .inr (3, [.null, .null, .null, .null, .null, .null, .null, .int 0, .int 0, .int 0]))] sz) := by
  refine Met.ofW (cc := cX2_init) (maxL := 2) (ret := none) (by decide) rfl ?_
  intro p e s m args below meth c s₁ B hml hv
  obtain ⟨rfl, hsz, hP, hK, hD0⟩ := hv
  have hx := B.exec
  have hb := B.bytes
  have hr := B.returns
  have hts := atoms_spec (ws := v_c_HearingI) B.pre
  have hown : s.vm.findClass RX2 = some m.cls := findClass_of_methodNamed B.named
  have hlocks := B.notSynchronized
  have hin : meth.name = "<init>" := (name_of_methodNamed B.named B.method).1
  subst hsz
  have hD := hD0.self (sz := s.heap.size)
  generalize hAe : va_A [(he, .inr (3, [.null, .null, .null, .null, .null, .null, .null, .int 0, .int 0, .int 0]))] s.heap.size = A at hD ⊢
  have hA : ∀ q : Nat, s.heap.size ≤ q → A q := fun q h => by rw [← hAe]; exact Or.inr h
  have hS : va_S A s.heap s.heap [] := va_S.rf
  have hP : va_P (dC, dI) vwCl [(he, .inr (3, [.null, .null, .null, .null, .null, .null, .null, .int 0, .int 0, .int 0]))] s.heap := hP
  have hl := lv_entry ([.ref he, .ref bk]) (n := 2) (Nat.le_of_ble_eq_true rfl)
  rw [lg_entry_eq]
  generalize (lg_sl ([.ref he, .ref bk]) ++ List.replicate (2 - (lg_sl ([.ref he, .ref bk])).length) Slot.unset).toArray = ls at hl ⊢
  have hl : lv_has ls 2 [(0, .ref he), (1, .ref bk)] := hl
  refine lv_aload_n hx hb dX2_init_0 rfl (lv_at hl 0 rfl) ?_
  refine W.objInit hx hb hown (hts (.methodLink RX2 3 objectInit) (List.mem_of_getElem? (i := 3) rfl)) (hts (.instanceMethod objectInit) (List.mem_of_getElem? (i := 1) rfl)) (hts (.code objectInit ⟨#[0xb1]⟩ 1 none) (List.mem_of_getElem? (i := 2) rfl)) rfl (by rw [hml]; exact hl.1) rfl dX2_init_1 (Nat.le_of_ble_eq_true rfl) (Nat.le_of_ble_eq_true rfl) ?_
  refine W.eq (g2 := F0 m 4 ls []) rfl ?_
  refine lv_aload_n hx hb dX2_init_4 rfl (lv_at hl 0 rfl) ?_
  refine lv_iconst (v := 2) hx hb dX2_init_5 (by decide) ?_
  refine va_newa (atype := .int) (ty := .int) (N' := 2) (a0 := (2, .inl (fun _ => (0 : Int32)))) hx hb (hts (.arrayClass .int) (List.mem_of_getElem? (i := 4) rfl)) rfl hK hP hD hS hA (fun _ => rfl) (by decide) (by decide) (Nat.le_of_ble_eq_true rfl) (Nat.le_of_ble_eq_true rfl) (Nat.le_of_ble_eq_true rfl) dX2_init_6 (fun q1 kq1 H hK hP hD hS => ?_)
  have hK : va_K (dC, dI) vwCl [(kq1, .int)] s := hK
  have hP : va_P (dC, dI) vwCl [(he, .inr (3, [.null, .null, .null, .null, .null, .null, .null, .int 0, .int 0, .int 0])), (q1, .inl (kq1, 2, .inl (fun _ => (0 : Int32))))] H := hP
  have hD : va_D A [(he, .inr (3, [.null, .null, .null, .null, .null, .null, .null, .int 0, .int 0, .int 0])), (q1, .inl (kq1, 2, .inl (fun _ => (0 : Int32))))] := hD
  refine W.widen (k := 1) (n := 2) (by omega) (by omega) ?_
  refine va_putF (D := (dC, dI)) (ci := 3) (v := .ref q1) (ty := .array .int) (C := RX2) (T := TX2) (N := 10) hx hb hts iw_c_HearingI_X2 tyX2 tyX2_ok nmX2 hown hK hP hD hS 0 rfl rfl 1 (by decide) (hts (.fieldLink RX2 9 "UnlikeBoats$Hearing" "lowX" "[I") (List.mem_of_getElem? (i := 5) rfl)) (fun _ h9 => h9) rfl hin rfl (by decide +kernel) rfl rfl (Nat.le_of_ble_eq_true rfl) dX2_init_8 (fun H locs hP hD hS => ?_)
  have hP : va_P (dC, dI) vwCl [(he, .inr (3, [.null, .ref q1, .null, .null, .null, .null, .null, .int 0, .int 0, .int 0])), (q1, .inl (kq1, 2, .inl (fun _ => (0 : Int32))))] H := hP
  have hD : va_D A [(he, .inr (3, [.null, .ref q1, .null, .null, .null, .null, .null, .int 0, .int 0, .int 0])), (q1, .inl (kq1, 2, .inl (fun _ => (0 : Int32))))] := hD
  have hP := hP.sub (ws' := [(he, .inr (3, [.null, .ref q1, .null, .null, .null, .null, .null, .int 0, .int 0, .int 0]))]) [0] rfl
  have hD := hD.sub (ws' := [(he, .inr (3, [.null, .ref q1, .null, .null, .null, .null, .null, .int 0, .int 0, .int 0]))]) [0] (by decide) rfl
  refine lv_aload_n hx hb dX2_init_11 rfl (lv_at hl 0 rfl) ?_
  refine lv_iconst (v := 2) hx hb dX2_init_12 (by decide) ?_
  refine va_newa (atype := .int) (ty := .int) (N' := 2) (a0 := (2, .inl (fun _ => (0 : Int32)))) hx hb (hts (.arrayClass .int) (List.mem_of_getElem? (i := 4) rfl)) rfl hK hP hD hS hA (fun _ => rfl) (by decide) (by decide) (Nat.le_of_ble_eq_true rfl) (Nat.le_of_ble_eq_true rfl) (Nat.le_of_ble_eq_true rfl) dX2_init_13 (fun q2 kq2 H hK hP hD hS => ?_)
  have hK : va_K (dC, dI) vwCl [(kq1, .int), (kq2, .int)] s := hK
  have hP : va_P (dC, dI) vwCl [(he, .inr (3, [.null, .ref q1, .null, .null, .null, .null, .null, .int 0, .int 0, .int 0])), (q2, .inl (kq2, 2, .inl (fun _ => (0 : Int32))))] H := hP
  have hD : va_D A [(he, .inr (3, [.null, .ref q1, .null, .null, .null, .null, .null, .int 0, .int 0, .int 0])), (q2, .inl (kq2, 2, .inl (fun _ => (0 : Int32))))] := hD
  refine W.widen (k := 2) (n := 4) (by omega) (by omega) ?_
  obtain rfl : kq1 = kq2 := ub_sa_int hK 0 1 rfl rfl
  have hK := hK.sub (tys' := [(kq1, .int)]) [0] rfl
  refine va_putF (D := (dC, dI)) (ci := 3) (v := .ref q2) (ty := .array .int) (C := RX2) (T := TX2) (N := 10) hx hb hts iw_c_HearingI_X2 tyX2 tyX2_ok nmX2 hown hK hP hD hS 0 rfl rfl 2 (by decide) (hts (.fieldLink RX2 15 "UnlikeBoats$Hearing" "highX" "[I") (List.mem_of_getElem? (i := 6) rfl)) (fun _ h9 => h9) rfl hin rfl (by decide +kernel) rfl rfl (Nat.le_of_ble_eq_true rfl) dX2_init_15 (fun H locs hP hD hS => ?_)
  have hP : va_P (dC, dI) vwCl [(he, .inr (3, [.null, .ref q1, .ref q2, .null, .null, .null, .null, .int 0, .int 0, .int 0])), (q2, .inl (kq1, 2, .inl (fun _ => (0 : Int32))))] H := hP
  have hD : va_D A [(he, .inr (3, [.null, .ref q1, .ref q2, .null, .null, .null, .null, .int 0, .int 0, .int 0])), (q2, .inl (kq1, 2, .inl (fun _ => (0 : Int32))))] := hD
  have hP := hP.sub (ws' := [(he, .inr (3, [.null, .ref q1, .ref q2, .null, .null, .null, .null, .int 0, .int 0, .int 0]))]) [0] rfl
  have hD := hD.sub (ws' := [(he, .inr (3, [.null, .ref q1, .ref q2, .null, .null, .null, .null, .int 0, .int 0, .int 0]))]) [0] (by decide) rfl
  refine lv_aload_n hx hb dX2_init_18 rfl (lv_at hl 0 rfl) ?_
  refine lv_iconst (v := 2) hx hb dX2_init_19 (by decide) ?_
  refine va_newa (atype := .int) (ty := .int) (N' := 2) (a0 := (2, .inl (fun _ => (0 : Int32)))) hx hb (hts (.arrayClass .int) (List.mem_of_getElem? (i := 4) rfl)) rfl hK hP hD hS hA (fun _ => rfl) (by decide) (by decide) (Nat.le_of_ble_eq_true rfl) (Nat.le_of_ble_eq_true rfl) (Nat.le_of_ble_eq_true rfl) dX2_init_20 (fun q3 kq3 H hK hP hD hS => ?_)
  have hK : va_K (dC, dI) vwCl [(kq1, .int), (kq3, .int)] s := hK
  have hP : va_P (dC, dI) vwCl [(he, .inr (3, [.null, .ref q1, .ref q2, .null, .null, .null, .null, .int 0, .int 0, .int 0])), (q3, .inl (kq3, 2, .inl (fun _ => (0 : Int32))))] H := hP
  have hD : va_D A [(he, .inr (3, [.null, .ref q1, .ref q2, .null, .null, .null, .null, .int 0, .int 0, .int 0])), (q3, .inl (kq3, 2, .inl (fun _ => (0 : Int32))))] := hD
  refine W.widen (k := 3) (n := 6) (by omega) (by omega) ?_
  obtain rfl : kq1 = kq3 := ub_sa_int hK 0 1 rfl rfl
  have hK := hK.sub (tys' := [(kq1, .int)]) [0] rfl
  refine va_putF (D := (dC, dI)) (ci := 3) (v := .ref q3) (ty := .array .int) (C := RX2) (T := TX2) (N := 10) hx hb hts iw_c_HearingI_X2 tyX2 tyX2_ok nmX2 hown hK hP hD hS 0 rfl rfl 3 (by decide) (hts (.fieldLink RX2 18 "UnlikeBoats$Hearing" "lowY" "[I") (List.mem_of_getElem? (i := 7) rfl)) (fun _ h9 => h9) rfl hin rfl (by decide +kernel) rfl rfl (Nat.le_of_ble_eq_true rfl) dX2_init_22 (fun H locs hP hD hS => ?_)
  have hP : va_P (dC, dI) vwCl [(he, .inr (3, [.null, .ref q1, .ref q2, .ref q3, .null, .null, .null, .int 0, .int 0, .int 0])), (q3, .inl (kq1, 2, .inl (fun _ => (0 : Int32))))] H := hP
  have hD : va_D A [(he, .inr (3, [.null, .ref q1, .ref q2, .ref q3, .null, .null, .null, .int 0, .int 0, .int 0])), (q3, .inl (kq1, 2, .inl (fun _ => (0 : Int32))))] := hD
  have hP := hP.sub (ws' := [(he, .inr (3, [.null, .ref q1, .ref q2, .ref q3, .null, .null, .null, .int 0, .int 0, .int 0]))]) [0] rfl
  have hD := hD.sub (ws' := [(he, .inr (3, [.null, .ref q1, .ref q2, .ref q3, .null, .null, .null, .int 0, .int 0, .int 0]))]) [0] (by decide) rfl
  refine lv_aload_n hx hb dX2_init_25 rfl (lv_at hl 0 rfl) ?_
  refine lv_iconst (v := 2) hx hb dX2_init_26 (by decide) ?_
  refine va_newa (atype := .int) (ty := .int) (N' := 2) (a0 := (2, .inl (fun _ => (0 : Int32)))) hx hb (hts (.arrayClass .int) (List.mem_of_getElem? (i := 4) rfl)) rfl hK hP hD hS hA (fun _ => rfl) (by decide) (by decide) (Nat.le_of_ble_eq_true rfl) (Nat.le_of_ble_eq_true rfl) (Nat.le_of_ble_eq_true rfl) dX2_init_27 (fun q4 kq4 H hK hP hD hS => ?_)
  have hK : va_K (dC, dI) vwCl [(kq1, .int), (kq4, .int)] s := hK
  have hP : va_P (dC, dI) vwCl [(he, .inr (3, [.null, .ref q1, .ref q2, .ref q3, .null, .null, .null, .int 0, .int 0, .int 0])), (q4, .inl (kq4, 2, .inl (fun _ => (0 : Int32))))] H := hP
  have hD : va_D A [(he, .inr (3, [.null, .ref q1, .ref q2, .ref q3, .null, .null, .null, .int 0, .int 0, .int 0])), (q4, .inl (kq4, 2, .inl (fun _ => (0 : Int32))))] := hD
  refine W.widen (k := 4) (n := 8) (by omega) (by omega) ?_
  obtain rfl : kq1 = kq4 := ub_sa_int hK 0 1 rfl rfl
  have hK := hK.sub (tys' := [(kq1, .int)]) [0] rfl
  refine va_putF (D := (dC, dI)) (ci := 3) (v := .ref q4) (ty := .array .int) (C := RX2) (T := TX2) (N := 10) hx hb hts iw_c_HearingI_X2 tyX2 tyX2_ok nmX2 hown hK hP hD hS 0 rfl rfl 4 (by decide) (hts (.fieldLink RX2 21 "UnlikeBoats$Hearing" "highY" "[I") (List.mem_of_getElem? (i := 8) rfl)) (fun _ h9 => h9) rfl hin rfl (by decide +kernel) rfl rfl (Nat.le_of_ble_eq_true rfl) dX2_init_29 (fun H locs hP hD hS => ?_)
  have hP : va_P (dC, dI) vwCl [(he, .inr (3, [.null, .ref q1, .ref q2, .ref q3, .ref q4, .null, .null, .int 0, .int 0, .int 0])), (q4, .inl (kq1, 2, .inl (fun _ => (0 : Int32))))] H := hP
  have hD : va_D A [(he, .inr (3, [.null, .ref q1, .ref q2, .ref q3, .ref q4, .null, .null, .int 0, .int 0, .int 0])), (q4, .inl (kq1, 2, .inl (fun _ => (0 : Int32))))] := hD
  have hP := hP.sub (ws' := [(he, .inr (3, [.null, .ref q1, .ref q2, .ref q3, .ref q4, .null, .null, .int 0, .int 0, .int 0]))]) [0] rfl
  have hD := hD.sub (ws' := [(he, .inr (3, [.null, .ref q1, .ref q2, .ref q3, .ref q4, .null, .null, .int 0, .int 0, .int 0]))]) [0] (by decide) rfl
  refine lv_aload_n hx hb dX2_init_32 rfl (lv_at hl 0 rfl) ?_
  refine lv_iconst (v := 2) hx hb dX2_init_33 (by decide) ?_
  refine va_newa (atype := .int) (ty := .int) (N' := 2) (a0 := (2, .inl (fun _ => (0 : Int32)))) hx hb (hts (.arrayClass .int) (List.mem_of_getElem? (i := 4) rfl)) rfl hK hP hD hS hA (fun _ => rfl) (by decide) (by decide) (Nat.le_of_ble_eq_true rfl) (Nat.le_of_ble_eq_true rfl) (Nat.le_of_ble_eq_true rfl) dX2_init_34 (fun q5 kq5 H hK hP hD hS => ?_)
  have hK : va_K (dC, dI) vwCl [(kq1, .int), (kq5, .int)] s := hK
  have hP : va_P (dC, dI) vwCl [(he, .inr (3, [.null, .ref q1, .ref q2, .ref q3, .ref q4, .null, .null, .int 0, .int 0, .int 0])), (q5, .inl (kq5, 2, .inl (fun _ => (0 : Int32))))] H := hP
  have hD : va_D A [(he, .inr (3, [.null, .ref q1, .ref q2, .ref q3, .ref q4, .null, .null, .int 0, .int 0, .int 0])), (q5, .inl (kq5, 2, .inl (fun _ => (0 : Int32))))] := hD
  refine W.widen (k := 5) (n := 10) (by omega) (by omega) ?_
  obtain rfl : kq1 = kq5 := ub_sa_int hK 0 1 rfl rfl
  have hK := hK.sub (tys' := [(kq1, .int)]) [0] rfl
  refine va_putF (D := (dC, dI)) (ci := 3) (v := .ref q5) (ty := .array .int) (C := RX2) (T := TX2) (N := 10) hx hb hts iw_c_HearingI_X2 tyX2 tyX2_ok nmX2 hown hK hP hD hS 0 rfl rfl 5 (by decide) (hts (.fieldLink RX2 24 "UnlikeBoats$Hearing" "ways" "[I") (List.mem_of_getElem? (i := 9) rfl)) (fun _ h9 => h9) rfl hin rfl (by decide +kernel) rfl rfl (Nat.le_of_ble_eq_true rfl) dX2_init_36 (fun H locs hP hD hS => ?_)
  have hP : va_P (dC, dI) vwCl [(he, .inr (3, [.null, .ref q1, .ref q2, .ref q3, .ref q4, .ref q5, .null, .int 0, .int 0, .int 0])), (q5, .inl (kq1, 2, .inl (fun _ => (0 : Int32))))] H := hP
  have hD : va_D A [(he, .inr (3, [.null, .ref q1, .ref q2, .ref q3, .ref q4, .ref q5, .null, .int 0, .int 0, .int 0])), (q5, .inl (kq1, 2, .inl (fun _ => (0 : Int32))))] := hD
  have hP := hP.sub (ws' := [(he, .inr (3, [.null, .ref q1, .ref q2, .ref q3, .ref q4, .ref q5, .null, .int 0, .int 0, .int 0]))]) [0] rfl
  have hD := hD.sub (ws' := [(he, .inr (3, [.null, .ref q1, .ref q2, .ref q3, .ref q4, .ref q5, .null, .int 0, .int 0, .int 0]))]) [0] (by decide) rfl
  refine lv_aload_n hx hb dX2_init_39 rfl (lv_at hl 0 rfl) ?_
  refine lv_aload_n hx hb dX2_init_40 rfl (lv_at hl 1 rfl) ?_
  refine va_putF (D := (dC, dI)) (ci := 3) (v := .ref bk) (ty := .object "UnlikeBoats$Book") (C := RX2) (T := TX2) (N := 10) hx hb hts iw_c_HearingI_X2 tyX2 tyX2_ok nmX2 hown hK hP hD hS 0 rfl rfl 0 (by decide) (hts (.fieldLink RX2 27 "UnlikeBoats$Hearing" "book" "LUnlikeBoats$Book;") (List.mem_of_getElem? (i := 10) rfl)) (fun _ h9 => h9) rfl hin rfl (by decide +kernel) rfl rfl (Nat.le_of_ble_eq_true rfl) dX2_init_41 (fun H locs hP hD hS => ?_)
  have hP : va_P (dC, dI) vwCl [(he, .inr (3, [.ref bk, .ref q1, .ref q2, .ref q3, .ref q4, .ref q5, .null, .int 0, .int 0, .int 0]))] H := hP
  have hD : va_D A [(he, .inr (3, [.ref bk, .ref q1, .ref q2, .ref q3, .ref q4, .ref q5, .null, .int 0, .int 0, .int 0]))] := hD
  exact W.vret hx hb hr (fun t ht hW => ⟨⟨(), rfl, trivial, trivial⟩, hS.F ht⟩) hS.2.2 dX2_init_44
def A_c_ScoresI : List Cond := [.instanceMethod objectInit, .code objectInit ⟨#[0xb1]⟩ 1 none, .methodLink RX8 3 objectInit, .arrayClass .int, .fieldLink RX8 9 "UnlikeBoats$Scores" "plain" "[I", .fieldLink RX8 15 "UnlikeBoats$Scores" "points" "[I", .arrayClass .boolean, .fieldLink RX8 18 "UnlikeBoats$Scores" "out" "[Z", .fieldLink RX8 22 "UnlikeBoats$Scores" "scored" "[Z", .fieldLink RX8 25 "UnlikeBoats$Scores" "totals" "[I", .fieldLink RX8 28 "UnlikeBoats$Scores" "mine" "[I", .fieldLink RX8 31 "UnlikeBoats$Scores" "theirs" "[I", .fieldLink RX8 34 "UnlikeBoats$Scores" "book" "LUnlikeBoats$Book;", .fieldLink RX8 38 "UnlikeBoats$Scores" "sheet" "LUnlikeBoats$Sheet;"]
def v_c_ScoresI : List Cond := .code yX8_init cX8_init 3 none :: (A_c_ScoresI ++ wsX80)
theorem iw_c_ScoresI_X8 : ∀ w ∈ wsX80, w ∈ v_c_ScoresI := fun _ h => List.mem_cons_of_mem _ (List.mem_append_right _ (h))
set_option maxHeartbeats 4000000 in
set_option maxRecDepth 100000 in
theorem c_ScoresI (l : Launch) (dC : Nat → ClassId) (dI : Nat → Nat → Nat) (sc : Nat) (bk : Nat) (sh : Nat) (sz : Nat)  : Met l yX8_init v_c_ScoresI ({ frames := 1, cells := 7, slots := 1032, locals := 40 }) (va_Pc [.ref sc, .ref bk, .ref sh] (fun U => U.heap.size = sz ∧ va_P (dC, dI) vwCl [(sc, .inr (9, [.null, .null, .int 0, .null, .null, .null, .null, .null, .null, .null]))] U.heap ∧ va_K (dC, dI) vwCl [] U ∧ va_D (fun _ => True) [(sc, .inr (9, [.null, .null, .int 0, .null, .null, .null, .null, .null, .null, .null]))])) (va_Qv (S := Nat × Nat × Nat × Nat × Nat × Nat × Nat × ClassId) (fun _ => True) (fun u t => match u with | (spl, spo, sou, ssc, sto, smi, sth, cZ) => va_P (dC, dI) vwCl [(sc, .inr (9, [.ref bk, .ref sh, .int 0, .ref spl, .ref spo, .ref sou, .ref ssc, .ref sto, .ref smi, .ref sth])), (ssc, .inl (cZ, 16, .inl (fun _ => (0 : Int32))))] t.heap ∧ va_K (dC, dI) vwCl [(cZ, .boolean)] t ∧ va_D (va_A [(sc, .inr (9, [.null, .null, .int 0, .null, .null, .null, .null, .null, .null, .null]))] sz) [(sc, .inr (9, [.ref bk, .ref sh, .int 0, .ref spl, .ref spo, .ref sou, .ref ssc, .ref sto, .ref smi, .ref sth])), (ssc, .inl (cZ, 16, .inl (fun _ => (0 : Int32))))]) (va_A [(sc, .inr (9, [.null, .null, .int 0, .null, .null, .null, .null, .null, .null, .null]))] sz)) 7 1032 (va_A [(sc, .inr (9, [.null, .null, .int 0, .null, .null, .null, .null, .null, .null, .null]))] sz) := by
  refine Met.ofW (cc := cX8_init) (maxL := 3) (ret := none) (by decide) rfl ?_
  intro p e s m args below meth c s₁ B hml hv
  obtain ⟨rfl, hsz, hP, hK, hD0⟩ := hv
  have hx := B.exec
  have hb := B.bytes
  have hr := B.returns
  have hts := atoms_spec (ws := v_c_ScoresI) B.pre
  have hown : s.vm.findClass RX8 = some m.cls := findClass_of_methodNamed B.named
  have hlocks := B.notSynchronized
  have hin : meth.name = "<init>" := (name_of_methodNamed B.named B.method).1
  subst hsz
  have hD := hD0.self (sz := s.heap.size)
  generalize hAe : va_A [(sc, .inr (9, [.null, .null, .int 0, .null, .null, .null, .null, .null, .null, .null]))] s.heap.size = A at hD ⊢
  have hA : ∀ q : Nat, s.heap.size ≤ q → A q := fun q h => by rw [← hAe]; exact Or.inr h
  have hS : va_S A s.heap s.heap [] := va_S.rf
  have hP : va_P (dC, dI) vwCl [(sc, .inr (9, [.null, .null, .int 0, .null, .null, .null, .null, .null, .null, .null]))] s.heap := hP
  have hl := lv_entry ([.ref sc, .ref bk, .ref sh]) (n := 3) (Nat.le_of_ble_eq_true rfl)
  rw [lg_entry_eq]
  generalize (lg_sl ([.ref sc, .ref bk, .ref sh]) ++ List.replicate (3 - (lg_sl ([.ref sc, .ref bk, .ref sh])).length) Slot.unset).toArray = ls at hl ⊢
  have hl : lv_has ls 3 [(0, .ref sc), (1, .ref bk), (2, .ref sh)] := hl
  refine lv_aload_n hx hb dX8_init_0 rfl (lv_at hl 0 rfl) ?_
  refine W.objInit hx hb hown (hts (.methodLink RX8 3 objectInit) (List.mem_of_getElem? (i := 3) rfl)) (hts (.instanceMethod objectInit) (List.mem_of_getElem? (i := 1) rfl)) (hts (.code objectInit ⟨#[0xb1]⟩ 1 none) (List.mem_of_getElem? (i := 2) rfl)) rfl (by rw [hml]; exact hl.1) rfl dX8_init_1 (Nat.le_of_ble_eq_true rfl) (Nat.le_of_ble_eq_true rfl) ?_
  refine W.eq (g2 := F0 m 4 ls []) rfl ?_
  refine lv_aload_n hx hb dX8_init_4 rfl (lv_at hl 0 rfl) ?_
  refine lv_sipush (v := 320) hx hb dX8_init_5 (by decide) ?_
  refine va_newa (atype := .int) (ty := .int) (N' := 320) (a0 := (320, .inl (fun _ => (0 : Int32)))) hx hb (hts (.arrayClass .int) (List.mem_of_getElem? (i := 4) rfl)) rfl hK hP hD hS hA (fun _ => rfl) (by decide) (by decide) (Nat.le_of_ble_eq_true rfl) (Nat.le_of_ble_eq_true rfl) (Nat.le_of_ble_eq_true rfl) dX8_init_8 (fun q1 kq1 H hK hP hD hS => ?_)
  have hK : va_K (dC, dI) vwCl [(kq1, .int)] s := hK
  have hP : va_P (dC, dI) vwCl [(sc, .inr (9, [.null, .null, .int 0, .null, .null, .null, .null, .null, .null, .null])), (q1, .inl (kq1, 320, .inl (fun _ => (0 : Int32))))] H := hP
  have hD : va_D A [(sc, .inr (9, [.null, .null, .int 0, .null, .null, .null, .null, .null, .null, .null])), (q1, .inl (kq1, 320, .inl (fun _ => (0 : Int32))))] := hD
  refine W.widen (k := 1) (n := 320) (by omega) (by omega) ?_
  refine va_putF (D := (dC, dI)) (ci := 9) (v := .ref q1) (ty := .array .int) (C := RX8) (T := TX8) (N := 10) hx hb hts iw_c_ScoresI_X8 tyX8 tyX8_ok nmX8 hown hK hP hD hS 0 rfl rfl 3 (by decide) (hts (.fieldLink RX8 9 "UnlikeBoats$Scores" "plain" "[I") (List.mem_of_getElem? (i := 5) rfl)) (fun _ h9 => h9) rfl hin rfl (by decide +kernel) rfl rfl (Nat.le_of_ble_eq_true rfl) dX8_init_10 (fun H locs hP hD hS => ?_)
  have hP : va_P (dC, dI) vwCl [(sc, .inr (9, [.null, .null, .int 0, .ref q1, .null, .null, .null, .null, .null, .null])), (q1, .inl (kq1, 320, .inl (fun _ => (0 : Int32))))] H := hP
  have hD : va_D A [(sc, .inr (9, [.null, .null, .int 0, .ref q1, .null, .null, .null, .null, .null, .null])), (q1, .inl (kq1, 320, .inl (fun _ => (0 : Int32))))] := hD
  have hP := hP.sub (ws' := [(sc, .inr (9, [.null, .null, .int 0, .ref q1, .null, .null, .null, .null, .null, .null]))]) [0] rfl
  have hD := hD.sub (ws' := [(sc, .inr (9, [.null, .null, .int 0, .ref q1, .null, .null, .null, .null, .null, .null]))]) [0] (by decide) rfl
  refine lv_aload_n hx hb dX8_init_13 rfl (lv_at hl 0 rfl) ?_
  refine lv_sipush (v := 320) hx hb dX8_init_14 (by decide) ?_
  refine va_newa (atype := .int) (ty := .int) (N' := 320) (a0 := (320, .inl (fun _ => (0 : Int32)))) hx hb (hts (.arrayClass .int) (List.mem_of_getElem? (i := 4) rfl)) rfl hK hP hD hS hA (fun _ => rfl) (by decide) (by decide) (Nat.le_of_ble_eq_true rfl) (Nat.le_of_ble_eq_true rfl) (Nat.le_of_ble_eq_true rfl) dX8_init_17 (fun q2 kq2 H hK hP hD hS => ?_)
  have hK : va_K (dC, dI) vwCl [(kq1, .int), (kq2, .int)] s := hK
  have hP : va_P (dC, dI) vwCl [(sc, .inr (9, [.null, .null, .int 0, .ref q1, .null, .null, .null, .null, .null, .null])), (q2, .inl (kq2, 320, .inl (fun _ => (0 : Int32))))] H := hP
  have hD : va_D A [(sc, .inr (9, [.null, .null, .int 0, .ref q1, .null, .null, .null, .null, .null, .null])), (q2, .inl (kq2, 320, .inl (fun _ => (0 : Int32))))] := hD
  refine W.widen (k := 2) (n := 640) (by omega) (by omega) ?_
  obtain rfl : kq1 = kq2 := ub_sa_int hK 0 1 rfl rfl
  have hK := hK.sub (tys' := [(kq1, .int)]) [0] rfl
  refine va_putF (D := (dC, dI)) (ci := 9) (v := .ref q2) (ty := .array .int) (C := RX8) (T := TX8) (N := 10) hx hb hts iw_c_ScoresI_X8 tyX8 tyX8_ok nmX8 hown hK hP hD hS 0 rfl rfl 4 (by decide) (hts (.fieldLink RX8 15 "UnlikeBoats$Scores" "points" "[I") (List.mem_of_getElem? (i := 6) rfl)) (fun _ h9 => h9) rfl hin rfl (by decide +kernel) rfl rfl (Nat.le_of_ble_eq_true rfl) dX8_init_19 (fun H locs hP hD hS => ?_)
  have hP : va_P (dC, dI) vwCl [(sc, .inr (9, [.null, .null, .int 0, .ref q1, .ref q2, .null, .null, .null, .null, .null])), (q2, .inl (kq1, 320, .inl (fun _ => (0 : Int32))))] H := hP
  have hD : va_D A [(sc, .inr (9, [.null, .null, .int 0, .ref q1, .ref q2, .null, .null, .null, .null, .null])), (q2, .inl (kq1, 320, .inl (fun _ => (0 : Int32))))] := hD
  have hP := hP.sub (ws' := [(sc, .inr (9, [.null, .null, .int 0, .ref q1, .ref q2, .null, .null, .null, .null, .null]))]) [0] rfl
  have hD := hD.sub (ws' := [(sc, .inr (9, [.null, .null, .int 0, .ref q1, .ref q2, .null, .null, .null, .null, .null]))]) [0] (by decide) rfl
  refine lv_aload_n hx hb dX8_init_22 rfl (lv_at hl 0 rfl) ?_
  refine lv_sipush (v := 320) hx hb dX8_init_23 (by decide) ?_
  refine va_newa (atype := .boolean) (ty := .boolean) (N' := 320) (a0 := (320, .inl (fun _ => (0 : Int32)))) hx hb (hts (.arrayClass .boolean) (List.mem_of_getElem? (i := 7) rfl)) rfl hK hP hD hS hA (fun _ => rfl) (by decide) (by decide) (Nat.le_of_ble_eq_true rfl) (Nat.le_of_ble_eq_true rfl) (Nat.le_of_ble_eq_true rfl) dX8_init_26 (fun q3 kq3 H hK hP hD hS => ?_)
  have hK : va_K (dC, dI) vwCl [(kq1, .int), (kq3, .boolean)] s := hK
  have hP : va_P (dC, dI) vwCl [(sc, .inr (9, [.null, .null, .int 0, .ref q1, .ref q2, .null, .null, .null, .null, .null])), (q3, .inl (kq3, 320, .inl (fun _ => (0 : Int32))))] H := hP
  have hD : va_D A [(sc, .inr (9, [.null, .null, .int 0, .ref q1, .ref q2, .null, .null, .null, .null, .null])), (q3, .inl (kq3, 320, .inl (fun _ => (0 : Int32))))] := hD
  refine W.widen (k := 3) (n := 960) (by omega) (by omega) ?_
  refine va_putF (D := (dC, dI)) (ci := 9) (v := .ref q3) (ty := .array .boolean) (C := RX8) (T := TX8) (N := 10) hx hb hts iw_c_ScoresI_X8 tyX8 tyX8_ok nmX8 hown hK hP hD hS 0 rfl rfl 5 (by decide) (hts (.fieldLink RX8 18 "UnlikeBoats$Scores" "out" "[Z") (List.mem_of_getElem? (i := 8) rfl)) (fun _ h9 => h9) rfl hin rfl (by decide +kernel) rfl rfl (Nat.le_of_ble_eq_true rfl) dX8_init_28 (fun H locs hP hD hS => ?_)
  have hP : va_P (dC, dI) vwCl [(sc, .inr (9, [.null, .null, .int 0, .ref q1, .ref q2, .ref q3, .null, .null, .null, .null])), (q3, .inl (kq3, 320, .inl (fun _ => (0 : Int32))))] H := hP
  have hD : va_D A [(sc, .inr (9, [.null, .null, .int 0, .ref q1, .ref q2, .ref q3, .null, .null, .null, .null])), (q3, .inl (kq3, 320, .inl (fun _ => (0 : Int32))))] := hD
  have hP := hP.sub (ws' := [(sc, .inr (9, [.null, .null, .int 0, .ref q1, .ref q2, .ref q3, .null, .null, .null, .null]))]) [0] rfl
  have hD := hD.sub (ws' := [(sc, .inr (9, [.null, .null, .int 0, .ref q1, .ref q2, .ref q3, .null, .null, .null, .null]))]) [0] (by decide) rfl
  refine lv_aload_n hx hb dX8_init_31 rfl (lv_at hl 0 rfl) ?_
  refine lv_bipush (v := 16) hx hb dX8_init_32 (by decide) ?_
  refine va_newa (atype := .boolean) (ty := .boolean) (N' := 16) (a0 := (16, .inl (fun _ => (0 : Int32)))) hx hb (hts (.arrayClass .boolean) (List.mem_of_getElem? (i := 7) rfl)) rfl hK hP hD hS hA (fun _ => rfl) (by decide) (by decide) (Nat.le_of_ble_eq_true rfl) (Nat.le_of_ble_eq_true rfl) (Nat.le_of_ble_eq_true rfl) dX8_init_34 (fun q4 kq4 H hK hP hD hS => ?_)
  have hK : va_K (dC, dI) vwCl [(kq1, .int), (kq3, .boolean), (kq4, .boolean)] s := hK
  have hP : va_P (dC, dI) vwCl [(sc, .inr (9, [.null, .null, .int 0, .ref q1, .ref q2, .ref q3, .null, .null, .null, .null])), (q4, .inl (kq4, 16, .inl (fun _ => (0 : Int32))))] H := hP
  have hD : va_D A [(sc, .inr (9, [.null, .null, .int 0, .ref q1, .ref q2, .ref q3, .null, .null, .null, .null])), (q4, .inl (kq4, 16, .inl (fun _ => (0 : Int32))))] := hD
  refine W.widen (k := 4) (n := 976) (by omega) (by omega) ?_
  obtain rfl : kq3 = kq4 := ub_sa_boolean hK 1 2 rfl rfl
  have hK := hK.sub (tys' := [(kq1, .int), (kq3, .boolean)]) [0, 1] rfl
  refine va_putF (D := (dC, dI)) (ci := 9) (v := .ref q4) (ty := .array .boolean) (C := RX8) (T := TX8) (N := 10) hx hb hts iw_c_ScoresI_X8 tyX8 tyX8_ok nmX8 hown hK hP hD hS 0 rfl rfl 6 (by decide) (hts (.fieldLink RX8 22 "UnlikeBoats$Scores" "scored" "[Z") (List.mem_of_getElem? (i := 9) rfl)) (fun _ h9 => h9) rfl hin rfl (by decide +kernel) rfl rfl (Nat.le_of_ble_eq_true rfl) dX8_init_36 (fun H locs hP hD hS => ?_)
  have hP : va_P (dC, dI) vwCl [(sc, .inr (9, [.null, .null, .int 0, .ref q1, .ref q2, .ref q3, .ref q4, .null, .null, .null])), (q4, .inl (kq3, 16, .inl (fun _ => (0 : Int32))))] H := hP
  have hD : va_D A [(sc, .inr (9, [.null, .null, .int 0, .ref q1, .ref q2, .ref q3, .ref q4, .null, .null, .null])), (q4, .inl (kq3, 16, .inl (fun _ => (0 : Int32))))] := hD
  refine lv_aload_n hx hb dX8_init_39 rfl (lv_at hl 0 rfl) ?_
  refine lv_bipush (v := 16) hx hb dX8_init_40 (by decide) ?_
  refine va_newa (atype := .int) (ty := .int) (N' := 16) (a0 := (16, .inl (fun _ => (0 : Int32)))) hx hb (hts (.arrayClass .int) (List.mem_of_getElem? (i := 4) rfl)) rfl hK hP hD hS hA (fun _ => rfl) (by decide) (by decide) (Nat.le_of_ble_eq_true rfl) (Nat.le_of_ble_eq_true rfl) (Nat.le_of_ble_eq_true rfl) dX8_init_42 (fun q5 kq5 H hK hP hD hS => ?_)
  have hK : va_K (dC, dI) vwCl [(kq1, .int), (kq3, .boolean), (kq5, .int)] s := hK
  have hP : va_P (dC, dI) vwCl [(sc, .inr (9, [.null, .null, .int 0, .ref q1, .ref q2, .ref q3, .ref q4, .null, .null, .null])), (q4, .inl (kq3, 16, .inl (fun _ => (0 : Int32)))), (q5, .inl (kq5, 16, .inl (fun _ => (0 : Int32))))] H := hP
  have hD : va_D A [(sc, .inr (9, [.null, .null, .int 0, .ref q1, .ref q2, .ref q3, .ref q4, .null, .null, .null])), (q4, .inl (kq3, 16, .inl (fun _ => (0 : Int32)))), (q5, .inl (kq5, 16, .inl (fun _ => (0 : Int32))))] := hD
  refine W.widen (k := 5) (n := 992) (by omega) (by omega) ?_
  obtain rfl : kq1 = kq5 := ub_sa_int hK 0 2 rfl rfl
  have hK := hK.sub (tys' := [(kq1, .int), (kq3, .boolean)]) [0, 1] rfl
  refine va_putF (D := (dC, dI)) (ci := 9) (v := .ref q5) (ty := .array .int) (C := RX8) (T := TX8) (N := 10) hx hb hts iw_c_ScoresI_X8 tyX8 tyX8_ok nmX8 hown hK hP hD hS 0 rfl rfl 7 (by decide) (hts (.fieldLink RX8 25 "UnlikeBoats$Scores" "totals" "[I") (List.mem_of_getElem? (i := 10) rfl)) (fun _ h9 => h9) rfl hin rfl (by decide +kernel) rfl rfl (Nat.le_of_ble_eq_true rfl) dX8_init_44 (fun H locs hP hD hS => ?_)
  have hP : va_P (dC, dI) vwCl [(sc, .inr (9, [.null, .null, .int 0, .ref q1, .ref q2, .ref q3, .ref q4, .ref q5, .null, .null])), (q4, .inl (kq3, 16, .inl (fun _ => (0 : Int32)))), (q5, .inl (kq1, 16, .inl (fun _ => (0 : Int32))))] H := hP
  have hD : va_D A [(sc, .inr (9, [.null, .null, .int 0, .ref q1, .ref q2, .ref q3, .ref q4, .ref q5, .null, .null])), (q4, .inl (kq3, 16, .inl (fun _ => (0 : Int32)))), (q5, .inl (kq1, 16, .inl (fun _ => (0 : Int32))))] := hD
  have hP := hP.sub (ws' := [(sc, .inr (9, [.null, .null, .int 0, .ref q1, .ref q2, .ref q3, .ref q4, .ref q5, .null, .null])), (q4, .inl (kq3, 16, .inl (fun _ => (0 : Int32))))]) [0, 1] rfl
  have hD := hD.sub (ws' := [(sc, .inr (9, [.null, .null, .int 0, .ref q1, .ref q2, .ref q3, .ref q4, .ref q5, .null, .null])), (q4, .inl (kq3, 16, .inl (fun _ => (0 : Int32))))]) [0, 1] (by decide) rfl
  refine lv_aload_n hx hb dX8_init_47 rfl (lv_at hl 0 rfl) ?_
  refine lv_bipush (v := 20) hx hb dX8_init_48 (by decide) ?_
  refine va_newa (atype := .int) (ty := .int) (N' := 20) (a0 := (20, .inl (fun _ => (0 : Int32)))) hx hb (hts (.arrayClass .int) (List.mem_of_getElem? (i := 4) rfl)) rfl hK hP hD hS hA (fun _ => rfl) (by decide) (by decide) (Nat.le_of_ble_eq_true rfl) (Nat.le_of_ble_eq_true rfl) (Nat.le_of_ble_eq_true rfl) dX8_init_50 (fun q6 kq6 H hK hP hD hS => ?_)
  have hK : va_K (dC, dI) vwCl [(kq1, .int), (kq3, .boolean), (kq6, .int)] s := hK
  have hP : va_P (dC, dI) vwCl [(sc, .inr (9, [.null, .null, .int 0, .ref q1, .ref q2, .ref q3, .ref q4, .ref q5, .null, .null])), (q4, .inl (kq3, 16, .inl (fun _ => (0 : Int32)))), (q6, .inl (kq6, 20, .inl (fun _ => (0 : Int32))))] H := hP
  have hD : va_D A [(sc, .inr (9, [.null, .null, .int 0, .ref q1, .ref q2, .ref q3, .ref q4, .ref q5, .null, .null])), (q4, .inl (kq3, 16, .inl (fun _ => (0 : Int32)))), (q6, .inl (kq6, 20, .inl (fun _ => (0 : Int32))))] := hD
  refine W.widen (k := 6) (n := 1012) (by omega) (by omega) ?_
  obtain rfl : kq1 = kq6 := ub_sa_int hK 0 2 rfl rfl
  have hK := hK.sub (tys' := [(kq1, .int), (kq3, .boolean)]) [0, 1] rfl
  refine va_putF (D := (dC, dI)) (ci := 9) (v := .ref q6) (ty := .array .int) (C := RX8) (T := TX8) (N := 10) hx hb hts iw_c_ScoresI_X8 tyX8 tyX8_ok nmX8 hown hK hP hD hS 0 rfl rfl 8 (by decide) (hts (.fieldLink RX8 28 "UnlikeBoats$Scores" "mine" "[I") (List.mem_of_getElem? (i := 11) rfl)) (fun _ h9 => h9) rfl hin rfl (by decide +kernel) rfl rfl (Nat.le_of_ble_eq_true rfl) dX8_init_52 (fun H locs hP hD hS => ?_)
  have hP : va_P (dC, dI) vwCl [(sc, .inr (9, [.null, .null, .int 0, .ref q1, .ref q2, .ref q3, .ref q4, .ref q5, .ref q6, .null])), (q4, .inl (kq3, 16, .inl (fun _ => (0 : Int32)))), (q6, .inl (kq1, 20, .inl (fun _ => (0 : Int32))))] H := hP
  have hD : va_D A [(sc, .inr (9, [.null, .null, .int 0, .ref q1, .ref q2, .ref q3, .ref q4, .ref q5, .ref q6, .null])), (q4, .inl (kq3, 16, .inl (fun _ => (0 : Int32)))), (q6, .inl (kq1, 20, .inl (fun _ => (0 : Int32))))] := hD
  have hP := hP.sub (ws' := [(sc, .inr (9, [.null, .null, .int 0, .ref q1, .ref q2, .ref q3, .ref q4, .ref q5, .ref q6, .null])), (q4, .inl (kq3, 16, .inl (fun _ => (0 : Int32))))]) [0, 1] rfl
  have hD := hD.sub (ws' := [(sc, .inr (9, [.null, .null, .int 0, .ref q1, .ref q2, .ref q3, .ref q4, .ref q5, .ref q6, .null])), (q4, .inl (kq3, 16, .inl (fun _ => (0 : Int32))))]) [0, 1] (by decide) rfl
  refine lv_aload_n hx hb dX8_init_55 rfl (lv_at hl 0 rfl) ?_
  refine lv_bipush (v := 20) hx hb dX8_init_56 (by decide) ?_
  refine va_newa (atype := .int) (ty := .int) (N' := 20) (a0 := (20, .inl (fun _ => (0 : Int32)))) hx hb (hts (.arrayClass .int) (List.mem_of_getElem? (i := 4) rfl)) rfl hK hP hD hS hA (fun _ => rfl) (by decide) (by decide) (Nat.le_of_ble_eq_true rfl) (Nat.le_of_ble_eq_true rfl) (Nat.le_of_ble_eq_true rfl) dX8_init_58 (fun q7 kq7 H hK hP hD hS => ?_)
  have hK : va_K (dC, dI) vwCl [(kq1, .int), (kq3, .boolean), (kq7, .int)] s := hK
  have hP : va_P (dC, dI) vwCl [(sc, .inr (9, [.null, .null, .int 0, .ref q1, .ref q2, .ref q3, .ref q4, .ref q5, .ref q6, .null])), (q4, .inl (kq3, 16, .inl (fun _ => (0 : Int32)))), (q7, .inl (kq7, 20, .inl (fun _ => (0 : Int32))))] H := hP
  have hD : va_D A [(sc, .inr (9, [.null, .null, .int 0, .ref q1, .ref q2, .ref q3, .ref q4, .ref q5, .ref q6, .null])), (q4, .inl (kq3, 16, .inl (fun _ => (0 : Int32)))), (q7, .inl (kq7, 20, .inl (fun _ => (0 : Int32))))] := hD
  refine W.widen (k := 7) (n := 1032) (by omega) (by omega) ?_
  obtain rfl : kq1 = kq7 := ub_sa_int hK 0 2 rfl rfl
  have hK := hK.sub (tys' := [(kq1, .int), (kq3, .boolean)]) [0, 1] rfl
  refine va_putF (D := (dC, dI)) (ci := 9) (v := .ref q7) (ty := .array .int) (C := RX8) (T := TX8) (N := 10) hx hb hts iw_c_ScoresI_X8 tyX8 tyX8_ok nmX8 hown hK hP hD hS 0 rfl rfl 9 (by decide) (hts (.fieldLink RX8 31 "UnlikeBoats$Scores" "theirs" "[I") (List.mem_of_getElem? (i := 12) rfl)) (fun _ h9 => h9) rfl hin rfl (by decide +kernel) rfl rfl (Nat.le_of_ble_eq_true rfl) dX8_init_60 (fun H locs hP hD hS => ?_)
  have hP : va_P (dC, dI) vwCl [(sc, .inr (9, [.null, .null, .int 0, .ref q1, .ref q2, .ref q3, .ref q4, .ref q5, .ref q6, .ref q7])), (q4, .inl (kq3, 16, .inl (fun _ => (0 : Int32)))), (q7, .inl (kq1, 20, .inl (fun _ => (0 : Int32))))] H := hP
  have hD : va_D A [(sc, .inr (9, [.null, .null, .int 0, .ref q1, .ref q2, .ref q3, .ref q4, .ref q5, .ref q6, .ref q7])), (q4, .inl (kq3, 16, .inl (fun _ => (0 : Int32)))), (q7, .inl (kq1, 20, .inl (fun _ => (0 : Int32))))] := hD
  have hP := hP.sub (ws' := [(sc, .inr (9, [.null, .null, .int 0, .ref q1, .ref q2, .ref q3, .ref q4, .ref q5, .ref q6, .ref q7])), (q4, .inl (kq3, 16, .inl (fun _ => (0 : Int32))))]) [0, 1] rfl
  have hD := hD.sub (ws' := [(sc, .inr (9, [.null, .null, .int 0, .ref q1, .ref q2, .ref q3, .ref q4, .ref q5, .ref q6, .ref q7])), (q4, .inl (kq3, 16, .inl (fun _ => (0 : Int32))))]) [0, 1] (by decide) rfl
  refine lv_aload_n hx hb dX8_init_63 rfl (lv_at hl 0 rfl) ?_
  refine lv_aload_n hx hb dX8_init_64 rfl (lv_at hl 1 rfl) ?_
  refine va_putF (D := (dC, dI)) (ci := 9) (v := .ref bk) (ty := .object "UnlikeBoats$Book") (C := RX8) (T := TX8) (N := 10) hx hb hts iw_c_ScoresI_X8 tyX8 tyX8_ok nmX8 hown hK hP hD hS 0 rfl rfl 0 (by decide) (hts (.fieldLink RX8 34 "UnlikeBoats$Scores" "book" "LUnlikeBoats$Book;") (List.mem_of_getElem? (i := 13) rfl)) (fun _ h9 => h9) rfl hin rfl (by decide +kernel) rfl rfl (Nat.le_of_ble_eq_true rfl) dX8_init_65 (fun H locs hP hD hS => ?_)
  have hP : va_P (dC, dI) vwCl [(sc, .inr (9, [.ref bk, .null, .int 0, .ref q1, .ref q2, .ref q3, .ref q4, .ref q5, .ref q6, .ref q7])), (q4, .inl (kq3, 16, .inl (fun _ => (0 : Int32))))] H := hP
  have hD : va_D A [(sc, .inr (9, [.ref bk, .null, .int 0, .ref q1, .ref q2, .ref q3, .ref q4, .ref q5, .ref q6, .ref q7])), (q4, .inl (kq3, 16, .inl (fun _ => (0 : Int32))))] := hD
  refine lv_aload_n hx hb dX8_init_68 rfl (lv_at hl 0 rfl) ?_
  refine lv_aload_n hx hb dX8_init_69 rfl (lv_at hl 2 rfl) ?_
  refine va_putF (D := (dC, dI)) (ci := 9) (v := .ref sh) (ty := .object "UnlikeBoats$Sheet") (C := RX8) (T := TX8) (N := 10) hx hb hts iw_c_ScoresI_X8 tyX8 tyX8_ok nmX8 hown hK hP hD hS 0 rfl rfl 1 (by decide) (hts (.fieldLink RX8 38 "UnlikeBoats$Scores" "sheet" "LUnlikeBoats$Sheet;") (List.mem_of_getElem? (i := 14) rfl)) (fun _ h9 => h9) rfl hin rfl (by decide +kernel) rfl rfl (Nat.le_of_ble_eq_true rfl) dX8_init_70 (fun H locs hP hD hS => ?_)
  have hP : va_P (dC, dI) vwCl [(sc, .inr (9, [.ref bk, .ref sh, .int 0, .ref q1, .ref q2, .ref q3, .ref q4, .ref q5, .ref q6, .ref q7])), (q4, .inl (kq3, 16, .inl (fun _ => (0 : Int32))))] H := hP
  have hD : va_D A [(sc, .inr (9, [.ref bk, .ref sh, .int 0, .ref q1, .ref q2, .ref q3, .ref q4, .ref q5, .ref q6, .ref q7])), (q4, .inl (kq3, 16, .inl (fun _ => (0 : Int32))))] := hD
  have hP9 := hP.sub (ws' := [(sc, .inr (9, [.ref bk, .ref sh, .int 0, .ref q1, .ref q2, .ref q3, .ref q4, .ref q5, .ref q6, .ref q7])), (q4, .inl (kq3, 16, .inl (fun _ => (0 : Int32))))]) [0, 1] rfl
  have hD9 := hD.sub (ws' := [(sc, .inr (9, [.ref bk, .ref sh, .int 0, .ref q1, .ref q2, .ref q3, .ref q4, .ref q5, .ref q6, .ref q7])), (q4, .inl (kq3, 16, .inl (fun _ => (0 : Int32))))]) [0, 1] (by decide) rfl
  have hK9 := hK.sub (tys' := [(kq3, .boolean)]) [1] rfl
  exact W.vret hx hb hr (fun t ht hW => ⟨⟨(q1, q2, q3, q4, q5, q6, q7, kq3), rfl, trivial, (by rw [ht]; exact hP9), va_K.moved hW.alike hK9, hD9⟩, hS.F ht⟩) hS.2.2 dX8_init_73
def A_c_OfficeI : List Cond := [.instanceMethod objectInit, .code objectInit ⟨#[0xb1]⟩ 1 none, .methodLink RX3 5 objectInit, .arrayClass .boolean, .fieldLink RX3 11 "UnlikeBoats$Office" "finished" "[Z", .arrayClass .int, .fieldLink RX3 15 "UnlikeBoats$Office" "seconds" "[I", .fieldLink RX3 19 "UnlikeBoats$Office" "numbers" "[I", .fieldLink RX3 22 "UnlikeBoats$Office" "times" "[I", .fieldLink RX3 25 "UnlikeBoats$Office" "counted" "[I", .fieldLink RX3 28 "UnlikeBoats$Office" "middles" "[I", .fieldLink RX3 31 "UnlikeBoats$Office" "own" "[I", .fieldLink RX3 34 "UnlikeBoats$Office" "ratios" "[I", .fieldLink RX3 37 "UnlikeBoats$Office" "row" "[I", .fieldLink RX3 40 "UnlikeBoats$Office" "changed" "[I", .fieldLink RX3 43 "UnlikeBoats$Office" "evened" "[I", .fieldLink RX3 46 "UnlikeBoats$Office" "tried" "[I", .fieldLink RX3 49 "UnlikeBoats$Office" "best" "[I", .fieldLink RX3 52 "UnlikeBoats$Office" "weights" "[I", .fieldLink RX3 55 "UnlikeBoats$Office" "book" "LUnlikeBoats$Book;", .fieldLink RX3 59 "UnlikeBoats$Office" "sheet" "LUnlikeBoats$Sheet;"]
def v_c_OfficeI : List Cond := .code yX3_init cX3_init 3 none :: (A_c_OfficeI ++ wsX30)
theorem iw_c_OfficeI_X3 : ∀ w ∈ wsX30, w ∈ v_c_OfficeI := fun _ h => List.mem_cons_of_mem _ (List.mem_append_right _ (h))
set_option maxHeartbeats 4000000 in
set_option maxRecDepth 100000 in
theorem c_OfficeI (l : Launch) (dC : Nat → ClassId) (dI : Nat → Nat → Nat) (of : Nat) (bk : Nat) (sh : Nat) (sz : Nat)  : Met l yX3_init v_c_OfficeI ({ frames := 1, cells := 14, slots := 1964, locals := 40 }) (va_Pc [.ref of, .ref bk, .ref sh] (fun U => U.heap.size = sz ∧ va_P (dC, dI) vwCl [(of, .inr (4, [.null, .null, .null, .null, .null, .null, .null, .null, .null, .null, .null, .null, .null, .null, .null, .int 0, .int 0, .null]))] U.heap ∧ va_K (dC, dI) vwCl [] U ∧ va_D (fun _ => True) [(of, .inr (4, [.null, .null, .null, .null, .null, .null, .null, .null, .null, .null, .null, .null, .null, .null, .null, .int 0, .int 0, .null]))])) (va_Qv (S := Nat × Nat × Nat × Nat × Nat × Nat × Nat × Nat × Nat × Nat × Nat × Nat × Nat × Nat × ClassId) (fun _ => True) (fun u t => match u with | (o2, o3, o4, o5, o6, o7, o8, o9, o10, o11, o12, o13, o14, o17, cI) => va_P (dC, dI) vwCl [(of, .inr (4, [.ref bk, .ref sh, .ref o2, .ref o3, .ref o4, .ref o5, .ref o6, .ref o7, .ref o8, .ref o9, .ref o10, .ref o11, .ref o12, .ref o13, .ref o14, .int 0, .int 0, .ref o17])), (o17, .inl (cI, 16, .inl (fun _ => (0 : Int32))))] t.heap ∧ va_K (dC, dI) vwCl [(cI, .int)] t ∧ va_D (va_A [(of, .inr (4, [.null, .null, .null, .null, .null, .null, .null, .null, .null, .null, .null, .null, .null, .null, .null, .int 0, .int 0, .null]))] sz) [(of, .inr (4, [.ref bk, .ref sh, .ref o2, .ref o3, .ref o4, .ref o5, .ref o6, .ref o7, .ref o8, .ref o9, .ref o10, .ref o11, .ref o12, .ref o13, .ref o14, .int 0, .int 0, .ref o17])), (o17, .inl (cI, 16, .inl (fun _ => (0 : Int32))))]) (va_A [(of, .inr (4, [.null, .null, .null, .null, .null, .null, .null, .null, .null, .null, .null, .null, .null, .null, .null, .int 0, .int 0, .null]))] sz)) 14 1964 (va_A [(of, .inr (4, [.null, .null, .null, .null, .null, .null, .null, .null, .null, .null, .null, .null, .null, .null, .null, .int 0, .int 0, .null]))] sz) := by
  refine Met.ofW (cc := cX3_init) (maxL := 3) (ret := none) (by decide) rfl ?_
  intro p e s m args below meth c s₁ B hml hv
  obtain ⟨rfl, hsz, hP, hK, hD0⟩ := hv
  have hx := B.exec
  have hb := B.bytes
  have hr := B.returns
  have hts := atoms_spec (ws := v_c_OfficeI) B.pre
  have hown : s.vm.findClass RX3 = some m.cls := findClass_of_methodNamed B.named
  have hlocks := B.notSynchronized
  have hin : meth.name = "<init>" := (name_of_methodNamed B.named B.method).1
  subst hsz
  have hD := hD0.self (sz := s.heap.size)
  generalize hAe : va_A [(of, .inr (4, [.null, .null, .null, .null, .null, .null, .null, .null, .null, .null, .null, .null, .null, .null, .null, .int 0, .int 0, .null]))] s.heap.size = A at hD ⊢
  have hA : ∀ q : Nat, s.heap.size ≤ q → A q := fun q h => by rw [← hAe]; exact Or.inr h
  have hS : va_S A s.heap s.heap [] := va_S.rf
  have hP : va_P (dC, dI) vwCl [(of, .inr (4, [.null, .null, .null, .null, .null, .null, .null, .null, .null, .null, .null, .null, .null, .null, .null, .int 0, .int 0, .null]))] s.heap := hP
  have hl := lv_entry ([.ref of, .ref bk, .ref sh]) (n := 3) (Nat.le_of_ble_eq_true rfl)
  rw [lg_entry_eq]
  generalize (lg_sl ([.ref of, .ref bk, .ref sh]) ++ List.replicate (3 - (lg_sl ([.ref of, .ref bk, .ref sh])).length) Slot.unset).toArray = ls at hl ⊢
  have hl : lv_has ls 3 [(0, .ref of), (1, .ref bk), (2, .ref sh)] := hl
  refine lv_aload_n hx hb dX3_init_0 rfl (lv_at hl 0 rfl) ?_
  refine W.objInit hx hb hown (hts (.methodLink RX3 5 objectInit) (List.mem_of_getElem? (i := 3) rfl)) (hts (.instanceMethod objectInit) (List.mem_of_getElem? (i := 1) rfl)) (hts (.code objectInit ⟨#[0xb1]⟩ 1 none) (List.mem_of_getElem? (i := 2) rfl)) rfl (by rw [hml]; exact hl.1) rfl dX3_init_1 (Nat.le_of_ble_eq_true rfl) (Nat.le_of_ble_eq_true rfl) ?_
  refine W.eq (g2 := F0 m 4 ls []) rfl ?_
  refine lv_aload_n hx hb dX3_init_4 rfl (lv_at hl 0 rfl) ?_
  refine lv_sipush (v := 320) hx hb dX3_init_5 (by decide) ?_
  refine va_newa (atype := .boolean) (ty := .boolean) (N' := 320) (a0 := (320, .inl (fun _ => (0 : Int32)))) hx hb (hts (.arrayClass .boolean) (List.mem_of_getElem? (i := 4) rfl)) rfl hK hP hD hS hA (fun _ => rfl) (by decide) (by decide) (Nat.le_of_ble_eq_true rfl) (Nat.le_of_ble_eq_true rfl) (Nat.le_of_ble_eq_true rfl) dX3_init_8 (fun q1 kq1 H hK hP hD hS => ?_)
  have hK : va_K (dC, dI) vwCl [(kq1, .boolean)] s := hK
  have hP : va_P (dC, dI) vwCl [(of, .inr (4, [.null, .null, .null, .null, .null, .null, .null, .null, .null, .null, .null, .null, .null, .null, .null, .int 0, .int 0, .null])), (q1, .inl (kq1, 320, .inl (fun _ => (0 : Int32))))] H := hP
  have hD : va_D A [(of, .inr (4, [.null, .null, .null, .null, .null, .null, .null, .null, .null, .null, .null, .null, .null, .null, .null, .int 0, .int 0, .null])), (q1, .inl (kq1, 320, .inl (fun _ => (0 : Int32))))] := hD
  refine W.widen (k := 1) (n := 320) (by omega) (by omega) ?_
  refine va_putF (D := (dC, dI)) (ci := 4) (v := .ref q1) (ty := .array .boolean) (C := RX3) (T := TX3) (N := 18) hx hb hts iw_c_OfficeI_X3 tyX3 tyX3_ok nmX3 hown hK hP hD hS 0 rfl rfl 2 (by decide) (hts (.fieldLink RX3 11 "UnlikeBoats$Office" "finished" "[Z") (List.mem_of_getElem? (i := 5) rfl)) (fun _ h9 => h9) rfl hin rfl (by decide +kernel) rfl rfl (Nat.le_of_ble_eq_true rfl) dX3_init_10 (fun H locs hP hD hS => ?_)
  have hP : va_P (dC, dI) vwCl [(of, .inr (4, [.null, .null, .ref q1, .null, .null, .null, .null, .null, .null, .null, .null, .null, .null, .null, .null, .int 0, .int 0, .null])), (q1, .inl (kq1, 320, .inl (fun _ => (0 : Int32))))] H := hP
  have hD : va_D A [(of, .inr (4, [.null, .null, .ref q1, .null, .null, .null, .null, .null, .null, .null, .null, .null, .null, .null, .null, .int 0, .int 0, .null])), (q1, .inl (kq1, 320, .inl (fun _ => (0 : Int32))))] := hD
  have hP := hP.sub (ws' := [(of, .inr (4, [.null, .null, .ref q1, .null, .null, .null, .null, .null, .null, .null, .null, .null, .null, .null, .null, .int 0, .int 0, .null]))]) [0] rfl
  have hD := hD.sub (ws' := [(of, .inr (4, [.null, .null, .ref q1, .null, .null, .null, .null, .null, .null, .null, .null, .null, .null, .null, .null, .int 0, .int 0, .null]))]) [0] (by decide) rfl
  refine lv_aload_n hx hb dX3_init_13 rfl (lv_at hl 0 rfl) ?_
  refine lv_sipush (v := 320) hx hb dX3_init_14 (by decide) ?_
  refine va_newa (atype := .int) (ty := .int) (N' := 320) (a0 := (320, .inl (fun _ => (0 : Int32)))) hx hb (hts (.arrayClass .int) (List.mem_of_getElem? (i := 6) rfl)) rfl hK hP hD hS hA (fun _ => rfl) (by decide) (by decide) (Nat.le_of_ble_eq_true rfl) (Nat.le_of_ble_eq_true rfl) (Nat.le_of_ble_eq_true rfl) dX3_init_17 (fun q2 kq2 H hK hP hD hS => ?_)
  have hK : va_K (dC, dI) vwCl [(kq1, .boolean), (kq2, .int)] s := hK
  have hP : va_P (dC, dI) vwCl [(of, .inr (4, [.null, .null, .ref q1, .null, .null, .null, .null, .null, .null, .null, .null, .null, .null, .null, .null, .int 0, .int 0, .null])), (q2, .inl (kq2, 320, .inl (fun _ => (0 : Int32))))] H := hP
  have hD : va_D A [(of, .inr (4, [.null, .null, .ref q1, .null, .null, .null, .null, .null, .null, .null, .null, .null, .null, .null, .null, .int 0, .int 0, .null])), (q2, .inl (kq2, 320, .inl (fun _ => (0 : Int32))))] := hD
  refine W.widen (k := 2) (n := 640) (by omega) (by omega) ?_
  refine va_putF (D := (dC, dI)) (ci := 4) (v := .ref q2) (ty := .array .int) (C := RX3) (T := TX3) (N := 18) hx hb hts iw_c_OfficeI_X3 tyX3 tyX3_ok nmX3 hown hK hP hD hS 0 rfl rfl 3 (by decide) (hts (.fieldLink RX3 15 "UnlikeBoats$Office" "seconds" "[I") (List.mem_of_getElem? (i := 7) rfl)) (fun _ h9 => h9) rfl hin rfl (by decide +kernel) rfl rfl (Nat.le_of_ble_eq_true rfl) dX3_init_19 (fun H locs hP hD hS => ?_)
  have hP : va_P (dC, dI) vwCl [(of, .inr (4, [.null, .null, .ref q1, .ref q2, .null, .null, .null, .null, .null, .null, .null, .null, .null, .null, .null, .int 0, .int 0, .null])), (q2, .inl (kq2, 320, .inl (fun _ => (0 : Int32))))] H := hP
  have hD : va_D A [(of, .inr (4, [.null, .null, .ref q1, .ref q2, .null, .null, .null, .null, .null, .null, .null, .null, .null, .null, .null, .int 0, .int 0, .null])), (q2, .inl (kq2, 320, .inl (fun _ => (0 : Int32))))] := hD
  have hP := hP.sub (ws' := [(of, .inr (4, [.null, .null, .ref q1, .ref q2, .null, .null, .null, .null, .null, .null, .null, .null, .null, .null, .null, .int 0, .int 0, .null]))]) [0] rfl
  have hD := hD.sub (ws' := [(of, .inr (4, [.null, .null, .ref q1, .ref q2, .null, .null, .null, .null, .null, .null, .null, .null, .null, .null, .null, .int 0, .int 0, .null]))]) [0] (by decide) rfl
  refine lv_aload_n hx hb dX3_init_22 rfl (lv_at hl 0 rfl) ?_
  refine lv_sipush (v := 320) hx hb dX3_init_23 (by decide) ?_
  refine va_newa (atype := .int) (ty := .int) (N' := 320) (a0 := (320, .inl (fun _ => (0 : Int32)))) hx hb (hts (.arrayClass .int) (List.mem_of_getElem? (i := 6) rfl)) rfl hK hP hD hS hA (fun _ => rfl) (by decide) (by decide) (Nat.le_of_ble_eq_true rfl) (Nat.le_of_ble_eq_true rfl) (Nat.le_of_ble_eq_true rfl) dX3_init_26 (fun q3 kq3 H hK hP hD hS => ?_)
  have hK : va_K (dC, dI) vwCl [(kq1, .boolean), (kq2, .int), (kq3, .int)] s := hK
  have hP : va_P (dC, dI) vwCl [(of, .inr (4, [.null, .null, .ref q1, .ref q2, .null, .null, .null, .null, .null, .null, .null, .null, .null, .null, .null, .int 0, .int 0, .null])), (q3, .inl (kq3, 320, .inl (fun _ => (0 : Int32))))] H := hP
  have hD : va_D A [(of, .inr (4, [.null, .null, .ref q1, .ref q2, .null, .null, .null, .null, .null, .null, .null, .null, .null, .null, .null, .int 0, .int 0, .null])), (q3, .inl (kq3, 320, .inl (fun _ => (0 : Int32))))] := hD
  refine W.widen (k := 3) (n := 960) (by omega) (by omega) ?_
  obtain rfl : kq2 = kq3 := ub_sa_int hK 1 2 rfl rfl
  have hK := hK.sub (tys' := [(kq1, .boolean), (kq2, .int)]) [0, 1] rfl
  refine va_putF (D := (dC, dI)) (ci := 4) (v := .ref q3) (ty := .array .int) (C := RX3) (T := TX3) (N := 18) hx hb hts iw_c_OfficeI_X3 tyX3 tyX3_ok nmX3 hown hK hP hD hS 0 rfl rfl 4 (by decide) (hts (.fieldLink RX3 19 "UnlikeBoats$Office" "numbers" "[I") (List.mem_of_getElem? (i := 8) rfl)) (fun _ h9 => h9) rfl hin rfl (by decide +kernel) rfl rfl (Nat.le_of_ble_eq_true rfl) dX3_init_28 (fun H locs hP hD hS => ?_)
  have hP : va_P (dC, dI) vwCl [(of, .inr (4, [.null, .null, .ref q1, .ref q2, .ref q3, .null, .null, .null, .null, .null, .null, .null, .null, .null, .null, .int 0, .int 0, .null])), (q3, .inl (kq2, 320, .inl (fun _ => (0 : Int32))))] H := hP
  have hD : va_D A [(of, .inr (4, [.null, .null, .ref q1, .ref q2, .ref q3, .null, .null, .null, .null, .null, .null, .null, .null, .null, .null, .int 0, .int 0, .null])), (q3, .inl (kq2, 320, .inl (fun _ => (0 : Int32))))] := hD
  have hP := hP.sub (ws' := [(of, .inr (4, [.null, .null, .ref q1, .ref q2, .ref q3, .null, .null, .null, .null, .null, .null, .null, .null, .null, .null, .int 0, .int 0, .null]))]) [0] rfl
  have hD := hD.sub (ws' := [(of, .inr (4, [.null, .null, .ref q1, .ref q2, .ref q3, .null, .null, .null, .null, .null, .null, .null, .null, .null, .null, .int 0, .int 0, .null]))]) [0] (by decide) rfl
  refine lv_aload_n hx hb dX3_init_31 rfl (lv_at hl 0 rfl) ?_
  refine lv_sipush (v := 320) hx hb dX3_init_32 (by decide) ?_
  refine va_newa (atype := .int) (ty := .int) (N' := 320) (a0 := (320, .inl (fun _ => (0 : Int32)))) hx hb (hts (.arrayClass .int) (List.mem_of_getElem? (i := 6) rfl)) rfl hK hP hD hS hA (fun _ => rfl) (by decide) (by decide) (Nat.le_of_ble_eq_true rfl) (Nat.le_of_ble_eq_true rfl) (Nat.le_of_ble_eq_true rfl) dX3_init_35 (fun q4 kq4 H hK hP hD hS => ?_)
  have hK : va_K (dC, dI) vwCl [(kq1, .boolean), (kq2, .int), (kq4, .int)] s := hK
  have hP : va_P (dC, dI) vwCl [(of, .inr (4, [.null, .null, .ref q1, .ref q2, .ref q3, .null, .null, .null, .null, .null, .null, .null, .null, .null, .null, .int 0, .int 0, .null])), (q4, .inl (kq4, 320, .inl (fun _ => (0 : Int32))))] H := hP
  have hD : va_D A [(of, .inr (4, [.null, .null, .ref q1, .ref q2, .ref q3, .null, .null, .null, .null, .null, .null, .null, .null, .null, .null, .int 0, .int 0, .null])), (q4, .inl (kq4, 320, .inl (fun _ => (0 : Int32))))] := hD
  refine W.widen (k := 4) (n := 1280) (by omega) (by omega) ?_
  obtain rfl : kq2 = kq4 := ub_sa_int hK 1 2 rfl rfl
  have hK := hK.sub (tys' := [(kq1, .boolean), (kq2, .int)]) [0, 1] rfl
  refine va_putF (D := (dC, dI)) (ci := 4) (v := .ref q4) (ty := .array .int) (C := RX3) (T := TX3) (N := 18) hx hb hts iw_c_OfficeI_X3 tyX3 tyX3_ok nmX3 hown hK hP hD hS 0 rfl rfl 5 (by decide) (hts (.fieldLink RX3 22 "UnlikeBoats$Office" "times" "[I") (List.mem_of_getElem? (i := 9) rfl)) (fun _ h9 => h9) rfl hin rfl (by decide +kernel) rfl rfl (Nat.le_of_ble_eq_true rfl) dX3_init_37 (fun H locs hP hD hS => ?_)
  have hP : va_P (dC, dI) vwCl [(of, .inr (4, [.null, .null, .ref q1, .ref q2, .ref q3, .ref q4, .null, .null, .null, .null, .null, .null, .null, .null, .null, .int 0, .int 0, .null])), (q4, .inl (kq2, 320, .inl (fun _ => (0 : Int32))))] H := hP
  have hD : va_D A [(of, .inr (4, [.null, .null, .ref q1, .ref q2, .ref q3, .ref q4, .null, .null, .null, .null, .null, .null, .null, .null, .null, .int 0, .int 0, .null])), (q4, .inl (kq2, 320, .inl (fun _ => (0 : Int32))))] := hD
  have hP := hP.sub (ws' := [(of, .inr (4, [.null, .null, .ref q1, .ref q2, .ref q3, .ref q4, .null, .null, .null, .null, .null, .null, .null, .null, .null, .int 0, .int 0, .null]))]) [0] rfl
  have hD := hD.sub (ws' := [(of, .inr (4, [.null, .null, .ref q1, .ref q2, .ref q3, .ref q4, .null, .null, .null, .null, .null, .null, .null, .null, .null, .int 0, .int 0, .null]))]) [0] (by decide) rfl
  refine lv_aload_n hx hb dX3_init_40 rfl (lv_at hl 0 rfl) ?_
  refine lv_bipush (v := 20) hx hb dX3_init_41 (by decide) ?_
  refine va_newa (atype := .int) (ty := .int) (N' := 20) (a0 := (20, .inl (fun _ => (0 : Int32)))) hx hb (hts (.arrayClass .int) (List.mem_of_getElem? (i := 6) rfl)) rfl hK hP hD hS hA (fun _ => rfl) (by decide) (by decide) (Nat.le_of_ble_eq_true rfl) (Nat.le_of_ble_eq_true rfl) (Nat.le_of_ble_eq_true rfl) dX3_init_43 (fun q5 kq5 H hK hP hD hS => ?_)
  have hK : va_K (dC, dI) vwCl [(kq1, .boolean), (kq2, .int), (kq5, .int)] s := hK
  have hP : va_P (dC, dI) vwCl [(of, .inr (4, [.null, .null, .ref q1, .ref q2, .ref q3, .ref q4, .null, .null, .null, .null, .null, .null, .null, .null, .null, .int 0, .int 0, .null])), (q5, .inl (kq5, 20, .inl (fun _ => (0 : Int32))))] H := hP
  have hD : va_D A [(of, .inr (4, [.null, .null, .ref q1, .ref q2, .ref q3, .ref q4, .null, .null, .null, .null, .null, .null, .null, .null, .null, .int 0, .int 0, .null])), (q5, .inl (kq5, 20, .inl (fun _ => (0 : Int32))))] := hD
  refine W.widen (k := 5) (n := 1300) (by omega) (by omega) ?_
  obtain rfl : kq2 = kq5 := ub_sa_int hK 1 2 rfl rfl
  have hK := hK.sub (tys' := [(kq1, .boolean), (kq2, .int)]) [0, 1] rfl
  refine va_putF (D := (dC, dI)) (ci := 4) (v := .ref q5) (ty := .array .int) (C := RX3) (T := TX3) (N := 18) hx hb hts iw_c_OfficeI_X3 tyX3 tyX3_ok nmX3 hown hK hP hD hS 0 rfl rfl 6 (by decide) (hts (.fieldLink RX3 25 "UnlikeBoats$Office" "counted" "[I") (List.mem_of_getElem? (i := 10) rfl)) (fun _ h9 => h9) rfl hin rfl (by decide +kernel) rfl rfl (Nat.le_of_ble_eq_true rfl) dX3_init_45 (fun H locs hP hD hS => ?_)
  have hP : va_P (dC, dI) vwCl [(of, .inr (4, [.null, .null, .ref q1, .ref q2, .ref q3, .ref q4, .ref q5, .null, .null, .null, .null, .null, .null, .null, .null, .int 0, .int 0, .null])), (q5, .inl (kq2, 20, .inl (fun _ => (0 : Int32))))] H := hP
  have hD : va_D A [(of, .inr (4, [.null, .null, .ref q1, .ref q2, .ref q3, .ref q4, .ref q5, .null, .null, .null, .null, .null, .null, .null, .null, .int 0, .int 0, .null])), (q5, .inl (kq2, 20, .inl (fun _ => (0 : Int32))))] := hD
  have hP := hP.sub (ws' := [(of, .inr (4, [.null, .null, .ref q1, .ref q2, .ref q3, .ref q4, .ref q5, .null, .null, .null, .null, .null, .null, .null, .null, .int 0, .int 0, .null]))]) [0] rfl
  have hD := hD.sub (ws' := [(of, .inr (4, [.null, .null, .ref q1, .ref q2, .ref q3, .ref q4, .ref q5, .null, .null, .null, .null, .null, .null, .null, .null, .int 0, .int 0, .null]))]) [0] (by decide) rfl
  refine lv_aload_n hx hb dX3_init_48 rfl (lv_at hl 0 rfl) ?_
  refine lv_bipush (v := 20) hx hb dX3_init_49 (by decide) ?_
  refine va_newa (atype := .int) (ty := .int) (N' := 20) (a0 := (20, .inl (fun _ => (0 : Int32)))) hx hb (hts (.arrayClass .int) (List.mem_of_getElem? (i := 6) rfl)) rfl hK hP hD hS hA (fun _ => rfl) (by decide) (by decide) (Nat.le_of_ble_eq_true rfl) (Nat.le_of_ble_eq_true rfl) (Nat.le_of_ble_eq_true rfl) dX3_init_51 (fun q6 kq6 H hK hP hD hS => ?_)
  have hK : va_K (dC, dI) vwCl [(kq1, .boolean), (kq2, .int), (kq6, .int)] s := hK
  have hP : va_P (dC, dI) vwCl [(of, .inr (4, [.null, .null, .ref q1, .ref q2, .ref q3, .ref q4, .ref q5, .null, .null, .null, .null, .null, .null, .null, .null, .int 0, .int 0, .null])), (q6, .inl (kq6, 20, .inl (fun _ => (0 : Int32))))] H := hP
  have hD : va_D A [(of, .inr (4, [.null, .null, .ref q1, .ref q2, .ref q3, .ref q4, .ref q5, .null, .null, .null, .null, .null, .null, .null, .null, .int 0, .int 0, .null])), (q6, .inl (kq6, 20, .inl (fun _ => (0 : Int32))))] := hD
  refine W.widen (k := 6) (n := 1320) (by omega) (by omega) ?_
  obtain rfl : kq2 = kq6 := ub_sa_int hK 1 2 rfl rfl
  have hK := hK.sub (tys' := [(kq1, .boolean), (kq2, .int)]) [0, 1] rfl
  refine va_putF (D := (dC, dI)) (ci := 4) (v := .ref q6) (ty := .array .int) (C := RX3) (T := TX3) (N := 18) hx hb hts iw_c_OfficeI_X3 tyX3 tyX3_ok nmX3 hown hK hP hD hS 0 rfl rfl 7 (by decide) (hts (.fieldLink RX3 28 "UnlikeBoats$Office" "middles" "[I") (List.mem_of_getElem? (i := 11) rfl)) (fun _ h9 => h9) rfl hin rfl (by decide +kernel) rfl rfl (Nat.le_of_ble_eq_true rfl) dX3_init_53 (fun H locs hP hD hS => ?_)
  have hP : va_P (dC, dI) vwCl [(of, .inr (4, [.null, .null, .ref q1, .ref q2, .ref q3, .ref q4, .ref q5, .ref q6, .null, .null, .null, .null, .null, .null, .null, .int 0, .int 0, .null])), (q6, .inl (kq2, 20, .inl (fun _ => (0 : Int32))))] H := hP
  have hD : va_D A [(of, .inr (4, [.null, .null, .ref q1, .ref q2, .ref q3, .ref q4, .ref q5, .ref q6, .null, .null, .null, .null, .null, .null, .null, .int 0, .int 0, .null])), (q6, .inl (kq2, 20, .inl (fun _ => (0 : Int32))))] := hD
  have hP := hP.sub (ws' := [(of, .inr (4, [.null, .null, .ref q1, .ref q2, .ref q3, .ref q4, .ref q5, .ref q6, .null, .null, .null, .null, .null, .null, .null, .int 0, .int 0, .null]))]) [0] rfl
  have hD := hD.sub (ws' := [(of, .inr (4, [.null, .null, .ref q1, .ref q2, .ref q3, .ref q4, .ref q5, .ref q6, .null, .null, .null, .null, .null, .null, .null, .int 0, .int 0, .null]))]) [0] (by decide) rfl
  refine lv_aload_n hx hb dX3_init_56 rfl (lv_at hl 0 rfl) ?_
  refine lv_bipush (v := 20) hx hb dX3_init_57 (by decide) ?_
  refine va_newa (atype := .int) (ty := .int) (N' := 20) (a0 := (20, .inl (fun _ => (0 : Int32)))) hx hb (hts (.arrayClass .int) (List.mem_of_getElem? (i := 6) rfl)) rfl hK hP hD hS hA (fun _ => rfl) (by decide) (by decide) (Nat.le_of_ble_eq_true rfl) (Nat.le_of_ble_eq_true rfl) (Nat.le_of_ble_eq_true rfl) dX3_init_59 (fun q7 kq7 H hK hP hD hS => ?_)
  have hK : va_K (dC, dI) vwCl [(kq1, .boolean), (kq2, .int), (kq7, .int)] s := hK
  have hP : va_P (dC, dI) vwCl [(of, .inr (4, [.null, .null, .ref q1, .ref q2, .ref q3, .ref q4, .ref q5, .ref q6, .null, .null, .null, .null, .null, .null, .null, .int 0, .int 0, .null])), (q7, .inl (kq7, 20, .inl (fun _ => (0 : Int32))))] H := hP
  have hD : va_D A [(of, .inr (4, [.null, .null, .ref q1, .ref q2, .ref q3, .ref q4, .ref q5, .ref q6, .null, .null, .null, .null, .null, .null, .null, .int 0, .int 0, .null])), (q7, .inl (kq7, 20, .inl (fun _ => (0 : Int32))))] := hD
  refine W.widen (k := 7) (n := 1340) (by omega) (by omega) ?_
  obtain rfl : kq2 = kq7 := ub_sa_int hK 1 2 rfl rfl
  have hK := hK.sub (tys' := [(kq1, .boolean), (kq2, .int)]) [0, 1] rfl
  refine va_putF (D := (dC, dI)) (ci := 4) (v := .ref q7) (ty := .array .int) (C := RX3) (T := TX3) (N := 18) hx hb hts iw_c_OfficeI_X3 tyX3 tyX3_ok nmX3 hown hK hP hD hS 0 rfl rfl 8 (by decide) (hts (.fieldLink RX3 31 "UnlikeBoats$Office" "own" "[I") (List.mem_of_getElem? (i := 12) rfl)) (fun _ h9 => h9) rfl hin rfl (by decide +kernel) rfl rfl (Nat.le_of_ble_eq_true rfl) dX3_init_61 (fun H locs hP hD hS => ?_)
  have hP : va_P (dC, dI) vwCl [(of, .inr (4, [.null, .null, .ref q1, .ref q2, .ref q3, .ref q4, .ref q5, .ref q6, .ref q7, .null, .null, .null, .null, .null, .null, .int 0, .int 0, .null])), (q7, .inl (kq2, 20, .inl (fun _ => (0 : Int32))))] H := hP
  have hD : va_D A [(of, .inr (4, [.null, .null, .ref q1, .ref q2, .ref q3, .ref q4, .ref q5, .ref q6, .ref q7, .null, .null, .null, .null, .null, .null, .int 0, .int 0, .null])), (q7, .inl (kq2, 20, .inl (fun _ => (0 : Int32))))] := hD
  have hP := hP.sub (ws' := [(of, .inr (4, [.null, .null, .ref q1, .ref q2, .ref q3, .ref q4, .ref q5, .ref q6, .ref q7, .null, .null, .null, .null, .null, .null, .int 0, .int 0, .null]))]) [0] rfl
  have hD := hD.sub (ws' := [(of, .inr (4, [.null, .null, .ref q1, .ref q2, .ref q3, .ref q4, .ref q5, .ref q6, .ref q7, .null, .null, .null, .null, .null, .null, .int 0, .int 0, .null]))]) [0] (by decide) rfl
  refine lv_aload_n hx hb dX3_init_64 rfl (lv_at hl 0 rfl) ?_
  refine lv_bipush (v := 20) hx hb dX3_init_65 (by decide) ?_
  refine va_newa (atype := .int) (ty := .int) (N' := 20) (a0 := (20, .inl (fun _ => (0 : Int32)))) hx hb (hts (.arrayClass .int) (List.mem_of_getElem? (i := 6) rfl)) rfl hK hP hD hS hA (fun _ => rfl) (by decide) (by decide) (Nat.le_of_ble_eq_true rfl) (Nat.le_of_ble_eq_true rfl) (Nat.le_of_ble_eq_true rfl) dX3_init_67 (fun q8 kq8 H hK hP hD hS => ?_)
  have hK : va_K (dC, dI) vwCl [(kq1, .boolean), (kq2, .int), (kq8, .int)] s := hK
  have hP : va_P (dC, dI) vwCl [(of, .inr (4, [.null, .null, .ref q1, .ref q2, .ref q3, .ref q4, .ref q5, .ref q6, .ref q7, .null, .null, .null, .null, .null, .null, .int 0, .int 0, .null])), (q8, .inl (kq8, 20, .inl (fun _ => (0 : Int32))))] H := hP
  have hD : va_D A [(of, .inr (4, [.null, .null, .ref q1, .ref q2, .ref q3, .ref q4, .ref q5, .ref q6, .ref q7, .null, .null, .null, .null, .null, .null, .int 0, .int 0, .null])), (q8, .inl (kq8, 20, .inl (fun _ => (0 : Int32))))] := hD
  refine W.widen (k := 8) (n := 1360) (by omega) (by omega) ?_
  obtain rfl : kq2 = kq8 := ub_sa_int hK 1 2 rfl rfl
  have hK := hK.sub (tys' := [(kq1, .boolean), (kq2, .int)]) [0, 1] rfl
  refine va_putF (D := (dC, dI)) (ci := 4) (v := .ref q8) (ty := .array .int) (C := RX3) (T := TX3) (N := 18) hx hb hts iw_c_OfficeI_X3 tyX3 tyX3_ok nmX3 hown hK hP hD hS 0 rfl rfl 9 (by decide) (hts (.fieldLink RX3 34 "UnlikeBoats$Office" "ratios" "[I") (List.mem_of_getElem? (i := 13) rfl)) (fun _ h9 => h9) rfl hin rfl (by decide +kernel) rfl rfl (Nat.le_of_ble_eq_true rfl) dX3_init_69 (fun H locs hP hD hS => ?_)
  have hP : va_P (dC, dI) vwCl [(of, .inr (4, [.null, .null, .ref q1, .ref q2, .ref q3, .ref q4, .ref q5, .ref q6, .ref q7, .ref q8, .null, .null, .null, .null, .null, .int 0, .int 0, .null])), (q8, .inl (kq2, 20, .inl (fun _ => (0 : Int32))))] H := hP
  have hD : va_D A [(of, .inr (4, [.null, .null, .ref q1, .ref q2, .ref q3, .ref q4, .ref q5, .ref q6, .ref q7, .ref q8, .null, .null, .null, .null, .null, .int 0, .int 0, .null])), (q8, .inl (kq2, 20, .inl (fun _ => (0 : Int32))))] := hD
  have hP := hP.sub (ws' := [(of, .inr (4, [.null, .null, .ref q1, .ref q2, .ref q3, .ref q4, .ref q5, .ref q6, .ref q7, .ref q8, .null, .null, .null, .null, .null, .int 0, .int 0, .null]))]) [0] rfl
  have hD := hD.sub (ws' := [(of, .inr (4, [.null, .null, .ref q1, .ref q2, .ref q3, .ref q4, .ref q5, .ref q6, .ref q7, .ref q8, .null, .null, .null, .null, .null, .int 0, .int 0, .null]))]) [0] (by decide) rfl
  refine lv_aload_n hx hb dX3_init_72 rfl (lv_at hl 0 rfl) ?_
  refine lv_bipush (v := 16) hx hb dX3_init_73 (by decide) ?_
  refine va_newa (atype := .int) (ty := .int) (N' := 16) (a0 := (16, .inl (fun _ => (0 : Int32)))) hx hb (hts (.arrayClass .int) (List.mem_of_getElem? (i := 6) rfl)) rfl hK hP hD hS hA (fun _ => rfl) (by decide) (by decide) (Nat.le_of_ble_eq_true rfl) (Nat.le_of_ble_eq_true rfl) (Nat.le_of_ble_eq_true rfl) dX3_init_75 (fun q9 kq9 H hK hP hD hS => ?_)
  have hK : va_K (dC, dI) vwCl [(kq1, .boolean), (kq2, .int), (kq9, .int)] s := hK
  have hP : va_P (dC, dI) vwCl [(of, .inr (4, [.null, .null, .ref q1, .ref q2, .ref q3, .ref q4, .ref q5, .ref q6, .ref q7, .ref q8, .null, .null, .null, .null, .null, .int 0, .int 0, .null])), (q9, .inl (kq9, 16, .inl (fun _ => (0 : Int32))))] H := hP
  have hD : va_D A [(of, .inr (4, [.null, .null, .ref q1, .ref q2, .ref q3, .ref q4, .ref q5, .ref q6, .ref q7, .ref q8, .null, .null, .null, .null, .null, .int 0, .int 0, .null])), (q9, .inl (kq9, 16, .inl (fun _ => (0 : Int32))))] := hD
  refine W.widen (k := 9) (n := 1376) (by omega) (by omega) ?_
  obtain rfl : kq2 = kq9 := ub_sa_int hK 1 2 rfl rfl
  have hK := hK.sub (tys' := [(kq1, .boolean), (kq2, .int)]) [0, 1] rfl
  refine va_putF (D := (dC, dI)) (ci := 4) (v := .ref q9) (ty := .array .int) (C := RX3) (T := TX3) (N := 18) hx hb hts iw_c_OfficeI_X3 tyX3 tyX3_ok nmX3 hown hK hP hD hS 0 rfl rfl 10 (by decide) (hts (.fieldLink RX3 37 "UnlikeBoats$Office" "row" "[I") (List.mem_of_getElem? (i := 14) rfl)) (fun _ h9 => h9) rfl hin rfl (by decide +kernel) rfl rfl (Nat.le_of_ble_eq_true rfl) dX3_init_77 (fun H locs hP hD hS => ?_)
  have hP : va_P (dC, dI) vwCl [(of, .inr (4, [.null, .null, .ref q1, .ref q2, .ref q3, .ref q4, .ref q5, .ref q6, .ref q7, .ref q8, .ref q9, .null, .null, .null, .null, .int 0, .int 0, .null])), (q9, .inl (kq2, 16, .inl (fun _ => (0 : Int32))))] H := hP
  have hD : va_D A [(of, .inr (4, [.null, .null, .ref q1, .ref q2, .ref q3, .ref q4, .ref q5, .ref q6, .ref q7, .ref q8, .ref q9, .null, .null, .null, .null, .int 0, .int 0, .null])), (q9, .inl (kq2, 16, .inl (fun _ => (0 : Int32))))] := hD
  have hP := hP.sub (ws' := [(of, .inr (4, [.null, .null, .ref q1, .ref q2, .ref q3, .ref q4, .ref q5, .ref q6, .ref q7, .ref q8, .ref q9, .null, .null, .null, .null, .int 0, .int 0, .null]))]) [0] rfl
  have hD := hD.sub (ws' := [(of, .inr (4, [.null, .null, .ref q1, .ref q2, .ref q3, .ref q4, .ref q5, .ref q6, .ref q7, .ref q8, .ref q9, .null, .null, .null, .null, .int 0, .int 0, .null]))]) [0] (by decide) rfl
  refine lv_aload_n hx hb dX3_init_80 rfl (lv_at hl 0 rfl) ?_
  refine lv_sipush (v := 560) hx hb dX3_init_81 (by decide) ?_
  refine va_newa (atype := .int) (ty := .int) (N' := 560) (a0 := (560, .inl (fun _ => (0 : Int32)))) hx hb (hts (.arrayClass .int) (List.mem_of_getElem? (i := 6) rfl)) rfl hK hP hD hS hA (fun _ => rfl) (by decide) (by decide) (Nat.le_of_ble_eq_true rfl) (Nat.le_of_ble_eq_true rfl) (Nat.le_of_ble_eq_true rfl) dX3_init_84 (fun q10 kq10 H hK hP hD hS => ?_)
  have hK : va_K (dC, dI) vwCl [(kq1, .boolean), (kq2, .int), (kq10, .int)] s := hK
  have hP : va_P (dC, dI) vwCl [(of, .inr (4, [.null, .null, .ref q1, .ref q2, .ref q3, .ref q4, .ref q5, .ref q6, .ref q7, .ref q8, .ref q9, .null, .null, .null, .null, .int 0, .int 0, .null])), (q10, .inl (kq10, 560, .inl (fun _ => (0 : Int32))))] H := hP
  have hD : va_D A [(of, .inr (4, [.null, .null, .ref q1, .ref q2, .ref q3, .ref q4, .ref q5, .ref q6, .ref q7, .ref q8, .ref q9, .null, .null, .null, .null, .int 0, .int 0, .null])), (q10, .inl (kq10, 560, .inl (fun _ => (0 : Int32))))] := hD
  refine W.widen (k := 10) (n := 1936) (by omega) (by omega) ?_
  obtain rfl : kq2 = kq10 := ub_sa_int hK 1 2 rfl rfl
  have hK := hK.sub (tys' := [(kq1, .boolean), (kq2, .int)]) [0, 1] rfl
  refine va_putF (D := (dC, dI)) (ci := 4) (v := .ref q10) (ty := .array .int) (C := RX3) (T := TX3) (N := 18) hx hb hts iw_c_OfficeI_X3 tyX3 tyX3_ok nmX3 hown hK hP hD hS 0 rfl rfl 11 (by decide) (hts (.fieldLink RX3 40 "UnlikeBoats$Office" "changed" "[I") (List.mem_of_getElem? (i := 15) rfl)) (fun _ h9 => h9) rfl hin rfl (by decide +kernel) rfl rfl (Nat.le_of_ble_eq_true rfl) dX3_init_86 (fun H locs hP hD hS => ?_)
  have hP : va_P (dC, dI) vwCl [(of, .inr (4, [.null, .null, .ref q1, .ref q2, .ref q3, .ref q4, .ref q5, .ref q6, .ref q7, .ref q8, .ref q9, .ref q10, .null, .null, .null, .int 0, .int 0, .null])), (q10, .inl (kq2, 560, .inl (fun _ => (0 : Int32))))] H := hP
  have hD : va_D A [(of, .inr (4, [.null, .null, .ref q1, .ref q2, .ref q3, .ref q4, .ref q5, .ref q6, .ref q7, .ref q8, .ref q9, .ref q10, .null, .null, .null, .int 0, .int 0, .null])), (q10, .inl (kq2, 560, .inl (fun _ => (0 : Int32))))] := hD
  have hP := hP.sub (ws' := [(of, .inr (4, [.null, .null, .ref q1, .ref q2, .ref q3, .ref q4, .ref q5, .ref q6, .ref q7, .ref q8, .ref q9, .ref q10, .null, .null, .null, .int 0, .int 0, .null]))]) [0] rfl
  have hD := hD.sub (ws' := [(of, .inr (4, [.null, .null, .ref q1, .ref q2, .ref q3, .ref q4, .ref q5, .ref q6, .ref q7, .ref q8, .ref q9, .ref q10, .null, .null, .null, .int 0, .int 0, .null]))]) [0] (by decide) rfl
  refine lv_aload_n hx hb dX3_init_89 rfl (lv_at hl 0 rfl) ?_
  refine lv_iconst (v := 4) hx hb dX3_init_90 (by decide) ?_
  refine va_newa (atype := .int) (ty := .int) (N' := 4) (a0 := (4, .inl (fun _ => (0 : Int32)))) hx hb (hts (.arrayClass .int) (List.mem_of_getElem? (i := 6) rfl)) rfl hK hP hD hS hA (fun _ => rfl) (by decide) (by decide) (Nat.le_of_ble_eq_true rfl) (Nat.le_of_ble_eq_true rfl) (Nat.le_of_ble_eq_true rfl) dX3_init_91 (fun q11 kq11 H hK hP hD hS => ?_)
  have hK : va_K (dC, dI) vwCl [(kq1, .boolean), (kq2, .int), (kq11, .int)] s := hK
  have hP : va_P (dC, dI) vwCl [(of, .inr (4, [.null, .null, .ref q1, .ref q2, .ref q3, .ref q4, .ref q5, .ref q6, .ref q7, .ref q8, .ref q9, .ref q10, .null, .null, .null, .int 0, .int 0, .null])), (q11, .inl (kq11, 4, .inl (fun _ => (0 : Int32))))] H := hP
  have hD : va_D A [(of, .inr (4, [.null, .null, .ref q1, .ref q2, .ref q3, .ref q4, .ref q5, .ref q6, .ref q7, .ref q8, .ref q9, .ref q10, .null, .null, .null, .int 0, .int 0, .null])), (q11, .inl (kq11, 4, .inl (fun _ => (0 : Int32))))] := hD
  refine W.widen (k := 11) (n := 1940) (by omega) (by omega) ?_
  obtain rfl : kq2 = kq11 := ub_sa_int hK 1 2 rfl rfl
  have hK := hK.sub (tys' := [(kq1, .boolean), (kq2, .int)]) [0, 1] rfl
  refine va_putF (D := (dC, dI)) (ci := 4) (v := .ref q11) (ty := .array .int) (C := RX3) (T := TX3) (N := 18) hx hb hts iw_c_OfficeI_X3 tyX3 tyX3_ok nmX3 hown hK hP hD hS 0 rfl rfl 12 (by decide) (hts (.fieldLink RX3 43 "UnlikeBoats$Office" "evened" "[I") (List.mem_of_getElem? (i := 16) rfl)) (fun _ h9 => h9) rfl hin rfl (by decide +kernel) rfl rfl (Nat.le_of_ble_eq_true rfl) dX3_init_93 (fun H locs hP hD hS => ?_)
  have hP : va_P (dC, dI) vwCl [(of, .inr (4, [.null, .null, .ref q1, .ref q2, .ref q3, .ref q4, .ref q5, .ref q6, .ref q7, .ref q8, .ref q9, .ref q10, .ref q11, .null, .null, .int 0, .int 0, .null])), (q11, .inl (kq2, 4, .inl (fun _ => (0 : Int32))))] H := hP
  have hD : va_D A [(of, .inr (4, [.null, .null, .ref q1, .ref q2, .ref q3, .ref q4, .ref q5, .ref q6, .ref q7, .ref q8, .ref q9, .ref q10, .ref q11, .null, .null, .int 0, .int 0, .null])), (q11, .inl (kq2, 4, .inl (fun _ => (0 : Int32))))] := hD
  have hP := hP.sub (ws' := [(of, .inr (4, [.null, .null, .ref q1, .ref q2, .ref q3, .ref q4, .ref q5, .ref q6, .ref q7, .ref q8, .ref q9, .ref q10, .ref q11, .null, .null, .int 0, .int 0, .null]))]) [0] rfl
  have hD := hD.sub (ws' := [(of, .inr (4, [.null, .null, .ref q1, .ref q2, .ref q3, .ref q4, .ref q5, .ref q6, .ref q7, .ref q8, .ref q9, .ref q10, .ref q11, .null, .null, .int 0, .int 0, .null]))]) [0] (by decide) rfl
  refine lv_aload_n hx hb dX3_init_96 rfl (lv_at hl 0 rfl) ?_
  refine lv_iconst (v := 4) hx hb dX3_init_97 (by decide) ?_
  refine va_newa (atype := .int) (ty := .int) (N' := 4) (a0 := (4, .inl (fun _ => (0 : Int32)))) hx hb (hts (.arrayClass .int) (List.mem_of_getElem? (i := 6) rfl)) rfl hK hP hD hS hA (fun _ => rfl) (by decide) (by decide) (Nat.le_of_ble_eq_true rfl) (Nat.le_of_ble_eq_true rfl) (Nat.le_of_ble_eq_true rfl) dX3_init_98 (fun q12 kq12 H hK hP hD hS => ?_)
  have hK : va_K (dC, dI) vwCl [(kq1, .boolean), (kq2, .int), (kq12, .int)] s := hK
  have hP : va_P (dC, dI) vwCl [(of, .inr (4, [.null, .null, .ref q1, .ref q2, .ref q3, .ref q4, .ref q5, .ref q6, .ref q7, .ref q8, .ref q9, .ref q10, .ref q11, .null, .null, .int 0, .int 0, .null])), (q12, .inl (kq12, 4, .inl (fun _ => (0 : Int32))))] H := hP
  have hD : va_D A [(of, .inr (4, [.null, .null, .ref q1, .ref q2, .ref q3, .ref q4, .ref q5, .ref q6, .ref q7, .ref q8, .ref q9, .ref q10, .ref q11, .null, .null, .int 0, .int 0, .null])), (q12, .inl (kq12, 4, .inl (fun _ => (0 : Int32))))] := hD
  refine W.widen (k := 12) (n := 1944) (by omega) (by omega) ?_
  obtain rfl : kq2 = kq12 := ub_sa_int hK 1 2 rfl rfl
  have hK := hK.sub (tys' := [(kq1, .boolean), (kq2, .int)]) [0, 1] rfl
  refine va_putF (D := (dC, dI)) (ci := 4) (v := .ref q12) (ty := .array .int) (C := RX3) (T := TX3) (N := 18) hx hb hts iw_c_OfficeI_X3 tyX3 tyX3_ok nmX3 hown hK hP hD hS 0 rfl rfl 13 (by decide) (hts (.fieldLink RX3 46 "UnlikeBoats$Office" "tried" "[I") (List.mem_of_getElem? (i := 17) rfl)) (fun _ h9 => h9) rfl hin rfl (by decide +kernel) rfl rfl (Nat.le_of_ble_eq_true rfl) dX3_init_100 (fun H locs hP hD hS => ?_)
  have hP : va_P (dC, dI) vwCl [(of, .inr (4, [.null, .null, .ref q1, .ref q2, .ref q3, .ref q4, .ref q5, .ref q6, .ref q7, .ref q8, .ref q9, .ref q10, .ref q11, .ref q12, .null, .int 0, .int 0, .null])), (q12, .inl (kq2, 4, .inl (fun _ => (0 : Int32))))] H := hP
  have hD : va_D A [(of, .inr (4, [.null, .null, .ref q1, .ref q2, .ref q3, .ref q4, .ref q5, .ref q6, .ref q7, .ref q8, .ref q9, .ref q10, .ref q11, .ref q12, .null, .int 0, .int 0, .null])), (q12, .inl (kq2, 4, .inl (fun _ => (0 : Int32))))] := hD
  have hP := hP.sub (ws' := [(of, .inr (4, [.null, .null, .ref q1, .ref q2, .ref q3, .ref q4, .ref q5, .ref q6, .ref q7, .ref q8, .ref q9, .ref q10, .ref q11, .ref q12, .null, .int 0, .int 0, .null]))]) [0] rfl
  have hD := hD.sub (ws' := [(of, .inr (4, [.null, .null, .ref q1, .ref q2, .ref q3, .ref q4, .ref q5, .ref q6, .ref q7, .ref q8, .ref q9, .ref q10, .ref q11, .ref q12, .null, .int 0, .int 0, .null]))]) [0] (by decide) rfl
  refine lv_aload_n hx hb dX3_init_103 rfl (lv_at hl 0 rfl) ?_
  refine lv_iconst (v := 4) hx hb dX3_init_104 (by decide) ?_
  refine va_newa (atype := .int) (ty := .int) (N' := 4) (a0 := (4, .inl (fun _ => (0 : Int32)))) hx hb (hts (.arrayClass .int) (List.mem_of_getElem? (i := 6) rfl)) rfl hK hP hD hS hA (fun _ => rfl) (by decide) (by decide) (Nat.le_of_ble_eq_true rfl) (Nat.le_of_ble_eq_true rfl) (Nat.le_of_ble_eq_true rfl) dX3_init_105 (fun q13 kq13 H hK hP hD hS => ?_)
  have hK : va_K (dC, dI) vwCl [(kq1, .boolean), (kq2, .int), (kq13, .int)] s := hK
  have hP : va_P (dC, dI) vwCl [(of, .inr (4, [.null, .null, .ref q1, .ref q2, .ref q3, .ref q4, .ref q5, .ref q6, .ref q7, .ref q8, .ref q9, .ref q10, .ref q11, .ref q12, .null, .int 0, .int 0, .null])), (q13, .inl (kq13, 4, .inl (fun _ => (0 : Int32))))] H := hP
  have hD : va_D A [(of, .inr (4, [.null, .null, .ref q1, .ref q2, .ref q3, .ref q4, .ref q5, .ref q6, .ref q7, .ref q8, .ref q9, .ref q10, .ref q11, .ref q12, .null, .int 0, .int 0, .null])), (q13, .inl (kq13, 4, .inl (fun _ => (0 : Int32))))] := hD
  refine W.widen (k := 13) (n := 1948) (by omega) (by omega) ?_
  obtain rfl : kq2 = kq13 := ub_sa_int hK 1 2 rfl rfl
  have hK := hK.sub (tys' := [(kq1, .boolean), (kq2, .int)]) [0, 1] rfl
  refine va_putF (D := (dC, dI)) (ci := 4) (v := .ref q13) (ty := .array .int) (C := RX3) (T := TX3) (N := 18) hx hb hts iw_c_OfficeI_X3 tyX3 tyX3_ok nmX3 hown hK hP hD hS 0 rfl rfl 14 (by decide) (hts (.fieldLink RX3 49 "UnlikeBoats$Office" "best" "[I") (List.mem_of_getElem? (i := 18) rfl)) (fun _ h9 => h9) rfl hin rfl (by decide +kernel) rfl rfl (Nat.le_of_ble_eq_true rfl) dX3_init_107 (fun H locs hP hD hS => ?_)
  have hP : va_P (dC, dI) vwCl [(of, .inr (4, [.null, .null, .ref q1, .ref q2, .ref q3, .ref q4, .ref q5, .ref q6, .ref q7, .ref q8, .ref q9, .ref q10, .ref q11, .ref q12, .ref q13, .int 0, .int 0, .null])), (q13, .inl (kq2, 4, .inl (fun _ => (0 : Int32))))] H := hP
  have hD : va_D A [(of, .inr (4, [.null, .null, .ref q1, .ref q2, .ref q3, .ref q4, .ref q5, .ref q6, .ref q7, .ref q8, .ref q9, .ref q10, .ref q11, .ref q12, .ref q13, .int 0, .int 0, .null])), (q13, .inl (kq2, 4, .inl (fun _ => (0 : Int32))))] := hD
  have hP := hP.sub (ws' := [(of, .inr (4, [.null, .null, .ref q1, .ref q2, .ref q3, .ref q4, .ref q5, .ref q6, .ref q7, .ref q8, .ref q9, .ref q10, .ref q11, .ref q12, .ref q13, .int 0, .int 0, .null]))]) [0] rfl
  have hD := hD.sub (ws' := [(of, .inr (4, [.null, .null, .ref q1, .ref q2, .ref q3, .ref q4, .ref q5, .ref q6, .ref q7, .ref q8, .ref q9, .ref q10, .ref q11, .ref q12, .ref q13, .int 0, .int 0, .null]))]) [0] (by decide) rfl
  refine lv_aload_n hx hb dX3_init_110 rfl (lv_at hl 0 rfl) ?_
  refine lv_bipush (v := 16) hx hb dX3_init_111 (by decide) ?_
  refine va_newa (atype := .int) (ty := .int) (N' := 16) (a0 := (16, .inl (fun _ => (0 : Int32)))) hx hb (hts (.arrayClass .int) (List.mem_of_getElem? (i := 6) rfl)) rfl hK hP hD hS hA (fun _ => rfl) (by decide) (by decide) (Nat.le_of_ble_eq_true rfl) (Nat.le_of_ble_eq_true rfl) (Nat.le_of_ble_eq_true rfl) dX3_init_113 (fun q14 kq14 H hK hP hD hS => ?_)
  have hK : va_K (dC, dI) vwCl [(kq1, .boolean), (kq2, .int), (kq14, .int)] s := hK
  have hP : va_P (dC, dI) vwCl [(of, .inr (4, [.null, .null, .ref q1, .ref q2, .ref q3, .ref q4, .ref q5, .ref q6, .ref q7, .ref q8, .ref q9, .ref q10, .ref q11, .ref q12, .ref q13, .int 0, .int 0, .null])), (q14, .inl (kq14, 16, .inl (fun _ => (0 : Int32))))] H := hP
  have hD : va_D A [(of, .inr (4, [.null, .null, .ref q1, .ref q2, .ref q3, .ref q4, .ref q5, .ref q6, .ref q7, .ref q8, .ref q9, .ref q10, .ref q11, .ref q12, .ref q13, .int 0, .int 0, .null])), (q14, .inl (kq14, 16, .inl (fun _ => (0 : Int32))))] := hD
  refine W.widen (k := 14) (n := 1964) (by omega) (by omega) ?_
  obtain rfl : kq2 = kq14 := ub_sa_int hK 1 2 rfl rfl
  have hK := hK.sub (tys' := [(kq1, .boolean), (kq2, .int)]) [0, 1] rfl
  refine va_putF (D := (dC, dI)) (ci := 4) (v := .ref q14) (ty := .array .int) (C := RX3) (T := TX3) (N := 18) hx hb hts iw_c_OfficeI_X3 tyX3 tyX3_ok nmX3 hown hK hP hD hS 0 rfl rfl 17 (by decide) (hts (.fieldLink RX3 52 "UnlikeBoats$Office" "weights" "[I") (List.mem_of_getElem? (i := 19) rfl)) (fun _ h9 => h9) rfl hin rfl (by decide +kernel) rfl rfl (Nat.le_of_ble_eq_true rfl) dX3_init_115 (fun H locs hP hD hS => ?_)
  have hP : va_P (dC, dI) vwCl [(of, .inr (4, [.null, .null, .ref q1, .ref q2, .ref q3, .ref q4, .ref q5, .ref q6, .ref q7, .ref q8, .ref q9, .ref q10, .ref q11, .ref q12, .ref q13, .int 0, .int 0, .ref q14])), (q14, .inl (kq2, 16, .inl (fun _ => (0 : Int32))))] H := hP
  have hD : va_D A [(of, .inr (4, [.null, .null, .ref q1, .ref q2, .ref q3, .ref q4, .ref q5, .ref q6, .ref q7, .ref q8, .ref q9, .ref q10, .ref q11, .ref q12, .ref q13, .int 0, .int 0, .ref q14])), (q14, .inl (kq2, 16, .inl (fun _ => (0 : Int32))))] := hD
  refine lv_aload_n hx hb dX3_init_118 rfl (lv_at hl 0 rfl) ?_
  refine lv_aload_n hx hb dX3_init_119 rfl (lv_at hl 1 rfl) ?_
  refine va_putF (D := (dC, dI)) (ci := 4) (v := .ref bk) (ty := .object "UnlikeBoats$Book") (C := RX3) (T := TX3) (N := 18) hx hb hts iw_c_OfficeI_X3 tyX3 tyX3_ok nmX3 hown hK hP hD hS 0 rfl rfl 0 (by decide) (hts (.fieldLink RX3 55 "UnlikeBoats$Office" "book" "LUnlikeBoats$Book;") (List.mem_of_getElem? (i := 20) rfl)) (fun _ h9 => h9) rfl hin rfl (by decide +kernel) rfl rfl (Nat.le_of_ble_eq_true rfl) dX3_init_120 (fun H locs hP hD hS => ?_)
  have hP : va_P (dC, dI) vwCl [(of, .inr (4, [.ref bk, .null, .ref q1, .ref q2, .ref q3, .ref q4, .ref q5, .ref q6, .ref q7, .ref q8, .ref q9, .ref q10, .ref q11, .ref q12, .ref q13, .int 0, .int 0, .ref q14])), (q14, .inl (kq2, 16, .inl (fun _ => (0 : Int32))))] H := hP
  have hD : va_D A [(of, .inr (4, [.ref bk, .null, .ref q1, .ref q2, .ref q3, .ref q4, .ref q5, .ref q6, .ref q7, .ref q8, .ref q9, .ref q10, .ref q11, .ref q12, .ref q13, .int 0, .int 0, .ref q14])), (q14, .inl (kq2, 16, .inl (fun _ => (0 : Int32))))] := hD
  refine lv_aload_n hx hb dX3_init_123 rfl (lv_at hl 0 rfl) ?_
  refine lv_aload_n hx hb dX3_init_124 rfl (lv_at hl 2 rfl) ?_
  refine va_putF (D := (dC, dI)) (ci := 4) (v := .ref sh) (ty := .object "UnlikeBoats$Sheet") (C := RX3) (T := TX3) (N := 18) hx hb hts iw_c_OfficeI_X3 tyX3 tyX3_ok nmX3 hown hK hP hD hS 0 rfl rfl 1 (by decide) (hts (.fieldLink RX3 59 "UnlikeBoats$Office" "sheet" "LUnlikeBoats$Sheet;") (List.mem_of_getElem? (i := 21) rfl)) (fun _ h9 => h9) rfl hin rfl (by decide +kernel) rfl rfl (Nat.le_of_ble_eq_true rfl) dX3_init_125 (fun H locs hP hD hS => ?_)
  have hP : va_P (dC, dI) vwCl [(of, .inr (4, [.ref bk, .ref sh, .ref q1, .ref q2, .ref q3, .ref q4, .ref q5, .ref q6, .ref q7, .ref q8, .ref q9, .ref q10, .ref q11, .ref q12, .ref q13, .int 0, .int 0, .ref q14])), (q14, .inl (kq2, 16, .inl (fun _ => (0 : Int32))))] H := hP
  have hD : va_D A [(of, .inr (4, [.ref bk, .ref sh, .ref q1, .ref q2, .ref q3, .ref q4, .ref q5, .ref q6, .ref q7, .ref q8, .ref q9, .ref q10, .ref q11, .ref q12, .ref q13, .int 0, .int 0, .ref q14])), (q14, .inl (kq2, 16, .inl (fun _ => (0 : Int32))))] := hD
  have hP9 := hP.sub (ws' := [(of, .inr (4, [.ref bk, .ref sh, .ref q1, .ref q2, .ref q3, .ref q4, .ref q5, .ref q6, .ref q7, .ref q8, .ref q9, .ref q10, .ref q11, .ref q12, .ref q13, .int 0, .int 0, .ref q14])), (q14, .inl (kq2, 16, .inl (fun _ => (0 : Int32))))]) [0, 1] rfl
  have hD9 := hD.sub (ws' := [(of, .inr (4, [.ref bk, .ref sh, .ref q1, .ref q2, .ref q3, .ref q4, .ref q5, .ref q6, .ref q7, .ref q8, .ref q9, .ref q10, .ref q11, .ref q12, .ref q13, .int 0, .int 0, .ref q14])), (q14, .inl (kq2, 16, .inl (fun _ => (0 : Int32))))]) [0, 1] (by decide) rfl
  have hK9 := hK.sub (tys' := [(kq2, .int)]) [1] rfl
  exact W.vret hx hb hr (fun t ht hW => ⟨⟨(q1, q2, q3, q4, q5, q6, q7, q8, q9, q10, q11, q12, q13, q14, kq2), rfl, trivial, (by rw [ht]; exact hP9), va_K.moved hW.alike hK9, hD9⟩, hS.F ht⟩) hS.2.2 dX3_init_128
def A_c_UB : List Cond := [.instanceMethod objectInit, .code objectInit ⟨#[0xb1]⟩ 1 none, .methodLink RX12 1 objectInit, .classLink RX12 7 RX0, .instantiable RX0 11, .initialized RX0, .instanceMethod yX0_init, .fieldLink RX12 10 "UnlikeBoats" "book" "LUnlikeBoats$Book;", .classLink RX12 16 RX10, .instantiable RX10 10, .initialized RX10, .instanceMethod yX10_init, .fieldLink RX12 19 "UnlikeBoats" "tape" "LUnlikeBoats$Tape;", .classLink RX12 23 RX9, .instantiable RX9 9, .initialized RX9, .methodLink RX12 25 yX9_init, .instanceMethod yX9_init, .fieldLink RX12 28 "UnlikeBoats" "sheet" "LUnlikeBoats$Sheet;", .classLink RX12 32 RX8, .instantiable RX8 10, .initialized RX8, .methodLink RX12 34 yX8_init, .instanceMethod yX8_init, .fieldLink RX12 37 "UnlikeBoats" "scores" "LUnlikeBoats$Scores;", .classLink RX12 41 RX2, .instantiable RX2 10, .initialized RX2, .methodLink RX12 43 yX2_init, .instanceMethod yX2_init, .fieldLink RX12 44 "UnlikeBoats" "hearing" "LUnlikeBoats$Hearing;", .classLink RX12 48 RX3, .instantiable RX3 18, .initialized RX3, .methodLink RX12 50 yX3_init, .instanceMethod yX3_init, .fieldLink RX12 51 "UnlikeBoats" "office" "LUnlikeBoats$Office;", .code yX0_init cX0_init 1 none, .methodLink RX0 3 objectInit, .classLink RX0 9 RJx4a65c, .instantiable RJx4a65c 3, .initialized RJx4a65c, .methodLink RX0 11 yJx4a65c_init_da8c8, .instanceMethod yJx4a65c_init_da8c8, .fieldLink RX0 12 "UnlikeBoats$Book" "certificates" "Ljava/util/ArrayList;", .fieldLink RX0 18 "UnlikeBoats$Book" "rules" "Ljava/util/ArrayList;", .fieldLink RX0 21 "UnlikeBoats$Book" "races" "Ljava/util/ArrayList;", .fieldLink RX0 24 "UnlikeBoats$Book" "results" "Ljava/util/ArrayList;", .fieldLink RX0 27 "UnlikeBoats$Book" "words" "Ljava/util/ArrayList;", .fieldLink RX0 30 "UnlikeBoats$Book" "protests" "Ljava/util/ArrayList;", .methodLink RX0 35 yJ0_length_8abf5, .instanceMethod yJ0_length_8abf5, .selects RJ0 yJ0_length_8abf5 yJ0_length_8abf5, .initialized RJ0, .arrayClass .int, .fieldLink RX0 41 "UnlikeBoats$Book" "letters" "[I", .fieldLink RX0 45 "UnlikeBoats$Book" "stack" "[I", .code yJx4a65c_init_da8c8 cJx4a65c_init_da8c8 1 none, .initialized RJxc12de, .methodLink RJx4a65c 1 yJxc12de_init_da8c8, .instanceMethod yJxc12de_init_da8c8, .fieldLink RJx4a65c 39 "java/util/ArrayList" "DEFAULTCAPACITY_EMPTY_ELEMENTDATA" "[Ljava/lang/Object;", .fieldLink RJx4a65c 9 "java/util/ArrayList" "elementData" "[Ljava/lang/Object;", .code yJxc12de_init_da8c8 cJxc12de_init_da8c8 1 none, .initialized RJxa1e45, .methodLink RJxc12de 1 yJxa1e45_init_da8c8, .instanceMethod yJxa1e45_init_da8c8, .fieldLink RJxc12de 7 "java/util/AbstractList" "modCount" "I", .code yJxa1e45_init_da8c8 cJxa1e45_init_da8c8 1 none, .methodLink RJxa1e45 1 objectInit, .code yJ0_length_8abf5 cJ0_length_8abf5 1 (some .int), .fieldLink RJ0 9 "java/lang/String" "value" "[B", .methodLink RJ0 335 yJ0_coder_7d493, .instanceMethod yJ0_coder_7d493, .selects RJ0 yJ0_coder_7d493 yJ0_coder_7d493, .code yJ0_coder_7d493 cJ0_coder_7d493 1 (some .byte), .fieldLink RJ0 38 "java/lang/String" "COMPACT_STRINGS" "Z", .fieldLink RJ0 15 "java/lang/String" "coder" "B", .code yX10_init cX10_init 1 none, .methodLink RX10 3 objectInit, .fieldLink RX10 9 "UnlikeBoats$Tape" "bytes" "[I", .fieldLink RX10 15 "UnlikeBoats$Tape" "steps" "[I", .fieldLink RX10 18 "UnlikeBoats$Tape" "labels" "[I", .fieldLink RX10 21 "UnlikeBoats$Tape" "begins" "[I", .fieldLink RX10 24 "UnlikeBoats$Tape" "sums" "[I", .code yX9_init cX9_init 2 none, .methodLink RX9 3 objectInit, .fieldLink RX9 9 "UnlikeBoats$Sheet" "codes" "[I", .fieldLink RX9 15 "UnlikeBoats$Sheet" "seconds" "[I", .fieldLink RX9 18 "UnlikeBoats$Sheet" "numbers" "[I", .fieldLink RX9 21 "UnlikeBoats$Sheet" "times" "[I", .fieldLink RX9 24 "UnlikeBoats$Sheet" "places" "[I", .fieldLink RX9 27 "UnlikeBoats$Sheet" "book" "LUnlikeBoats$Book;", .code yX8_init cX8_init 3 none, .methodLink RX8 3 objectInit, .fieldLink RX8 9 "UnlikeBoats$Scores" "plain" "[I", .fieldLink RX8 15 "UnlikeBoats$Scores" "points" "[I", .arrayClass .boolean, .fieldLink RX8 18 "UnlikeBoats$Scores" "out" "[Z", .fieldLink RX8 22 "UnlikeBoats$Scores" "scored" "[Z", .fieldLink RX8 25 "UnlikeBoats$Scores" "totals" "[I", .fieldLink RX8 28 "UnlikeBoats$Scores" "mine" "[I", .fieldLink RX8 31 "UnlikeBoats$Scores" "theirs" "[I", .fieldLink RX8 34 "UnlikeBoats$Scores" "book" "LUnlikeBoats$Book;", .fieldLink RX8 38 "UnlikeBoats$Scores" "sheet" "LUnlikeBoats$Sheet;", .code yX2_init cX2_init 2 none, .methodLink RX2 3 objectInit, .fieldLink RX2 9 "UnlikeBoats$Hearing" "lowX" "[I", .fieldLink RX2 15 "UnlikeBoats$Hearing" "highX" "[I", .fieldLink RX2 18 "UnlikeBoats$Hearing" "lowY" "[I", .fieldLink RX2 21 "UnlikeBoats$Hearing" "highY" "[I", .fieldLink RX2 24 "UnlikeBoats$Hearing" "ways" "[I", .fieldLink RX2 27 "UnlikeBoats$Hearing" "book" "LUnlikeBoats$Book;", .code yX3_init cX3_init 3 none, .methodLink RX3 5 objectInit, .fieldLink RX3 11 "UnlikeBoats$Office" "finished" "[Z", .fieldLink RX3 15 "UnlikeBoats$Office" "seconds" "[I", .fieldLink RX3 19 "UnlikeBoats$Office" "numbers" "[I", .fieldLink RX3 22 "UnlikeBoats$Office" "times" "[I", .fieldLink RX3 25 "UnlikeBoats$Office" "counted" "[I", .fieldLink RX3 28 "UnlikeBoats$Office" "middles" "[I", .fieldLink RX3 31 "UnlikeBoats$Office" "own" "[I", .fieldLink RX3 34 "UnlikeBoats$Office" "ratios" "[I", .fieldLink RX3 37 "UnlikeBoats$Office" "row" "[I", .fieldLink RX3 40 "UnlikeBoats$Office" "changed" "[I", .fieldLink RX3 43 "UnlikeBoats$Office" "evened" "[I", .fieldLink RX3 46 "UnlikeBoats$Office" "tried" "[I", .fieldLink RX3 49 "UnlikeBoats$Office" "best" "[I", .fieldLink RX3 52 "UnlikeBoats$Office" "weights" "[I", .fieldLink RX3 55 "UnlikeBoats$Office" "book" "LUnlikeBoats$Book;", .fieldLink RX3 59 "UnlikeBoats$Office" "sheet" "LUnlikeBoats$Sheet;"]
def v_c_UB : List Cond := .code yX12_init cX12_init 1 none :: (A_c_UB ++ wsX00 ++ wsJx4a65c0 ++ wsX120 ++ wsX100 ++ wsX90 ++ wsX80 ++ wsX20 ++ wsX30)
theorem iw_c_UB_X0 : ∀ w ∈ wsX00, w ∈ v_c_UB := fun _ h => List.mem_cons_of_mem _ (List.mem_append_left _ (List.mem_append_left _ (List.mem_append_left _ (List.mem_append_left _ (List.mem_append_left _ (List.mem_append_left _ (List.mem_append_left _ (List.mem_append_right _ (h)))))))))
theorem iw_c_UB_Jx4a65c : ∀ w ∈ wsJx4a65c0, w ∈ v_c_UB := fun _ h => List.mem_cons_of_mem _ (List.mem_append_left _ (List.mem_append_left _ (List.mem_append_left _ (List.mem_append_left _ (List.mem_append_left _ (List.mem_append_left _ (List.mem_append_right _ (h))))))))
theorem iw_c_UB_X12 : ∀ w ∈ wsX120, w ∈ v_c_UB := fun _ h => List.mem_cons_of_mem _ (List.mem_append_left _ (List.mem_append_left _ (List.mem_append_left _ (List.mem_append_left _ (List.mem_append_left _ (List.mem_append_right _ (h)))))))
theorem iw_c_UB_X10 : ∀ w ∈ wsX100, w ∈ v_c_UB := fun _ h => List.mem_cons_of_mem _ (List.mem_append_left _ (List.mem_append_left _ (List.mem_append_left _ (List.mem_append_left _ (List.mem_append_right _ (h))))))
theorem iw_c_UB_X9 : ∀ w ∈ wsX90, w ∈ v_c_UB := fun _ h => List.mem_cons_of_mem _ (List.mem_append_left _ (List.mem_append_left _ (List.mem_append_left _ (List.mem_append_right _ (h)))))
theorem iw_c_UB_X8 : ∀ w ∈ wsX80, w ∈ v_c_UB := fun _ h => List.mem_cons_of_mem _ (List.mem_append_left _ (List.mem_append_left _ (List.mem_append_right _ (h))))
theorem iw_c_UB_X2 : ∀ w ∈ wsX20, w ∈ v_c_UB := fun _ h => List.mem_cons_of_mem _ (List.mem_append_left _ (List.mem_append_right _ (h)))
theorem iw_c_UB_X3 : ∀ w ∈ wsX30, w ∈ v_c_UB := fun _ h => List.mem_cons_of_mem _ (List.mem_append_right _ (h))
theorem gb_c_UB_c_BookI0 : GoodIn v_c_UB (.code yX0_init cX0_init 1 none :: A_c_BookI) := (List.forall_mem_cons.mpr ⟨⟨List.mem_of_getElem? (i := 38) rfl, good_of_word rfl⟩, (List.forall_mem_cons.mpr ⟨⟨List.mem_of_getElem? (i := 1) rfl, good_of_word rfl⟩, (List.forall_mem_cons.mpr ⟨⟨List.mem_of_getElem? (i := 2) rfl, good_of_word rfl⟩, (List.forall_mem_cons.mpr ⟨⟨List.mem_of_getElem? (i := 39) rfl, good_of_word rfl⟩, (List.forall_mem_cons.mpr ⟨⟨List.mem_of_getElem? (i := 40) rfl, good_of_word rfl⟩, (List.forall_mem_cons.mpr ⟨⟨List.mem_of_getElem? (i := 41) rfl, good_of_word rfl⟩, (List.forall_mem_cons.mpr ⟨⟨List.mem_of_getElem? (i := 42) rfl, good_of_word rfl⟩, (List.forall_mem_cons.mpr ⟨⟨List.mem_of_getElem? (i := 43) rfl, good_of_word rfl⟩, (List.forall_mem_cons.mpr ⟨⟨List.mem_of_getElem? (i := 44) rfl, good_of_word rfl⟩, (List.forall_mem_cons.mpr ⟨⟨List.mem_of_getElem? (i := 45) rfl, good_of_word rfl⟩, (List.forall_mem_cons.mpr ⟨⟨List.mem_of_getElem? (i := 46) rfl, good_of_word rfl⟩, (List.forall_mem_cons.mpr ⟨⟨List.mem_of_getElem? (i := 47) rfl, good_of_word rfl⟩, (List.forall_mem_cons.mpr ⟨⟨List.mem_of_getElem? (i := 48) rfl, good_of_word rfl⟩, (List.forall_mem_cons.mpr ⟨⟨List.mem_of_getElem? (i := 49) rfl, good_of_word rfl⟩, (List.forall_mem_cons.mpr ⟨⟨List.mem_of_getElem? (i := 50) rfl, good_of_word rfl⟩, (List.forall_mem_cons.mpr ⟨⟨List.mem_of_getElem? (i := 51) rfl, good_of_word rfl⟩, (List.forall_mem_cons.mpr ⟨⟨List.mem_of_getElem? (i := 52) rfl, good_of_word rfl⟩, (List.forall_mem_cons.mpr ⟨⟨List.mem_of_getElem? (i := 53) rfl, good_of_word rfl⟩, (List.forall_mem_cons.mpr ⟨⟨List.mem_of_getElem? (i := 54) rfl, good_of_word rfl⟩, (List.forall_mem_cons.mpr ⟨⟨List.mem_of_getElem? (i := 55) rfl, good_of_word rfl⟩, (List.forall_mem_cons.mpr ⟨⟨List.mem_of_getElem? (i := 56) rfl, good_of_word rfl⟩, (List.forall_mem_cons.mpr ⟨⟨List.mem_of_getElem? (i := 57) rfl, good_of_word rfl⟩, (List.forall_mem_cons.mpr ⟨⟨List.mem_of_getElem? (i := 58) rfl, good_of_word rfl⟩, (List.forall_mem_cons.mpr ⟨⟨List.mem_of_getElem? (i := 59) rfl, good_of_word rfl⟩, (List.forall_mem_cons.mpr ⟨⟨List.mem_of_getElem? (i := 60) rfl, good_of_word rfl⟩, (List.forall_mem_cons.mpr ⟨⟨List.mem_of_getElem? (i := 61) rfl, good_of_word rfl⟩, (List.forall_mem_cons.mpr ⟨⟨List.mem_of_getElem? (i := 62) rfl, good_of_word rfl⟩, (List.forall_mem_cons.mpr ⟨⟨List.mem_of_getElem? (i := 63) rfl, good_of_word rfl⟩, (List.forall_mem_cons.mpr ⟨⟨List.mem_of_getElem? (i := 64) rfl, good_of_word rfl⟩, (List.forall_mem_cons.mpr ⟨⟨List.mem_of_getElem? (i := 65) rfl, good_of_word rfl⟩, (List.forall_mem_cons.mpr ⟨⟨List.mem_of_getElem? (i := 66) rfl, good_of_word rfl⟩, (List.forall_mem_cons.mpr ⟨⟨List.mem_of_getElem? (i := 67) rfl, good_of_word rfl⟩, (List.forall_mem_cons.mpr ⟨⟨List.mem_of_getElem? (i := 68) rfl, good_of_word rfl⟩, (List.forall_mem_cons.mpr ⟨⟨List.mem_of_getElem? (i := 69) rfl, good_of_word rfl⟩, (List.forall_mem_cons.mpr ⟨⟨List.mem_of_getElem? (i := 70) rfl, good_of_word rfl⟩, (List.forall_mem_cons.mpr ⟨⟨List.mem_of_getElem? (i := 71) rfl, good_of_word rfl⟩, (List.forall_mem_cons.mpr ⟨⟨List.mem_of_getElem? (i := 72) rfl, good_of_word rfl⟩, (List.forall_mem_cons.mpr ⟨⟨List.mem_of_getElem? (i := 73) rfl, good_of_word rfl⟩, (List.forall_mem_cons.mpr ⟨⟨List.mem_of_getElem? (i := 74) rfl, good_of_word rfl⟩, (List.forall_mem_cons.mpr ⟨⟨List.mem_of_getElem? (i := 75) rfl, good_of_word rfl⟩, (List.forall_mem_cons.mpr ⟨⟨List.mem_of_getElem? (i := 76) rfl, good_of_word rfl⟩, (List.forall_mem_cons.mpr ⟨⟨List.mem_of_getElem? (i := 77) rfl, good_of_word rfl⟩, (List.forall_mem_cons.mpr ⟨⟨List.mem_of_getElem? (i := 78) rfl, good_of_word rfl⟩, (fun _ h => nomatch h)⟩)⟩)⟩)⟩)⟩)⟩)⟩)⟩)⟩)⟩)⟩)⟩)⟩)⟩)⟩)⟩)⟩)⟩)⟩)⟩)⟩)⟩)⟩)⟩)⟩)⟩)⟩)⟩)⟩)⟩)⟩)⟩)⟩)⟩)⟩)⟩)⟩)⟩)⟩)⟩)⟩)⟩)⟩)
theorem gb_c_UB_c_BookI : GoodIn v_c_UB v_c_BookI := (goodIn_ca (goodIn_ca gb_c_UB_c_BookI0 (goodIn_sub iw_c_UB_Jx4a65c gw_Jx4a65c)) (goodIn_sub iw_c_UB_X0 gw_X0))
theorem g_c_UB_c_BookI : GoodIn v_c_UB (v_c_BookI) := gb_c_UB_c_BookI
theorem gb_c_UB_c_TapeI0 : GoodIn v_c_UB (.code yX10_init cX10_init 1 none :: A_c_TapeI) := (List.forall_mem_cons.mpr ⟨⟨List.mem_of_getElem? (i := 79) rfl, good_of_word rfl⟩, (List.forall_mem_cons.mpr ⟨⟨List.mem_of_getElem? (i := 1) rfl, good_of_word rfl⟩, (List.forall_mem_cons.mpr ⟨⟨List.mem_of_getElem? (i := 2) rfl, good_of_word rfl⟩, (List.forall_mem_cons.mpr ⟨⟨List.mem_of_getElem? (i := 80) rfl, good_of_word rfl⟩, (List.forall_mem_cons.mpr ⟨⟨List.mem_of_getElem? (i := 55) rfl, good_of_word rfl⟩, (List.forall_mem_cons.mpr ⟨⟨List.mem_of_getElem? (i := 81) rfl, good_of_word rfl⟩, (List.forall_mem_cons.mpr ⟨⟨List.mem_of_getElem? (i := 82) rfl, good_of_word rfl⟩, (List.forall_mem_cons.mpr ⟨⟨List.mem_of_getElem? (i := 83) rfl, good_of_word rfl⟩, (List.forall_mem_cons.mpr ⟨⟨List.mem_of_getElem? (i := 84) rfl, good_of_word rfl⟩, (List.forall_mem_cons.mpr ⟨⟨List.mem_of_getElem? (i := 85) rfl, good_of_word rfl⟩, (fun _ h => nomatch h)⟩)⟩)⟩)⟩)⟩)⟩)⟩)⟩)⟩)⟩)
theorem gb_c_UB_c_TapeI : GoodIn v_c_UB v_c_TapeI := (goodIn_ca gb_c_UB_c_TapeI0 (goodIn_sub iw_c_UB_X10 gw_X10))
theorem g_c_UB_c_TapeI : GoodIn v_c_UB (v_c_TapeI) := gb_c_UB_c_TapeI
theorem gb_c_UB_c_SheetI0 : GoodIn v_c_UB (.code yX9_init cX9_init 2 none :: A_c_SheetI) := (List.forall_mem_cons.mpr ⟨⟨List.mem_of_getElem? (i := 86) rfl, good_of_word rfl⟩, (List.forall_mem_cons.mpr ⟨⟨List.mem_of_getElem? (i := 1) rfl, good_of_word rfl⟩, (List.forall_mem_cons.mpr ⟨⟨List.mem_of_getElem? (i := 2) rfl, good_of_word rfl⟩, (List.forall_mem_cons.mpr ⟨⟨List.mem_of_getElem? (i := 87) rfl, good_of_word rfl⟩, (List.forall_mem_cons.mpr ⟨⟨List.mem_of_getElem? (i := 55) rfl, good_of_word rfl⟩, (List.forall_mem_cons.mpr ⟨⟨List.mem_of_getElem? (i := 88) rfl, good_of_word rfl⟩, (List.forall_mem_cons.mpr ⟨⟨List.mem_of_getElem? (i := 89) rfl, good_of_word rfl⟩, (List.forall_mem_cons.mpr ⟨⟨List.mem_of_getElem? (i := 90) rfl, good_of_word rfl⟩, (List.forall_mem_cons.mpr ⟨⟨List.mem_of_getElem? (i := 91) rfl, good_of_word rfl⟩, (List.forall_mem_cons.mpr ⟨⟨List.mem_of_getElem? (i := 92) rfl, good_of_word rfl⟩, (List.forall_mem_cons.mpr ⟨⟨List.mem_of_getElem? (i := 93) rfl, good_of_word rfl⟩, (fun _ h => nomatch h)⟩)⟩)⟩)⟩)⟩)⟩)⟩)⟩)⟩)⟩)⟩)
theorem gb_c_UB_c_SheetI : GoodIn v_c_UB v_c_SheetI := (goodIn_ca gb_c_UB_c_SheetI0 (goodIn_sub iw_c_UB_X9 gw_X9))
theorem g_c_UB_c_SheetI : GoodIn v_c_UB (v_c_SheetI) := gb_c_UB_c_SheetI
theorem gb_c_UB_c_ScoresI0 : GoodIn v_c_UB (.code yX8_init cX8_init 3 none :: A_c_ScoresI) := (List.forall_mem_cons.mpr ⟨⟨List.mem_of_getElem? (i := 94) rfl, good_of_word rfl⟩, (List.forall_mem_cons.mpr ⟨⟨List.mem_of_getElem? (i := 1) rfl, good_of_word rfl⟩, (List.forall_mem_cons.mpr ⟨⟨List.mem_of_getElem? (i := 2) rfl, good_of_word rfl⟩, (List.forall_mem_cons.mpr ⟨⟨List.mem_of_getElem? (i := 95) rfl, good_of_word rfl⟩, (List.forall_mem_cons.mpr ⟨⟨List.mem_of_getElem? (i := 55) rfl, good_of_word rfl⟩, (List.forall_mem_cons.mpr ⟨⟨List.mem_of_getElem? (i := 96) rfl, good_of_word rfl⟩, (List.forall_mem_cons.mpr ⟨⟨List.mem_of_getElem? (i := 97) rfl, good_of_word rfl⟩, (List.forall_mem_cons.mpr ⟨⟨List.mem_of_getElem? (i := 98) rfl, good_of_word rfl⟩, (List.forall_mem_cons.mpr ⟨⟨List.mem_of_getElem? (i := 99) rfl, good_of_word rfl⟩, (List.forall_mem_cons.mpr ⟨⟨List.mem_of_getElem? (i := 100) rfl, good_of_word rfl⟩, (List.forall_mem_cons.mpr ⟨⟨List.mem_of_getElem? (i := 101) rfl, good_of_word rfl⟩, (List.forall_mem_cons.mpr ⟨⟨List.mem_of_getElem? (i := 102) rfl, good_of_word rfl⟩, (List.forall_mem_cons.mpr ⟨⟨List.mem_of_getElem? (i := 103) rfl, good_of_word rfl⟩, (List.forall_mem_cons.mpr ⟨⟨List.mem_of_getElem? (i := 104) rfl, good_of_word rfl⟩, (List.forall_mem_cons.mpr ⟨⟨List.mem_of_getElem? (i := 105) rfl, good_of_word rfl⟩, (fun _ h => nomatch h)⟩)⟩)⟩)⟩)⟩)⟩)⟩)⟩)⟩)⟩)⟩)⟩)⟩)⟩)⟩)
theorem gb_c_UB_c_ScoresI : GoodIn v_c_UB v_c_ScoresI := (goodIn_ca gb_c_UB_c_ScoresI0 (goodIn_sub iw_c_UB_X8 gw_X8))
theorem g_c_UB_c_ScoresI : GoodIn v_c_UB (v_c_ScoresI) := gb_c_UB_c_ScoresI
theorem gb_c_UB_c_HearingI0 : GoodIn v_c_UB (.code yX2_init cX2_init 2 none :: A_c_HearingI) := (List.forall_mem_cons.mpr ⟨⟨List.mem_of_getElem? (i := 106) rfl, good_of_word rfl⟩, (List.forall_mem_cons.mpr ⟨⟨List.mem_of_getElem? (i := 1) rfl, good_of_word rfl⟩, (List.forall_mem_cons.mpr ⟨⟨List.mem_of_getElem? (i := 2) rfl, good_of_word rfl⟩, (List.forall_mem_cons.mpr ⟨⟨List.mem_of_getElem? (i := 107) rfl, good_of_word rfl⟩, (List.forall_mem_cons.mpr ⟨⟨List.mem_of_getElem? (i := 55) rfl, good_of_word rfl⟩, (List.forall_mem_cons.mpr ⟨⟨List.mem_of_getElem? (i := 108) rfl, good_of_word rfl⟩, (List.forall_mem_cons.mpr ⟨⟨List.mem_of_getElem? (i := 109) rfl, good_of_word rfl⟩, (List.forall_mem_cons.mpr ⟨⟨List.mem_of_getElem? (i := 110) rfl, good_of_word rfl⟩, (List.forall_mem_cons.mpr ⟨⟨List.mem_of_getElem? (i := 111) rfl, good_of_word rfl⟩, (List.forall_mem_cons.mpr ⟨⟨List.mem_of_getElem? (i := 112) rfl, good_of_word rfl⟩, (List.forall_mem_cons.mpr ⟨⟨List.mem_of_getElem? (i := 113) rfl, good_of_word rfl⟩, (fun _ h => nomatch h)⟩)⟩)⟩)⟩)⟩)⟩)⟩)⟩)⟩)⟩)⟩)
theorem gb_c_UB_c_HearingI : GoodIn v_c_UB v_c_HearingI := (goodIn_ca gb_c_UB_c_HearingI0 (goodIn_sub iw_c_UB_X2 gw_X2))
theorem g_c_UB_c_HearingI : GoodIn v_c_UB (v_c_HearingI) := gb_c_UB_c_HearingI
theorem gb_c_UB_c_OfficeI0 : GoodIn v_c_UB (.code yX3_init cX3_init 3 none :: A_c_OfficeI) := (List.forall_mem_cons.mpr ⟨⟨List.mem_of_getElem? (i := 114) rfl, good_of_word rfl⟩, (List.forall_mem_cons.mpr ⟨⟨List.mem_of_getElem? (i := 1) rfl, good_of_word rfl⟩, (List.forall_mem_cons.mpr ⟨⟨List.mem_of_getElem? (i := 2) rfl, good_of_word rfl⟩, (List.forall_mem_cons.mpr ⟨⟨List.mem_of_getElem? (i := 115) rfl, good_of_word rfl⟩, (List.forall_mem_cons.mpr ⟨⟨List.mem_of_getElem? (i := 98) rfl, good_of_word rfl⟩, (List.forall_mem_cons.mpr ⟨⟨List.mem_of_getElem? (i := 116) rfl, good_of_word rfl⟩, (List.forall_mem_cons.mpr ⟨⟨List.mem_of_getElem? (i := 55) rfl, good_of_word rfl⟩, (List.forall_mem_cons.mpr ⟨⟨List.mem_of_getElem? (i := 117) rfl, good_of_word rfl⟩, (List.forall_mem_cons.mpr ⟨⟨List.mem_of_getElem? (i := 118) rfl, good_of_word rfl⟩, (List.forall_mem_cons.mpr ⟨⟨List.mem_of_getElem? (i := 119) rfl, good_of_word rfl⟩, (List.forall_mem_cons.mpr ⟨⟨List.mem_of_getElem? (i := 120) rfl, good_of_word rfl⟩, (List.forall_mem_cons.mpr ⟨⟨List.mem_of_getElem? (i := 121) rfl, good_of_word rfl⟩, (List.forall_mem_cons.mpr ⟨⟨List.mem_of_getElem? (i := 122) rfl, good_of_word rfl⟩, (List.forall_mem_cons.mpr ⟨⟨List.mem_of_getElem? (i := 123) rfl, good_of_word rfl⟩, (List.forall_mem_cons.mpr ⟨⟨List.mem_of_getElem? (i := 124) rfl, good_of_word rfl⟩, (List.forall_mem_cons.mpr ⟨⟨List.mem_of_getElem? (i := 125) rfl, good_of_word rfl⟩, (List.forall_mem_cons.mpr ⟨⟨List.mem_of_getElem? (i := 126) rfl, good_of_word rfl⟩, (List.forall_mem_cons.mpr ⟨⟨List.mem_of_getElem? (i := 127) rfl, good_of_word rfl⟩, (List.forall_mem_cons.mpr ⟨⟨List.mem_of_getElem? (i := 128) rfl, good_of_word rfl⟩, (List.forall_mem_cons.mpr ⟨⟨List.mem_of_getElem? (i := 129) rfl, good_of_word rfl⟩, (List.forall_mem_cons.mpr ⟨⟨List.mem_of_getElem? (i := 130) rfl, good_of_word rfl⟩, (List.forall_mem_cons.mpr ⟨⟨List.mem_of_getElem? (i := 131) rfl, good_of_word rfl⟩, (fun _ h => nomatch h)⟩)⟩)⟩)⟩)⟩)⟩)⟩)⟩)⟩)⟩)⟩)⟩)⟩)⟩)⟩)⟩)⟩)⟩)⟩)⟩)⟩)⟩)
theorem gb_c_UB_c_OfficeI : GoodIn v_c_UB v_c_OfficeI := (goodIn_ca gb_c_UB_c_OfficeI0 (goodIn_sub iw_c_UB_X3 gw_X3))
theorem g_c_UB_c_OfficeI : GoodIn v_c_UB (v_c_OfficeI) := gb_c_UB_c_OfficeI
set_option maxHeartbeats 4000000 in
set_option maxRecDepth 100000 in
theorem c_UB (l : Launch) (dC : Nat → ClassId) (dI : Nat → Nat → Nat) (x : Nat) (ed : Nat) (sz : Nat)  : Met l yX12_init v_c_UB ({ frames := 5, cells := 50, slots := 3940, locals := 200 }) (va_Pc [.ref x] (fun U => U.heap.size = sz ∧ va_P (dC, dI) vwCl [(x, .inr (13, [.null, .null, .null, .null, .null, .null]))] U.heap ∧ va_K (dC, dI) vwCl [] U ∧ va_D (fun _ => True) [(x, .inr (13, [.null, .null, .null, .null, .null, .null]))] ∧ ub_NX U ∧ ub_ZE ed (va_A [(x, .inr (13, [.null, .null, .null, .null, .null, .null]))] sz) U U.heap ∧ ub_SL (va_A [(x, .inr (13, [.null, .null, .null, .null, .null, .null]))] sz) U U.heap)) (va_Qv (S := Nat × Nat × Nat × Nat × Nat × Nat × Nat × Nat × Nat × Nat × Nat × Nat × Nat × Nat × Nat × Nat × Nat × Nat × Nat × Nat × Nat × Nat × Nat × Nat × Nat × Nat × Nat × Nat × Nat × Nat × Nat × Nat × Nat × Nat × Nat × Nat × Nat × Nat × Nat × Nat × ClassId × ClassId) (fun _ => True) (fun u t => match u with | (bk, lc, lr, la, le, lw, lp, ltr, stk, tp, tby, tst, tla, tbe, tsu, sh, sc, spl, spo, sou, ssc, sto, smi, sth, he, of, o2, o3, o4, o5, o6, o7, o8, o9, o10, o11, o12, o13, o14, o17, cI, cZ) => va_P (dC, dI) vwCl [(x, .inr (13, [.ref bk, .ref tp, .ref sh, .ref sc, .ref he, .ref of])), (bk, .inr (1, [.int 0, .int 0, .int 0, .ref lc, .ref lr, .ref la, .ref le, .ref lw, .ref lp, .ref ltr, .ref stk])), (lc, .inr (0, [.int 0, .ref ed, .int 0])), (lr, .inr (0, [.int 0, .ref ed, .int 0])), (la, .inr (0, [.int 0, .ref ed, .int 0])), (le, .inr (0, [.int 0, .ref ed, .int 0])), (lw, .inr (0, [.int 0, .ref ed, .int 0])), (lp, .inr (0, [.int 0, .ref ed, .int 0])), (ltr, .inl (cI, 14, .inl (fun _ => (0 : Int32)))), (tp, .inr (11, [.ref tby, .int 0, .int 0, .int 0, .ref tst, .int 0, .ref tla, .ref tbe, .ref tsu, .int 0])), (tby, .inl (cI, 200, .inl (fun _ => (0 : Int32)))), (tbe, .inl (cI, 52, .inl (fun _ => (0 : Int32)))), (sc, .inr (9, [.ref bk, .ref sh, .int 0, .ref spl, .ref spo, .ref sou, .ref ssc, .ref sto, .ref smi, .ref sth])), (ssc, .inl (cZ, 16, .inl (fun _ => (0 : Int32)))), (of, .inr (4, [.ref bk, .ref sh, .ref o2, .ref o3, .ref o4, .ref o5, .ref o6, .ref o7, .ref o8, .ref o9, .ref o10, .ref o11, .ref o12, .ref o13, .ref o14, .int 0, .int 0, .ref o17])), (o17, .inl (cI, 16, .inl (fun _ => (0 : Int32))))] t.heap ∧ va_K (dC, dI) vwCl [(cI, .int), (cZ, .boolean)] t ∧ va_D (va_A [(x, .inr (13, [.null, .null, .null, .null, .null, .null]))] sz) [(x, .inr (13, [.ref bk, .ref tp, .ref sh, .ref sc, .ref he, .ref of])), (bk, .inr (1, [.int 0, .int 0, .int 0, .ref lc, .ref lr, .ref la, .ref le, .ref lw, .ref lp, .ref ltr, .ref stk])), (lc, .inr (0, [.int 0, .ref ed, .int 0])), (lr, .inr (0, [.int 0, .ref ed, .int 0])), (la, .inr (0, [.int 0, .ref ed, .int 0])), (le, .inr (0, [.int 0, .ref ed, .int 0])), (lw, .inr (0, [.int 0, .ref ed, .int 0])), (lp, .inr (0, [.int 0, .ref ed, .int 0])), (ltr, .inl (cI, 14, .inl (fun _ => (0 : Int32)))), (tp, .inr (11, [.ref tby, .int 0, .int 0, .int 0, .ref tst, .int 0, .ref tla, .ref tbe, .ref tsu, .int 0])), (tby, .inl (cI, 200, .inl (fun _ => (0 : Int32)))), (tbe, .inl (cI, 52, .inl (fun _ => (0 : Int32)))), (sc, .inr (9, [.ref bk, .ref sh, .int 0, .ref spl, .ref spo, .ref sou, .ref ssc, .ref sto, .ref smi, .ref sth])), (ssc, .inl (cZ, 16, .inl (fun _ => (0 : Int32)))), (of, .inr (4, [.ref bk, .ref sh, .ref o2, .ref o3, .ref o4, .ref o5, .ref o6, .ref o7, .ref o8, .ref o9, .ref o10, .ref o11, .ref o12, .ref o13, .ref o14, .int 0, .int 0, .ref o17])), (o17, .inl (cI, 16, .inl (fun _ => (0 : Int32))))]) (va_A [(x, .inr (13, [.null, .null, .null, .null, .null, .null]))] sz)) 50 3940 (va_A [(x, .inr (13, [.null, .null, .null, .null, .null, .null]))] sz) := by
  refine Met.ofW (cc := cX12_init) (maxL := 1) (ret := none) (by decide) rfl ?_
  intro p e s m args below meth c s₁ B hml hv
  obtain ⟨rfl, hsz, hP, hK, hD0, hN, hZ, hL⟩ := hv
  have hx := B.exec
  have hb := B.bytes
  have hr := B.returns
  have hts := atoms_spec (ws := v_c_UB) B.pre
  have hown : s.vm.findClass RX12 = some m.cls := findClass_of_methodNamed B.named
  have hlocks := B.notSynchronized
  have hin : meth.name = "<init>" := (name_of_methodNamed B.named B.method).1
  subst hsz
  have hD := hD0.self (sz := s.heap.size)
  generalize hAe : va_A [(x, .inr (13, [.null, .null, .null, .null, .null, .null]))] s.heap.size = A at hD ⊢
  have hA : ∀ q : Nat, s.heap.size ≤ q → A q := fun q h => by rw [← hAe]; exact Or.inr h
  try rw [hAe] at hZ
  try rw [hAe] at hL
  have hS : va_S A s.heap s.heap [] := va_S.rf
  have hP : va_P (dC, dI) vwCl [(x, .inr (13, [.null, .null, .null, .null, .null, .null]))] s.heap := hP
  have hl := lv_entry ([.ref x]) (n := 1) (Nat.le_of_ble_eq_true rfl)
  rw [lg_entry_eq]
  generalize (lg_sl ([.ref x]) ++ List.replicate (1 - (lg_sl ([.ref x])).length) Slot.unset).toArray = ls at hl ⊢
  have hl : lv_has ls 1 [(0, .ref x)] := hl
  refine lv_aload_n hx hb dX12_init_0 rfl (lv_at hl 0 rfl) ?_
  refine W.objInit hx hb hown (hts (.methodLink RX12 1 objectInit) (List.mem_of_getElem? (i := 3) rfl)) (hts (.instanceMethod objectInit) (List.mem_of_getElem? (i := 1) rfl)) (hts (.code objectInit ⟨#[0xb1]⟩ 1 none) (List.mem_of_getElem? (i := 2) rfl)) rfl (by rw [hml]; exact hl.1) rfl dX12_init_1 (Nat.le_of_ble_eq_true rfl) (Nat.le_of_ble_eq_true rfl) ?_
  refine W.eq (g2 := F0 m 4 ls []) rfl ?_
  refine lv_aload_n hx hb dX12_init_4 rfl (lv_at hl 0 rfl) ?_
  refine va_new (ci := 1) (fs := [.int 0, .int 0, .int 0, .null, .null, .null, .null, .null, .null, .null, .null]) (C := RX0) (T := TX0) (N := 11) hx hb hts iw_c_UB_X0 tyX0 tyX0_ok hown (hts (.classLink RX12 7 RX0) (List.mem_of_getElem? (i := 4) rfl)) (hts (.instantiable RX0 11) (List.mem_of_getElem? (i := 5) rfl)) (hts (.initialized RX0) (List.mem_of_getElem? (i := 6) rfl)) hK hP hD hS hA rfl (fun j hj => by rcases (show j = 0 ∨ j = 1 ∨ j = 2 ∨ j = 3 ∨ j = 4 ∨ j = 5 ∨ j = 6 ∨ j = 7 ∨ j = 8 ∨ j = 9 ∨ j = 10 by omega) with rfl | rfl | rfl | rfl | rfl | rfl | rfl | rfl | rfl | rfl | rfl <;> rfl) (Nat.le_of_ble_eq_true rfl) (Nat.le_of_ble_eq_true rfl) dX12_init_5 (fun q1 H hP hD hS => ?_)
  have hP : va_P (dC, dI) vwCl [(x, .inr (13, [.null, .null, .null, .null, .null, .null])), (q1, .inr (1, [.int 0, .int 0, .int 0, .null, .null, .null, .null, .null, .null, .null, .null]))] H := hP
  have hD : va_D A [(x, .inr (13, [.null, .null, .null, .null, .null, .null])), (q1, .inr (1, [.int 0, .int 0, .int 0, .null, .null, .null, .null, .null, .null, .null, .null]))] := hD
  refine W.widen (k := 1) (n := 11) (by omega) (by omega) ?_
  refine lv_dup hx hb dX12_init_8 rfl ?_
  have hPc := hP.sub (ws' := [(q1, .inr (1, [.int 0, .int 0, .int 0, .null, .null, .null, .null, .null, .null, .null, .null]))]) [1] rfl
  have hKc := hK.sub (tys' := []) [] rfl
  have hDc := hD.sub (ws' := [(q1, .inr (1, [.int 0, .int 0, .int 0, .null, .null, .null, .null, .null, .null, .null, .null]))]) [1] (by decide) rfl
  have hFc := va_free (wc := [(q1, .inr (1, [.int 0, .int 0, .int 0, .null, .null, .null, .null, .null, .null, .null, .null]))]) hD hS hA [1] rfl
  refine va_callv (va_runIN (As := []) (rest := [.ref q1, .ref x]) ⟨hx, hb, hml, hown, hts⟩ (c_BookI l dC dI q1 ed H.size) ⟨va_cnB 0 hts g_c_UB_c_BookI rfl rfl rfl (ub_nx1 hN) (hts (.initialized RX0) (List.mem_of_getElem? (i := 6) rfl)) (by decide +kernel) ⟨Nat.le_of_ble_eq_true rfl, Nat.le_of_ble_eq_true rfl⟩, rfl, (hts (.instanceMethod yX0_init) (List.mem_of_getElem? (i := 7) rfl))⟩ ⟨fun a U g mk q => by obtain ⟨e0, e1, qP, qK, qD, qZ, qL⟩ := q; exact ⟨e0, e1, qP, va_K.moved (u := U) (U := U.calling g mk a) (Vm.Alike.refl U.vm) qK, qD, ub_Z_c qZ, ub_L_c qL⟩, fun U hU hW => ⟨rfl, by rw [hU], by rw [hU]; exact hPc, va_K.moved hW.alike hKc, hDc.weaken (fun _ _ _ _ => trivial), ub_Z_w hU hW hS hFc hZ, ub_L_w hU hW hS hFc hL⟩⟩ rfl rfl hl.1 rfl (lv_room (Nat.le_of_ble_eq_true rfl)) dX12_init_9 ⟨Nat.le_of_ble_eq_true rfl, Nat.le_of_ble_eq_true rfl⟩) hS (fun q _ h => hFc q h) hFc (fun u3 t H1 locs ht hvm hw hB hz1 hk1 hS => ?_)
  obtain ⟨lc4, lr5, la6, le7, lw8, lp9, ltr10, stk11, cI12⟩ := u3
  obtain ⟨hP1, hK1, hD1⟩ := hB
  rw [ht] at hP1
  obtain ⟨hP, hD⟩ := va_join (wr := [(x, .inr (13, [.null, .null, .null, .null, .null, .null]))]) (w1 := [(q1, .inr (1, [.int 0, .int 0, .int 0, .ref lc4, .ref lr5, .ref la6, .ref le7, .ref lw8, .ref lp9, .ref ltr10, .ref stk11])), (lc4, .inr (0, [.int 0, .ref ed, .int 0])), (lr5, .inr (0, [.int 0, .ref ed, .int 0])), (la6, .inr (0, [.int 0, .ref ed, .int 0])), (le7, .inr (0, [.int 0, .ref ed, .int 0])), (lw8, .inr (0, [.int 0, .ref ed, .int 0])), (lp9, .inr (0, [.int 0, .ref ed, .int 0])), (ltr10, .inl (cI12, 14, .inl (fun _ => (0 : Int32))))]) hP hD [1] [0] rfl rfl (by decide) (by decide) hk1 hFc hP1 hD1
  have hK1 := va_K.moved hvm.symm hK1
  have hK := hK.app hK1
  have hK : va_K (dC, dI) vwCl [(cI12, .int)] s := hK
  generalize H1 = H at hP hS ⊢
  have hP : va_P (dC, dI) vwCl [(x, .inr (13, [.null, .null, .null, .null, .null, .null])), (q1, .inr (1, [.int 0, .int 0, .int 0, .ref lc4, .ref lr5, .ref la6, .ref le7, .ref lw8, .ref lp9, .ref ltr10, .ref stk11])), (lc4, .inr (0, [.int 0, .ref ed, .int 0])), (lr5, .inr (0, [.int 0, .ref ed, .int 0])), (la6, .inr (0, [.int 0, .ref ed, .int 0])), (le7, .inr (0, [.int 0, .ref ed, .int 0])), (lw8, .inr (0, [.int 0, .ref ed, .int 0])), (lp9, .inr (0, [.int 0, .ref ed, .int 0])), (ltr10, .inl (cI12, 14, .inl (fun _ => (0 : Int32))))] H := hP
  have hD : va_D A [(x, .inr (13, [.null, .null, .null, .null, .null, .null])), (q1, .inr (1, [.int 0, .int 0, .int 0, .ref lc4, .ref lr5, .ref la6, .ref le7, .ref lw8, .ref lp9, .ref ltr10, .ref stk11])), (lc4, .inr (0, [.int 0, .ref ed, .int 0])), (lr5, .inr (0, [.int 0, .ref ed, .int 0])), (la6, .inr (0, [.int 0, .ref ed, .int 0])), (le7, .inr (0, [.int 0, .ref ed, .int 0])), (lw8, .inr (0, [.int 0, .ref ed, .int 0])), (lp9, .inr (0, [.int 0, .ref ed, .int 0])), (ltr10, .inl (cI12, 14, .inl (fun _ => (0 : Int32))))] := hD
  refine W.widen (k := 9) (n := 243) (by omega) (by omega) ?_
  refine va_putF (D := (dC, dI)) (ci := 13) (v := .ref q1) (ty := .object "UnlikeBoats$Book") (C := RX12) (T := TX12) (N := 6) hx hb hts iw_c_UB_X12 tyX12 tyX12_ok nmX12 hown hK hP hD hS 0 rfl rfl 0 (by decide) (hts (.fieldLink RX12 10 "UnlikeBoats" "book" "LUnlikeBoats$Book;") (List.mem_of_getElem? (i := 8) rfl)) (fun _ h9 => h9) rfl hin rfl (by decide +kernel) rfl rfl (Nat.le_of_ble_eq_true rfl) dX12_init_12 (fun H locs hP hD hS => ?_)
  have hP : va_P (dC, dI) vwCl [(x, .inr (13, [.ref q1, .null, .null, .null, .null, .null])), (q1, .inr (1, [.int 0, .int 0, .int 0, .ref lc4, .ref lr5, .ref la6, .ref le7, .ref lw8, .ref lp9, .ref ltr10, .ref stk11])), (lc4, .inr (0, [.int 0, .ref ed, .int 0])), (lr5, .inr (0, [.int 0, .ref ed, .int 0])), (la6, .inr (0, [.int 0, .ref ed, .int 0])), (le7, .inr (0, [.int 0, .ref ed, .int 0])), (lw8, .inr (0, [.int 0, .ref ed, .int 0])), (lp9, .inr (0, [.int 0, .ref ed, .int 0])), (ltr10, .inl (cI12, 14, .inl (fun _ => (0 : Int32))))] H := hP
  have hD : va_D A [(x, .inr (13, [.ref q1, .null, .null, .null, .null, .null])), (q1, .inr (1, [.int 0, .int 0, .int 0, .ref lc4, .ref lr5, .ref la6, .ref le7, .ref lw8, .ref lp9, .ref ltr10, .ref stk11])), (lc4, .inr (0, [.int 0, .ref ed, .int 0])), (lr5, .inr (0, [.int 0, .ref ed, .int 0])), (la6, .inr (0, [.int 0, .ref ed, .int 0])), (le7, .inr (0, [.int 0, .ref ed, .int 0])), (lw8, .inr (0, [.int 0, .ref ed, .int 0])), (lp9, .inr (0, [.int 0, .ref ed, .int 0])), (ltr10, .inl (cI12, 14, .inl (fun _ => (0 : Int32))))] := hD
  refine lv_aload_n hx hb dX12_init_15 rfl (lv_at hl 0 rfl) ?_
  refine va_new (ci := 11) (fs := [.null, .int 0, .int 0, .int 0, .null, .int 0, .null, .null, .null, .int 0]) (C := RX10) (T := TX10) (N := 10) hx hb hts iw_c_UB_X10 tyX10 tyX10_ok hown (hts (.classLink RX12 16 RX10) (List.mem_of_getElem? (i := 9) rfl)) (hts (.instantiable RX10 10) (List.mem_of_getElem? (i := 10) rfl)) (hts (.initialized RX10) (List.mem_of_getElem? (i := 11) rfl)) hK hP hD hS hA rfl (fun j hj => by rcases (show j = 0 ∨ j = 1 ∨ j = 2 ∨ j = 3 ∨ j = 4 ∨ j = 5 ∨ j = 6 ∨ j = 7 ∨ j = 8 ∨ j = 9 by omega) with rfl | rfl | rfl | rfl | rfl | rfl | rfl | rfl | rfl | rfl <;> rfl) (Nat.le_of_ble_eq_true rfl) (Nat.le_of_ble_eq_true rfl) dX12_init_16 (fun q13 H hP hD hS => ?_)
  have hP : va_P (dC, dI) vwCl [(x, .inr (13, [.ref q1, .null, .null, .null, .null, .null])), (q1, .inr (1, [.int 0, .int 0, .int 0, .ref lc4, .ref lr5, .ref la6, .ref le7, .ref lw8, .ref lp9, .ref ltr10, .ref stk11])), (lc4, .inr (0, [.int 0, .ref ed, .int 0])), (lr5, .inr (0, [.int 0, .ref ed, .int 0])), (la6, .inr (0, [.int 0, .ref ed, .int 0])), (le7, .inr (0, [.int 0, .ref ed, .int 0])), (lw8, .inr (0, [.int 0, .ref ed, .int 0])), (lp9, .inr (0, [.int 0, .ref ed, .int 0])), (ltr10, .inl (cI12, 14, .inl (fun _ => (0 : Int32)))), (q13, .inr (11, [.null, .int 0, .int 0, .int 0, .null, .int 0, .null, .null, .null, .int 0]))] H := hP
  have hD : va_D A [(x, .inr (13, [.ref q1, .null, .null, .null, .null, .null])), (q1, .inr (1, [.int 0, .int 0, .int 0, .ref lc4, .ref lr5, .ref la6, .ref le7, .ref lw8, .ref lp9, .ref ltr10, .ref stk11])), (lc4, .inr (0, [.int 0, .ref ed, .int 0])), (lr5, .inr (0, [.int 0, .ref ed, .int 0])), (la6, .inr (0, [.int 0, .ref ed, .int 0])), (le7, .inr (0, [.int 0, .ref ed, .int 0])), (lw8, .inr (0, [.int 0, .ref ed, .int 0])), (lp9, .inr (0, [.int 0, .ref ed, .int 0])), (ltr10, .inl (cI12, 14, .inl (fun _ => (0 : Int32)))), (q13, .inr (11, [.null, .int 0, .int 0, .int 0, .null, .int 0, .null, .null, .null, .int 0]))] := hD
  refine W.widen (k := 10) (n := 253) (by omega) (by omega) ?_
  refine lv_dup hx hb dX12_init_19 rfl ?_
  have hPc := hP.sub (ws' := [(q13, .inr (11, [.null, .int 0, .int 0, .int 0, .null, .int 0, .null, .null, .null, .int 0]))]) [9] rfl
  have hKc := hK.sub (tys' := []) [] rfl
  have hDc := hD.sub (ws' := [(q13, .inr (11, [.null, .int 0, .int 0, .int 0, .null, .int 0, .null, .null, .null, .int 0]))]) [9] (by decide) rfl
  have hFc := va_free (wc := [(q13, .inr (11, [.null, .int 0, .int 0, .int 0, .null, .int 0, .null, .null, .null, .int 0]))]) hD hS hA [9] rfl
  refine va_callv (va_runIN (As := []) (rest := [.ref q13, .ref x]) ⟨hx, hb, hml, hown, hts⟩ (c_TapeI l dC dI q13 H.size) ⟨va_cnB 0 hts g_c_UB_c_TapeI rfl rfl rfl (ub_nx0 hN) (hts (.initialized RX10) (List.mem_of_getElem? (i := 11) rfl)) (by decide +kernel) ⟨Nat.le_of_ble_eq_true rfl, Nat.le_of_ble_eq_true rfl⟩, rfl, (hts (.instanceMethod yX10_init) (List.mem_of_getElem? (i := 12) rfl))⟩ ⟨fun a U g mk q => by obtain ⟨e0, e1, qP, qK, qD⟩ := q; exact ⟨e0, e1, qP, va_K.moved (u := U) (U := U.calling g mk a) (Vm.Alike.refl U.vm) qK, qD⟩, fun U hU hW => ⟨rfl, by rw [hU], by rw [hU]; exact hPc, va_K.moved hW.alike hKc, hDc.weaken (fun _ _ _ _ => trivial)⟩⟩ rfl rfl hl.1 rfl (lv_room (Nat.le_of_ble_eq_true rfl)) dX12_init_20 ⟨Nat.le_of_ble_eq_true rfl, Nat.le_of_ble_eq_true rfl⟩) hS (fun q _ h => hFc q h) hFc (fun u15 t H1 locs ht hvm hw hB hz1 hk1 hS => ?_)
  obtain ⟨tby16, tst17, tla18, tbe19, tsu20, cI21⟩ := u15
  obtain ⟨hP1, hK1, hD1⟩ := hB
  rw [ht] at hP1
  obtain ⟨hP, hD⟩ := va_join (wr := [(x, .inr (13, [.ref q1, .null, .null, .null, .null, .null])), (q1, .inr (1, [.int 0, .int 0, .int 0, .ref lc4, .ref lr5, .ref la6, .ref le7, .ref lw8, .ref lp9, .ref ltr10, .ref stk11])), (lc4, .inr (0, [.int 0, .ref ed, .int 0])), (lr5, .inr (0, [.int 0, .ref ed, .int 0])), (la6, .inr (0, [.int 0, .ref ed, .int 0])), (le7, .inr (0, [.int 0, .ref ed, .int 0])), (lw8, .inr (0, [.int 0, .ref ed, .int 0])), (lp9, .inr (0, [.int 0, .ref ed, .int 0])), (ltr10, .inl (cI12, 14, .inl (fun _ => (0 : Int32))))]) (w1 := [(q13, .inr (11, [.ref tby16, .int 0, .int 0, .int 0, .ref tst17, .int 0, .ref tla18, .ref tbe19, .ref tsu20, .int 0])), (tby16, .inl (cI21, 200, .inl (fun _ => (0 : Int32)))), (tbe19, .inl (cI21, 52, .inl (fun _ => (0 : Int32))))]) hP hD [9] [0, 1, 2, 3, 4, 5, 6, 7, 8] rfl rfl (by decide) (by decide) hk1 hFc hP1 hD1
  have hK1 := va_K.moved hvm.symm hK1
  have hK := hK.app hK1
  have hK : va_K (dC, dI) vwCl [(cI12, .int), (cI21, .int)] s := hK
  generalize H1 = H at hP hS ⊢
  have hP : va_P (dC, dI) vwCl [(x, .inr (13, [.ref q1, .null, .null, .null, .null, .null])), (q1, .inr (1, [.int 0, .int 0, .int 0, .ref lc4, .ref lr5, .ref la6, .ref le7, .ref lw8, .ref lp9, .ref ltr10, .ref stk11])), (lc4, .inr (0, [.int 0, .ref ed, .int 0])), (lr5, .inr (0, [.int 0, .ref ed, .int 0])), (la6, .inr (0, [.int 0, .ref ed, .int 0])), (le7, .inr (0, [.int 0, .ref ed, .int 0])), (lw8, .inr (0, [.int 0, .ref ed, .int 0])), (lp9, .inr (0, [.int 0, .ref ed, .int 0])), (ltr10, .inl (cI12, 14, .inl (fun _ => (0 : Int32)))), (q13, .inr (11, [.ref tby16, .int 0, .int 0, .int 0, .ref tst17, .int 0, .ref tla18, .ref tbe19, .ref tsu20, .int 0])), (tby16, .inl (cI21, 200, .inl (fun _ => (0 : Int32)))), (tbe19, .inl (cI21, 52, .inl (fun _ => (0 : Int32))))] H := hP
  have hD : va_D A [(x, .inr (13, [.ref q1, .null, .null, .null, .null, .null])), (q1, .inr (1, [.int 0, .int 0, .int 0, .ref lc4, .ref lr5, .ref la6, .ref le7, .ref lw8, .ref lp9, .ref ltr10, .ref stk11])), (lc4, .inr (0, [.int 0, .ref ed, .int 0])), (lr5, .inr (0, [.int 0, .ref ed, .int 0])), (la6, .inr (0, [.int 0, .ref ed, .int 0])), (le7, .inr (0, [.int 0, .ref ed, .int 0])), (lw8, .inr (0, [.int 0, .ref ed, .int 0])), (lp9, .inr (0, [.int 0, .ref ed, .int 0])), (ltr10, .inl (cI12, 14, .inl (fun _ => (0 : Int32)))), (q13, .inr (11, [.ref tby16, .int 0, .int 0, .int 0, .ref tst17, .int 0, .ref tla18, .ref tbe19, .ref tsu20, .int 0])), (tby16, .inl (cI21, 200, .inl (fun _ => (0 : Int32)))), (tbe19, .inl (cI21, 52, .inl (fun _ => (0 : Int32))))] := hD
  obtain rfl : cI12 = cI21 := ub_sa_int hK 0 1 rfl rfl
  have hK := hK.sub (tys' := [(cI12, .int)]) [0] rfl
  refine W.widen (k := 15) (n := 807) (by omega) (by omega) ?_
  refine va_putF (D := (dC, dI)) (ci := 13) (v := .ref q13) (ty := .object "UnlikeBoats$Tape") (C := RX12) (T := TX12) (N := 6) hx hb hts iw_c_UB_X12 tyX12 tyX12_ok nmX12 hown hK hP hD hS 0 rfl rfl 1 (by decide) (hts (.fieldLink RX12 19 "UnlikeBoats" "tape" "LUnlikeBoats$Tape;") (List.mem_of_getElem? (i := 13) rfl)) (fun _ h9 => h9) rfl hin rfl (by decide +kernel) rfl rfl (Nat.le_of_ble_eq_true rfl) dX12_init_23 (fun H locs hP hD hS => ?_)
  have hP : va_P (dC, dI) vwCl [(x, .inr (13, [.ref q1, .ref q13, .null, .null, .null, .null])), (q1, .inr (1, [.int 0, .int 0, .int 0, .ref lc4, .ref lr5, .ref la6, .ref le7, .ref lw8, .ref lp9, .ref ltr10, .ref stk11])), (lc4, .inr (0, [.int 0, .ref ed, .int 0])), (lr5, .inr (0, [.int 0, .ref ed, .int 0])), (la6, .inr (0, [.int 0, .ref ed, .int 0])), (le7, .inr (0, [.int 0, .ref ed, .int 0])), (lw8, .inr (0, [.int 0, .ref ed, .int 0])), (lp9, .inr (0, [.int 0, .ref ed, .int 0])), (ltr10, .inl (cI12, 14, .inl (fun _ => (0 : Int32)))), (q13, .inr (11, [.ref tby16, .int 0, .int 0, .int 0, .ref tst17, .int 0, .ref tla18, .ref tbe19, .ref tsu20, .int 0])), (tby16, .inl (cI12, 200, .inl (fun _ => (0 : Int32)))), (tbe19, .inl (cI12, 52, .inl (fun _ => (0 : Int32))))] H := hP
  have hD : va_D A [(x, .inr (13, [.ref q1, .ref q13, .null, .null, .null, .null])), (q1, .inr (1, [.int 0, .int 0, .int 0, .ref lc4, .ref lr5, .ref la6, .ref le7, .ref lw8, .ref lp9, .ref ltr10, .ref stk11])), (lc4, .inr (0, [.int 0, .ref ed, .int 0])), (lr5, .inr (0, [.int 0, .ref ed, .int 0])), (la6, .inr (0, [.int 0, .ref ed, .int 0])), (le7, .inr (0, [.int 0, .ref ed, .int 0])), (lw8, .inr (0, [.int 0, .ref ed, .int 0])), (lp9, .inr (0, [.int 0, .ref ed, .int 0])), (ltr10, .inl (cI12, 14, .inl (fun _ => (0 : Int32)))), (q13, .inr (11, [.ref tby16, .int 0, .int 0, .int 0, .ref tst17, .int 0, .ref tla18, .ref tbe19, .ref tsu20, .int 0])), (tby16, .inl (cI12, 200, .inl (fun _ => (0 : Int32)))), (tbe19, .inl (cI12, 52, .inl (fun _ => (0 : Int32))))] := hD
  refine lv_aload_n hx hb dX12_init_26 rfl (lv_at hl 0 rfl) ?_
  refine va_new (ci := 10) (fs := [.null, .null, .null, .null, .null, .null, .int 0, .int 0, .int 0]) (C := RX9) (T := TX9) (N := 9) hx hb hts iw_c_UB_X9 tyX9 tyX9_ok hown (hts (.classLink RX12 23 RX9) (List.mem_of_getElem? (i := 14) rfl)) (hts (.instantiable RX9 9) (List.mem_of_getElem? (i := 15) rfl)) (hts (.initialized RX9) (List.mem_of_getElem? (i := 16) rfl)) hK hP hD hS hA rfl (fun j hj => by rcases (show j = 0 ∨ j = 1 ∨ j = 2 ∨ j = 3 ∨ j = 4 ∨ j = 5 ∨ j = 6 ∨ j = 7 ∨ j = 8 by omega) with rfl | rfl | rfl | rfl | rfl | rfl | rfl | rfl | rfl <;> rfl) (Nat.le_of_ble_eq_true rfl) (Nat.le_of_ble_eq_true rfl) dX12_init_27 (fun q22 H hP hD hS => ?_)
  have hP : va_P (dC, dI) vwCl [(x, .inr (13, [.ref q1, .ref q13, .null, .null, .null, .null])), (q1, .inr (1, [.int 0, .int 0, .int 0, .ref lc4, .ref lr5, .ref la6, .ref le7, .ref lw8, .ref lp9, .ref ltr10, .ref stk11])), (lc4, .inr (0, [.int 0, .ref ed, .int 0])), (lr5, .inr (0, [.int 0, .ref ed, .int 0])), (la6, .inr (0, [.int 0, .ref ed, .int 0])), (le7, .inr (0, [.int 0, .ref ed, .int 0])), (lw8, .inr (0, [.int 0, .ref ed, .int 0])), (lp9, .inr (0, [.int 0, .ref ed, .int 0])), (ltr10, .inl (cI12, 14, .inl (fun _ => (0 : Int32)))), (q13, .inr (11, [.ref tby16, .int 0, .int 0, .int 0, .ref tst17, .int 0, .ref tla18, .ref tbe19, .ref tsu20, .int 0])), (tby16, .inl (cI12, 200, .inl (fun _ => (0 : Int32)))), (tbe19, .inl (cI12, 52, .inl (fun _ => (0 : Int32)))), (q22, .inr (10, [.null, .null, .null, .null, .null, .null, .int 0, .int 0, .int 0]))] H := hP
  have hD : va_D A [(x, .inr (13, [.ref q1, .ref q13, .null, .null, .null, .null])), (q1, .inr (1, [.int 0, .int 0, .int 0, .ref lc4, .ref lr5, .ref la6, .ref le7, .ref lw8, .ref lp9, .ref ltr10, .ref stk11])), (lc4, .inr (0, [.int 0, .ref ed, .int 0])), (lr5, .inr (0, [.int 0, .ref ed, .int 0])), (la6, .inr (0, [.int 0, .ref ed, .int 0])), (le7, .inr (0, [.int 0, .ref ed, .int 0])), (lw8, .inr (0, [.int 0, .ref ed, .int 0])), (lp9, .inr (0, [.int 0, .ref ed, .int 0])), (ltr10, .inl (cI12, 14, .inl (fun _ => (0 : Int32)))), (q13, .inr (11, [.ref tby16, .int 0, .int 0, .int 0, .ref tst17, .int 0, .ref tla18, .ref tbe19, .ref tsu20, .int 0])), (tby16, .inl (cI12, 200, .inl (fun _ => (0 : Int32)))), (tbe19, .inl (cI12, 52, .inl (fun _ => (0 : Int32)))), (q22, .inr (10, [.null, .null, .null, .null, .null, .null, .int 0, .int 0, .int 0]))] := hD
  refine W.widen (k := 16) (n := 816) (by omega) (by omega) ?_
  refine lv_dup hx hb dX12_init_30 rfl ?_
  refine lv_aload_n hx hb dX12_init_31 rfl (lv_at hl 0 rfl) ?_
  refine va_get (D := (dC, dI)) (ci := 13) (v := .ref q1) (C := RX12) (T := TX12) (N := 6) hx hb hts iw_c_UB_X12 hown hK hP 0 rfl rfl 0 (by decide) (hts (.fieldLink RX12 10 "UnlikeBoats" "book" "LUnlikeBoats$Book;") (List.mem_of_getElem? (i := 8) rfl)) (fun _ h9 => h9) rfl dX12_init_32 ?_
  have hPc := hP.sub (ws' := [(q22, .inr (10, [.null, .null, .null, .null, .null, .null, .int 0, .int 0, .int 0]))]) [12] rfl
  have hKc := hK.sub (tys' := []) [] rfl
  have hDc := hD.sub (ws' := [(q22, .inr (10, [.null, .null, .null, .null, .null, .null, .int 0, .int 0, .int 0]))]) [12] (by decide) rfl
  have hFc := va_free (wc := [(q22, .inr (10, [.null, .null, .null, .null, .null, .null, .int 0, .int 0, .int 0]))]) hD hS hA [12] rfl
  refine va_callv (va_runI (As := [.ref q1]) (rest := [.ref q22, .ref x]) ⟨hx, hb, hml, hown, hts⟩ (c_SheetI l dC dI q22 q1 H.size) (cwI 1 hts g_c_UB_c_SheetI rfl rfl rfl (hts (.initialized RX9) (List.mem_of_getElem? (i := 16) rfl)) (hts (.methodLink RX12 25 yX9_init) (List.mem_of_getElem? (i := 17) rfl)) (hts (.instanceMethod yX9_init) (List.mem_of_getElem? (i := 18) rfl)) rfl (by decide +kernel) ⟨Nat.le_of_ble_eq_true rfl, Nat.le_of_ble_eq_true rfl⟩) ⟨fun a U g mk q => by obtain ⟨e0, e1, qP, qK, qD⟩ := q; exact ⟨e0, e1, qP, va_K.moved (u := U) (U := U.calling g mk a) (Vm.Alike.refl U.vm) qK, qD⟩, fun U hU hW => ⟨rfl, by rw [hU], by rw [hU]; exact hPc, va_K.moved hW.alike hKc, hDc.weaken (fun _ _ _ _ => trivial)⟩⟩ rfl rfl hl.1 rfl (lv_room (Nat.le_of_ble_eq_true rfl)) dX12_init_35 ⟨Nat.le_of_ble_eq_true rfl, Nat.le_of_ble_eq_true rfl⟩) hS (fun q _ h => hFc q h) hFc (fun u24 t H1 locs ht hvm hw hB hz1 hk1 hS => ?_)
  have hP1 : va_P (dC, dI) vwCl [] H1 := ub_P0
  have hD1 : va_D (va_A [(q22, .inr (10, [.null, .null, .null, .null, .null, .null, .int 0, .int 0, .int 0]))] H.size) [] := ub_D0
  obtain ⟨hP, hD⟩ := va_join (wr := [(x, .inr (13, [.ref q1, .ref q13, .null, .null, .null, .null])), (q1, .inr (1, [.int 0, .int 0, .int 0, .ref lc4, .ref lr5, .ref la6, .ref le7, .ref lw8, .ref lp9, .ref ltr10, .ref stk11])), (lc4, .inr (0, [.int 0, .ref ed, .int 0])), (lr5, .inr (0, [.int 0, .ref ed, .int 0])), (la6, .inr (0, [.int 0, .ref ed, .int 0])), (le7, .inr (0, [.int 0, .ref ed, .int 0])), (lw8, .inr (0, [.int 0, .ref ed, .int 0])), (lp9, .inr (0, [.int 0, .ref ed, .int 0])), (ltr10, .inl (cI12, 14, .inl (fun _ => (0 : Int32)))), (q13, .inr (11, [.ref tby16, .int 0, .int 0, .int 0, .ref tst17, .int 0, .ref tla18, .ref tbe19, .ref tsu20, .int 0])), (tby16, .inl (cI12, 200, .inl (fun _ => (0 : Int32)))), (tbe19, .inl (cI12, 52, .inl (fun _ => (0 : Int32))))]) (w1 := []) hP hD [12] [0, 1, 2, 3, 4, 5, 6, 7, 8, 9, 10, 11] rfl rfl (by decide) (by decide) hk1 hFc hP1 hD1
  generalize H1 = H at hP hS ⊢
  have hP : va_P (dC, dI) vwCl [(x, .inr (13, [.ref q1, .ref q13, .null, .null, .null, .null])), (q1, .inr (1, [.int 0, .int 0, .int 0, .ref lc4, .ref lr5, .ref la6, .ref le7, .ref lw8, .ref lp9, .ref ltr10, .ref stk11])), (lc4, .inr (0, [.int 0, .ref ed, .int 0])), (lr5, .inr (0, [.int 0, .ref ed, .int 0])), (la6, .inr (0, [.int 0, .ref ed, .int 0])), (le7, .inr (0, [.int 0, .ref ed, .int 0])), (lw8, .inr (0, [.int 0, .ref ed, .int 0])), (lp9, .inr (0, [.int 0, .ref ed, .int 0])), (ltr10, .inl (cI12, 14, .inl (fun _ => (0 : Int32)))), (q13, .inr (11, [.ref tby16, .int 0, .int 0, .int 0, .ref tst17, .int 0, .ref tla18, .ref tbe19, .ref tsu20, .int 0])), (tby16, .inl (cI12, 200, .inl (fun _ => (0 : Int32)))), (tbe19, .inl (cI12, 52, .inl (fun _ => (0 : Int32))))] H := hP
  have hD : va_D A [(x, .inr (13, [.ref q1, .ref q13, .null, .null, .null, .null])), (q1, .inr (1, [.int 0, .int 0, .int 0, .ref lc4, .ref lr5, .ref la6, .ref le7, .ref lw8, .ref lp9, .ref ltr10, .ref stk11])), (lc4, .inr (0, [.int 0, .ref ed, .int 0])), (lr5, .inr (0, [.int 0, .ref ed, .int 0])), (la6, .inr (0, [.int 0, .ref ed, .int 0])), (le7, .inr (0, [.int 0, .ref ed, .int 0])), (lw8, .inr (0, [.int 0, .ref ed, .int 0])), (lp9, .inr (0, [.int 0, .ref ed, .int 0])), (ltr10, .inl (cI12, 14, .inl (fun _ => (0 : Int32)))), (q13, .inr (11, [.ref tby16, .int 0, .int 0, .int 0, .ref tst17, .int 0, .ref tla18, .ref tbe19, .ref tsu20, .int 0])), (tby16, .inl (cI12, 200, .inl (fun _ => (0 : Int32)))), (tbe19, .inl (cI12, 52, .inl (fun _ => (0 : Int32))))] := hD
  refine W.widen (k := 21) (n := 896) (by omega) (by omega) ?_
  refine va_putF (D := (dC, dI)) (ci := 13) (v := .ref q22) (ty := .object "UnlikeBoats$Sheet") (C := RX12) (T := TX12) (N := 6) hx hb hts iw_c_UB_X12 tyX12 tyX12_ok nmX12 hown hK hP hD hS 0 rfl rfl 2 (by decide) (hts (.fieldLink RX12 28 "UnlikeBoats" "sheet" "LUnlikeBoats$Sheet;") (List.mem_of_getElem? (i := 19) rfl)) (fun _ h9 => h9) rfl hin rfl (by decide +kernel) rfl rfl (Nat.le_of_ble_eq_true rfl) dX12_init_38 (fun H locs hP hD hS => ?_)
  have hP : va_P (dC, dI) vwCl [(x, .inr (13, [.ref q1, .ref q13, .ref q22, .null, .null, .null])), (q1, .inr (1, [.int 0, .int 0, .int 0, .ref lc4, .ref lr5, .ref la6, .ref le7, .ref lw8, .ref lp9, .ref ltr10, .ref stk11])), (lc4, .inr (0, [.int 0, .ref ed, .int 0])), (lr5, .inr (0, [.int 0, .ref ed, .int 0])), (la6, .inr (0, [.int 0, .ref ed, .int 0])), (le7, .inr (0, [.int 0, .ref ed, .int 0])), (lw8, .inr (0, [.int 0, .ref ed, .int 0])), (lp9, .inr (0, [.int 0, .ref ed, .int 0])), (ltr10, .inl (cI12, 14, .inl (fun _ => (0 : Int32)))), (q13, .inr (11, [.ref tby16, .int 0, .int 0, .int 0, .ref tst17, .int 0, .ref tla18, .ref tbe19, .ref tsu20, .int 0])), (tby16, .inl (cI12, 200, .inl (fun _ => (0 : Int32)))), (tbe19, .inl (cI12, 52, .inl (fun _ => (0 : Int32))))] H := hP
  have hD : va_D A [(x, .inr (13, [.ref q1, .ref q13, .ref q22, .null, .null, .null])), (q1, .inr (1, [.int 0, .int 0, .int 0, .ref lc4, .ref lr5, .ref la6, .ref le7, .ref lw8, .ref lp9, .ref ltr10, .ref stk11])), (lc4, .inr (0, [.int 0, .ref ed, .int 0])), (lr5, .inr (0, [.int 0, .ref ed, .int 0])), (la6, .inr (0, [.int 0, .ref ed, .int 0])), (le7, .inr (0, [.int 0, .ref ed, .int 0])), (lw8, .inr (0, [.int 0, .ref ed, .int 0])), (lp9, .inr (0, [.int 0, .ref ed, .int 0])), (ltr10, .inl (cI12, 14, .inl (fun _ => (0 : Int32)))), (q13, .inr (11, [.ref tby16, .int 0, .int 0, .int 0, .ref tst17, .int 0, .ref tla18, .ref tbe19, .ref tsu20, .int 0])), (tby16, .inl (cI12, 200, .inl (fun _ => (0 : Int32)))), (tbe19, .inl (cI12, 52, .inl (fun _ => (0 : Int32))))] := hD
  refine lv_aload_n hx hb dX12_init_41 rfl (lv_at hl 0 rfl) ?_
  refine va_new (ci := 9) (fs := [.null, .null, .int 0, .null, .null, .null, .null, .null, .null, .null]) (C := RX8) (T := TX8) (N := 10) hx hb hts iw_c_UB_X8 tyX8 tyX8_ok hown (hts (.classLink RX12 32 RX8) (List.mem_of_getElem? (i := 20) rfl)) (hts (.instantiable RX8 10) (List.mem_of_getElem? (i := 21) rfl)) (hts (.initialized RX8) (List.mem_of_getElem? (i := 22) rfl)) hK hP hD hS hA rfl (fun j hj => by rcases (show j = 0 ∨ j = 1 ∨ j = 2 ∨ j = 3 ∨ j = 4 ∨ j = 5 ∨ j = 6 ∨ j = 7 ∨ j = 8 ∨ j = 9 by omega) with rfl | rfl | rfl | rfl | rfl | rfl | rfl | rfl | rfl | rfl <;> rfl) (Nat.le_of_ble_eq_true rfl) (Nat.le_of_ble_eq_true rfl) dX12_init_42 (fun q25 H hP hD hS => ?_)
  have hP : va_P (dC, dI) vwCl [(x, .inr (13, [.ref q1, .ref q13, .ref q22, .null, .null, .null])), (q1, .inr (1, [.int 0, .int 0, .int 0, .ref lc4, .ref lr5, .ref la6, .ref le7, .ref lw8, .ref lp9, .ref ltr10, .ref stk11])), (lc4, .inr (0, [.int 0, .ref ed, .int 0])), (lr5, .inr (0, [.int 0, .ref ed, .int 0])), (la6, .inr (0, [.int 0, .ref ed, .int 0])), (le7, .inr (0, [.int 0, .ref ed, .int 0])), (lw8, .inr (0, [.int 0, .ref ed, .int 0])), (lp9, .inr (0, [.int 0, .ref ed, .int 0])), (ltr10, .inl (cI12, 14, .inl (fun _ => (0 : Int32)))), (q13, .inr (11, [.ref tby16, .int 0, .int 0, .int 0, .ref tst17, .int 0, .ref tla18, .ref tbe19, .ref tsu20, .int 0])), (tby16, .inl (cI12, 200, .inl (fun _ => (0 : Int32)))), (tbe19, .inl (cI12, 52, .inl (fun _ => (0 : Int32)))), (q25, .inr (9, [.null, .null, .int 0, .null, .null, .null, .null, .null, .null, .null]))] H := hP
  have hD : va_D A [(x, .inr (13, [.ref q1, .ref q13, .ref q22, .null, .null, .null])), (q1, .inr (1, [.int 0, .int 0, .int 0, .ref lc4, .ref lr5, .ref la6, .ref le7, .ref lw8, .ref lp9, .ref ltr10, .ref stk11])), (lc4, .inr (0, [.int 0, .ref ed, .int 0])), (lr5, .inr (0, [.int 0, .ref ed, .int 0])), (la6, .inr (0, [.int 0, .ref ed, .int 0])), (le7, .inr (0, [.int 0, .ref ed, .int 0])), (lw8, .inr (0, [.int 0, .ref ed, .int 0])), (lp9, .inr (0, [.int 0, .ref ed, .int 0])), (ltr10, .inl (cI12, 14, .inl (fun _ => (0 : Int32)))), (q13, .inr (11, [.ref tby16, .int 0, .int 0, .int 0, .ref tst17, .int 0, .ref tla18, .ref tbe19, .ref tsu20, .int 0])), (tby16, .inl (cI12, 200, .inl (fun _ => (0 : Int32)))), (tbe19, .inl (cI12, 52, .inl (fun _ => (0 : Int32)))), (q25, .inr (9, [.null, .null, .int 0, .null, .null, .null, .null, .null, .null, .null]))] := hD
  refine W.widen (k := 22) (n := 906) (by omega) (by omega) ?_
  refine lv_dup hx hb dX12_init_45 rfl ?_
  refine lv_aload_n hx hb dX12_init_46 rfl (lv_at hl 0 rfl) ?_
  refine va_get (D := (dC, dI)) (ci := 13) (v := .ref q1) (C := RX12) (T := TX12) (N := 6) hx hb hts iw_c_UB_X12 hown hK hP 0 rfl rfl 0 (by decide) (hts (.fieldLink RX12 10 "UnlikeBoats" "book" "LUnlikeBoats$Book;") (List.mem_of_getElem? (i := 8) rfl)) (fun _ h9 => h9) rfl dX12_init_47 ?_
  refine lv_aload_n hx hb dX12_init_50 rfl (lv_at hl 0 rfl) ?_
  refine va_get (D := (dC, dI)) (ci := 13) (v := .ref q22) (C := RX12) (T := TX12) (N := 6) hx hb hts iw_c_UB_X12 hown hK hP 0 rfl rfl 2 (by decide) (hts (.fieldLink RX12 28 "UnlikeBoats" "sheet" "LUnlikeBoats$Sheet;") (List.mem_of_getElem? (i := 19) rfl)) (fun _ h9 => h9) rfl dX12_init_51 ?_
  have hPc := hP.sub (ws' := [(q25, .inr (9, [.null, .null, .int 0, .null, .null, .null, .null, .null, .null, .null]))]) [12] rfl
  have hKc := hK.sub (tys' := []) [] rfl
  have hDc := hD.sub (ws' := [(q25, .inr (9, [.null, .null, .int 0, .null, .null, .null, .null, .null, .null, .null]))]) [12] (by decide) rfl
  have hFc := va_free (wc := [(q25, .inr (9, [.null, .null, .int 0, .null, .null, .null, .null, .null, .null, .null]))]) hD hS hA [12] rfl
  refine va_callv (va_runI (As := [.ref q1, .ref q22]) (rest := [.ref q25, .ref x]) ⟨hx, hb, hml, hown, hts⟩ (c_ScoresI l dC dI q25 q1 q22 H.size) (cwI 2 hts g_c_UB_c_ScoresI rfl rfl rfl (hts (.initialized RX8) (List.mem_of_getElem? (i := 22) rfl)) (hts (.methodLink RX12 34 yX8_init) (List.mem_of_getElem? (i := 23) rfl)) (hts (.instanceMethod yX8_init) (List.mem_of_getElem? (i := 24) rfl)) rfl (by decide +kernel) ⟨Nat.le_of_ble_eq_true rfl, Nat.le_of_ble_eq_true rfl⟩) ⟨fun a U g mk q => by obtain ⟨e0, e1, qP, qK, qD⟩ := q; exact ⟨e0, e1, qP, va_K.moved (u := U) (U := U.calling g mk a) (Vm.Alike.refl U.vm) qK, qD⟩, fun U hU hW => ⟨rfl, by rw [hU], by rw [hU]; exact hPc, va_K.moved hW.alike hKc, hDc.weaken (fun _ _ _ _ => trivial)⟩⟩ rfl rfl hl.1 rfl (lv_room (Nat.le_of_ble_eq_true rfl)) dX12_init_54 ⟨Nat.le_of_ble_eq_true rfl, Nat.le_of_ble_eq_true rfl⟩) hS (fun q _ h => hFc q h) hFc (fun u27 t H1 locs ht hvm hw hB hz1 hk1 hS => ?_)
  obtain ⟨spl28, spo29, sou30, ssc31, sto32, smi33, sth34, cZ35⟩ := u27
  obtain ⟨hP1, hK1, hD1⟩ := hB
  rw [ht] at hP1
  obtain ⟨hP, hD⟩ := va_join (wr := [(x, .inr (13, [.ref q1, .ref q13, .ref q22, .null, .null, .null])), (q1, .inr (1, [.int 0, .int 0, .int 0, .ref lc4, .ref lr5, .ref la6, .ref le7, .ref lw8, .ref lp9, .ref ltr10, .ref stk11])), (lc4, .inr (0, [.int 0, .ref ed, .int 0])), (lr5, .inr (0, [.int 0, .ref ed, .int 0])), (la6, .inr (0, [.int 0, .ref ed, .int 0])), (le7, .inr (0, [.int 0, .ref ed, .int 0])), (lw8, .inr (0, [.int 0, .ref ed, .int 0])), (lp9, .inr (0, [.int 0, .ref ed, .int 0])), (ltr10, .inl (cI12, 14, .inl (fun _ => (0 : Int32)))), (q13, .inr (11, [.ref tby16, .int 0, .int 0, .int 0, .ref tst17, .int 0, .ref tla18, .ref tbe19, .ref tsu20, .int 0])), (tby16, .inl (cI12, 200, .inl (fun _ => (0 : Int32)))), (tbe19, .inl (cI12, 52, .inl (fun _ => (0 : Int32))))]) (w1 := [(q25, .inr (9, [.ref q1, .ref q22, .int 0, .ref spl28, .ref spo29, .ref sou30, .ref ssc31, .ref sto32, .ref smi33, .ref sth34])), (ssc31, .inl (cZ35, 16, .inl (fun _ => (0 : Int32))))]) hP hD [12] [0, 1, 2, 3, 4, 5, 6, 7, 8, 9, 10, 11] rfl rfl (by decide) (by decide) hk1 hFc hP1 hD1
  have hK1 := va_K.moved hvm.symm hK1
  have hK := hK.app hK1
  have hK : va_K (dC, dI) vwCl [(cI12, .int), (cZ35, .boolean)] s := hK
  generalize H1 = H at hP hS ⊢
  have hP : va_P (dC, dI) vwCl [(x, .inr (13, [.ref q1, .ref q13, .ref q22, .null, .null, .null])), (q1, .inr (1, [.int 0, .int 0, .int 0, .ref lc4, .ref lr5, .ref la6, .ref le7, .ref lw8, .ref lp9, .ref ltr10, .ref stk11])), (lc4, .inr (0, [.int 0, .ref ed, .int 0])), (lr5, .inr (0, [.int 0, .ref ed, .int 0])), (la6, .inr (0, [.int 0, .ref ed, .int 0])), (le7, .inr (0, [.int 0, .ref ed, .int 0])), (lw8, .inr (0, [.int 0, .ref ed, .int 0])), (lp9, .inr (0, [.int 0, .ref ed, .int 0])), (ltr10, .inl (cI12, 14, .inl (fun _ => (0 : Int32)))), (q13, .inr (11, [.ref tby16, .int 0, .int 0, .int 0, .ref tst17, .int 0, .ref tla18, .ref tbe19, .ref tsu20, .int 0])), (tby16, .inl (cI12, 200, .inl (fun _ => (0 : Int32)))), (tbe19, .inl (cI12, 52, .inl (fun _ => (0 : Int32)))), (q25, .inr (9, [.ref q1, .ref q22, .int 0, .ref spl28, .ref spo29, .ref sou30, .ref ssc31, .ref sto32, .ref smi33, .ref sth34])), (ssc31, .inl (cZ35, 16, .inl (fun _ => (0 : Int32))))] H := hP
  have hD : va_D A [(x, .inr (13, [.ref q1, .ref q13, .ref q22, .null, .null, .null])), (q1, .inr (1, [.int 0, .int 0, .int 0, .ref lc4, .ref lr5, .ref la6, .ref le7, .ref lw8, .ref lp9, .ref ltr10, .ref stk11])), (lc4, .inr (0, [.int 0, .ref ed, .int 0])), (lr5, .inr (0, [.int 0, .ref ed, .int 0])), (la6, .inr (0, [.int 0, .ref ed, .int 0])), (le7, .inr (0, [.int 0, .ref ed, .int 0])), (lw8, .inr (0, [.int 0, .ref ed, .int 0])), (lp9, .inr (0, [.int 0, .ref ed, .int 0])), (ltr10, .inl (cI12, 14, .inl (fun _ => (0 : Int32)))), (q13, .inr (11, [.ref tby16, .int 0, .int 0, .int 0, .ref tst17, .int 0, .ref tla18, .ref tbe19, .ref tsu20, .int 0])), (tby16, .inl (cI12, 200, .inl (fun _ => (0 : Int32)))), (tbe19, .inl (cI12, 52, .inl (fun _ => (0 : Int32)))), (q25, .inr (9, [.ref q1, .ref q22, .int 0, .ref spl28, .ref spo29, .ref sou30, .ref ssc31, .ref sto32, .ref smi33, .ref sth34])), (ssc31, .inl (cZ35, 16, .inl (fun _ => (0 : Int32))))] := hD
  refine W.widen (k := 29) (n := 1938) (by omega) (by omega) ?_
  refine va_putF (D := (dC, dI)) (ci := 13) (v := .ref q25) (ty := .object "UnlikeBoats$Scores") (C := RX12) (T := TX12) (N := 6) hx hb hts iw_c_UB_X12 tyX12 tyX12_ok nmX12 hown hK hP hD hS 0 rfl rfl 3 (by decide) (hts (.fieldLink RX12 37 "UnlikeBoats" "scores" "LUnlikeBoats$Scores;") (List.mem_of_getElem? (i := 25) rfl)) (fun _ h9 => h9) rfl hin rfl (by decide +kernel) rfl rfl (Nat.le_of_ble_eq_true rfl) dX12_init_57 (fun H locs hP hD hS => ?_)
  have hP : va_P (dC, dI) vwCl [(x, .inr (13, [.ref q1, .ref q13, .ref q22, .ref q25, .null, .null])), (q1, .inr (1, [.int 0, .int 0, .int 0, .ref lc4, .ref lr5, .ref la6, .ref le7, .ref lw8, .ref lp9, .ref ltr10, .ref stk11])), (lc4, .inr (0, [.int 0, .ref ed, .int 0])), (lr5, .inr (0, [.int 0, .ref ed, .int 0])), (la6, .inr (0, [.int 0, .ref ed, .int 0])), (le7, .inr (0, [.int 0, .ref ed, .int 0])), (lw8, .inr (0, [.int 0, .ref ed, .int 0])), (lp9, .inr (0, [.int 0, .ref ed, .int 0])), (ltr10, .inl (cI12, 14, .inl (fun _ => (0 : Int32)))), (q13, .inr (11, [.ref tby16, .int 0, .int 0, .int 0, .ref tst17, .int 0, .ref tla18, .ref tbe19, .ref tsu20, .int 0])), (tby16, .inl (cI12, 200, .inl (fun _ => (0 : Int32)))), (tbe19, .inl (cI12, 52, .inl (fun _ => (0 : Int32)))), (q25, .inr (9, [.ref q1, .ref q22, .int 0, .ref spl28, .ref spo29, .ref sou30, .ref ssc31, .ref sto32, .ref smi33, .ref sth34])), (ssc31, .inl (cZ35, 16, .inl (fun _ => (0 : Int32))))] H := hP
  have hD : va_D A [(x, .inr (13, [.ref q1, .ref q13, .ref q22, .ref q25, .null, .null])), (q1, .inr (1, [.int 0, .int 0, .int 0, .ref lc4, .ref lr5, .ref la6, .ref le7, .ref lw8, .ref lp9, .ref ltr10, .ref stk11])), (lc4, .inr (0, [.int 0, .ref ed, .int 0])), (lr5, .inr (0, [.int 0, .ref ed, .int 0])), (la6, .inr (0, [.int 0, .ref ed, .int 0])), (le7, .inr (0, [.int 0, .ref ed, .int 0])), (lw8, .inr (0, [.int 0, .ref ed, .int 0])), (lp9, .inr (0, [.int 0, .ref ed, .int 0])), (ltr10, .inl (cI12, 14, .inl (fun _ => (0 : Int32)))), (q13, .inr (11, [.ref tby16, .int 0, .int 0, .int 0, .ref tst17, .int 0, .ref tla18, .ref tbe19, .ref tsu20, .int 0])), (tby16, .inl (cI12, 200, .inl (fun _ => (0 : Int32)))), (tbe19, .inl (cI12, 52, .inl (fun _ => (0 : Int32)))), (q25, .inr (9, [.ref q1, .ref q22, .int 0, .ref spl28, .ref spo29, .ref sou30, .ref ssc31, .ref sto32, .ref smi33, .ref sth34])), (ssc31, .inl (cZ35, 16, .inl (fun _ => (0 : Int32))))] := hD
  refine lv_aload_n hx hb dX12_init_60 rfl (lv_at hl 0 rfl) ?_
  refine va_new (ci := 3) (fs := [.null, .null, .null, .null, .null, .null, .null, .int 0, .int 0, .int 0]) (C := RX2) (T := TX2) (N := 10) hx hb hts iw_c_UB_X2 tyX2 tyX2_ok hown (hts (.classLink RX12 41 RX2) (List.mem_of_getElem? (i := 26) rfl)) (hts (.instantiable RX2 10) (List.mem_of_getElem? (i := 27) rfl)) (hts (.initialized RX2) (List.mem_of_getElem? (i := 28) rfl)) hK hP hD hS hA rfl (fun j hj => by rcases (show j = 0 ∨ j = 1 ∨ j = 2 ∨ j = 3 ∨ j = 4 ∨ j = 5 ∨ j = 6 ∨ j = 7 ∨ j = 8 ∨ j = 9 by omega) with rfl | rfl | rfl | rfl | rfl | rfl | rfl | rfl | rfl | rfl <;> rfl) (Nat.le_of_ble_eq_true rfl) (Nat.le_of_ble_eq_true rfl) dX12_init_61 (fun q36 H hP hD hS => ?_)
  have hP : va_P (dC, dI) vwCl [(x, .inr (13, [.ref q1, .ref q13, .ref q22, .ref q25, .null, .null])), (q1, .inr (1, [.int 0, .int 0, .int 0, .ref lc4, .ref lr5, .ref la6, .ref le7, .ref lw8, .ref lp9, .ref ltr10, .ref stk11])), (lc4, .inr (0, [.int 0, .ref ed, .int 0])), (lr5, .inr (0, [.int 0, .ref ed, .int 0])), (la6, .inr (0, [.int 0, .ref ed, .int 0])), (le7, .inr (0, [.int 0, .ref ed, .int 0])), (lw8, .inr (0, [.int 0, .ref ed, .int 0])), (lp9, .inr (0, [.int 0, .ref ed, .int 0])), (ltr10, .inl (cI12, 14, .inl (fun _ => (0 : Int32)))), (q13, .inr (11, [.ref tby16, .int 0, .int 0, .int 0, .ref tst17, .int 0, .ref tla18, .ref tbe19, .ref tsu20, .int 0])), (tby16, .inl (cI12, 200, .inl (fun _ => (0 : Int32)))), (tbe19, .inl (cI12, 52, .inl (fun _ => (0 : Int32)))), (q25, .inr (9, [.ref q1, .ref q22, .int 0, .ref spl28, .ref spo29, .ref sou30, .ref ssc31, .ref sto32, .ref smi33, .ref sth34])), (ssc31, .inl (cZ35, 16, .inl (fun _ => (0 : Int32)))), (q36, .inr (3, [.null, .null, .null, .null, .null, .null, .null, .int 0, .int 0, .int 0]))] H := hP
  have hD : va_D A [(x, .inr (13, [.ref q1, .ref q13, .ref q22, .ref q25, .null, .null])), (q1, .inr (1, [.int 0, .int 0, .int 0, .ref lc4, .ref lr5, .ref la6, .ref le7, .ref lw8, .ref lp9, .ref ltr10, .ref stk11])), (lc4, .inr (0, [.int 0, .ref ed, .int 0])), (lr5, .inr (0, [.int 0, .ref ed, .int 0])), (la6, .inr (0, [.int 0, .ref ed, .int 0])), (le7, .inr (0, [.int 0, .ref ed, .int 0])), (lw8, .inr (0, [.int 0, .ref ed, .int 0])), (lp9, .inr (0, [.int 0, .ref ed, .int 0])), (ltr10, .inl (cI12, 14, .inl (fun _ => (0 : Int32)))), (q13, .inr (11, [.ref tby16, .int 0, .int 0, .int 0, .ref tst17, .int 0, .ref tla18, .ref tbe19, .ref tsu20, .int 0])), (tby16, .inl (cI12, 200, .inl (fun _ => (0 : Int32)))), (tbe19, .inl (cI12, 52, .inl (fun _ => (0 : Int32)))), (q25, .inr (9, [.ref q1, .ref q22, .int 0, .ref spl28, .ref spo29, .ref sou30, .ref ssc31, .ref sto32, .ref smi33, .ref sth34])), (ssc31, .inl (cZ35, 16, .inl (fun _ => (0 : Int32)))), (q36, .inr (3, [.null, .null, .null, .null, .null, .null, .null, .int 0, .int 0, .int 0]))] := hD
  refine W.widen (k := 30) (n := 1948) (by omega) (by omega) ?_
  refine lv_dup hx hb dX12_init_64 rfl ?_
  refine lv_aload_n hx hb dX12_init_65 rfl (lv_at hl 0 rfl) ?_
  refine va_get (D := (dC, dI)) (ci := 13) (v := .ref q1) (C := RX12) (T := TX12) (N := 6) hx hb hts iw_c_UB_X12 hown hK hP 0 rfl rfl 0 (by decide) (hts (.fieldLink RX12 10 "UnlikeBoats" "book" "LUnlikeBoats$Book;") (List.mem_of_getElem? (i := 8) rfl)) (fun _ h9 => h9) rfl dX12_init_66 ?_
  have hPc := hP.sub (ws' := [(q36, .inr (3, [.null, .null, .null, .null, .null, .null, .null, .int 0, .int 0, .int 0]))]) [14] rfl
  have hKc := hK.sub (tys' := []) [] rfl
  have hDc := hD.sub (ws' := [(q36, .inr (3, [.null, .null, .null, .null, .null, .null, .null, .int 0, .int 0, .int 0]))]) [14] (by decide) rfl
  have hFc := va_free (wc := [(q36, .inr (3, [.null, .null, .null, .null, .null, .null, .null, .int 0, .int 0, .int 0]))]) hD hS hA [14] rfl
  refine va_callv (va_runI (As := [.ref q1]) (rest := [.ref q36, .ref x]) ⟨hx, hb, hml, hown, hts⟩ (c_HearingI l dC dI q36 q1 H.size) (cwI 1 hts g_c_UB_c_HearingI rfl rfl rfl (hts (.initialized RX2) (List.mem_of_getElem? (i := 28) rfl)) (hts (.methodLink RX12 43 yX2_init) (List.mem_of_getElem? (i := 29) rfl)) (hts (.instanceMethod yX2_init) (List.mem_of_getElem? (i := 30) rfl)) rfl (by decide +kernel) ⟨Nat.le_of_ble_eq_true rfl, Nat.le_of_ble_eq_true rfl⟩) ⟨fun a U g mk q => by obtain ⟨e0, e1, qP, qK, qD⟩ := q; exact ⟨e0, e1, qP, va_K.moved (u := U) (U := U.calling g mk a) (Vm.Alike.refl U.vm) qK, qD⟩, fun U hU hW => ⟨rfl, by rw [hU], by rw [hU]; exact hPc, va_K.moved hW.alike hKc, hDc.weaken (fun _ _ _ _ => trivial)⟩⟩ rfl rfl hl.1 rfl (lv_room (Nat.le_of_ble_eq_true rfl)) dX12_init_69 ⟨Nat.le_of_ble_eq_true rfl, Nat.le_of_ble_eq_true rfl⟩) hS (fun q _ h => hFc q h) hFc (fun u38 t H1 locs ht hvm hw hB hz1 hk1 hS => ?_)
  have hP1 : va_P (dC, dI) vwCl [] H1 := ub_P0
  have hD1 : va_D (va_A [(q36, .inr (3, [.null, .null, .null, .null, .null, .null, .null, .int 0, .int 0, .int 0]))] H.size) [] := ub_D0
  obtain ⟨hP, hD⟩ := va_join (wr := [(x, .inr (13, [.ref q1, .ref q13, .ref q22, .ref q25, .null, .null])), (q1, .inr (1, [.int 0, .int 0, .int 0, .ref lc4, .ref lr5, .ref la6, .ref le7, .ref lw8, .ref lp9, .ref ltr10, .ref stk11])), (lc4, .inr (0, [.int 0, .ref ed, .int 0])), (lr5, .inr (0, [.int 0, .ref ed, .int 0])), (la6, .inr (0, [.int 0, .ref ed, .int 0])), (le7, .inr (0, [.int 0, .ref ed, .int 0])), (lw8, .inr (0, [.int 0, .ref ed, .int 0])), (lp9, .inr (0, [.int 0, .ref ed, .int 0])), (ltr10, .inl (cI12, 14, .inl (fun _ => (0 : Int32)))), (q13, .inr (11, [.ref tby16, .int 0, .int 0, .int 0, .ref tst17, .int 0, .ref tla18, .ref tbe19, .ref tsu20, .int 0])), (tby16, .inl (cI12, 200, .inl (fun _ => (0 : Int32)))), (tbe19, .inl (cI12, 52, .inl (fun _ => (0 : Int32)))), (q25, .inr (9, [.ref q1, .ref q22, .int 0, .ref spl28, .ref spo29, .ref sou30, .ref ssc31, .ref sto32, .ref smi33, .ref sth34])), (ssc31, .inl (cZ35, 16, .inl (fun _ => (0 : Int32))))]) (w1 := []) hP hD [14] [0, 1, 2, 3, 4, 5, 6, 7, 8, 9, 10, 11, 12, 13] rfl rfl (by decide) (by decide) hk1 hFc hP1 hD1
  generalize H1 = H at hP hS ⊢
  have hP : va_P (dC, dI) vwCl [(x, .inr (13, [.ref q1, .ref q13, .ref q22, .ref q25, .null, .null])), (q1, .inr (1, [.int 0, .int 0, .int 0, .ref lc4, .ref lr5, .ref la6, .ref le7, .ref lw8, .ref lp9, .ref ltr10, .ref stk11])), (lc4, .inr (0, [.int 0, .ref ed, .int 0])), (lr5, .inr (0, [.int 0, .ref ed, .int 0])), (la6, .inr (0, [.int 0, .ref ed, .int 0])), (le7, .inr (0, [.int 0, .ref ed, .int 0])), (lw8, .inr (0, [.int 0, .ref ed, .int 0])), (lp9, .inr (0, [.int 0, .ref ed, .int 0])), (ltr10, .inl (cI12, 14, .inl (fun _ => (0 : Int32)))), (q13, .inr (11, [.ref tby16, .int 0, .int 0, .int 0, .ref tst17, .int 0, .ref tla18, .ref tbe19, .ref tsu20, .int 0])), (tby16, .inl (cI12, 200, .inl (fun _ => (0 : Int32)))), (tbe19, .inl (cI12, 52, .inl (fun _ => (0 : Int32)))), (q25, .inr (9, [.ref q1, .ref q22, .int 0, .ref spl28, .ref spo29, .ref sou30, .ref ssc31, .ref sto32, .ref smi33, .ref sth34])), (ssc31, .inl (cZ35, 16, .inl (fun _ => (0 : Int32))))] H := hP
  have hD : va_D A [(x, .inr (13, [.ref q1, .ref q13, .ref q22, .ref q25, .null, .null])), (q1, .inr (1, [.int 0, .int 0, .int 0, .ref lc4, .ref lr5, .ref la6, .ref le7, .ref lw8, .ref lp9, .ref ltr10, .ref stk11])), (lc4, .inr (0, [.int 0, .ref ed, .int 0])), (lr5, .inr (0, [.int 0, .ref ed, .int 0])), (la6, .inr (0, [.int 0, .ref ed, .int 0])), (le7, .inr (0, [.int 0, .ref ed, .int 0])), (lw8, .inr (0, [.int 0, .ref ed, .int 0])), (lp9, .inr (0, [.int 0, .ref ed, .int 0])), (ltr10, .inl (cI12, 14, .inl (fun _ => (0 : Int32)))), (q13, .inr (11, [.ref tby16, .int 0, .int 0, .int 0, .ref tst17, .int 0, .ref tla18, .ref tbe19, .ref tsu20, .int 0])), (tby16, .inl (cI12, 200, .inl (fun _ => (0 : Int32)))), (tbe19, .inl (cI12, 52, .inl (fun _ => (0 : Int32)))), (q25, .inr (9, [.ref q1, .ref q22, .int 0, .ref spl28, .ref spo29, .ref sou30, .ref ssc31, .ref sto32, .ref smi33, .ref sth34])), (ssc31, .inl (cZ35, 16, .inl (fun _ => (0 : Int32))))] := hD
  refine W.widen (k := 35) (n := 1958) (by omega) (by omega) ?_
  refine va_putF (D := (dC, dI)) (ci := 13) (v := .ref q36) (ty := .object "UnlikeBoats$Hearing") (C := RX12) (T := TX12) (N := 6) hx hb hts iw_c_UB_X12 tyX12 tyX12_ok nmX12 hown hK hP hD hS 0 rfl rfl 4 (by decide) (hts (.fieldLink RX12 44 "UnlikeBoats" "hearing" "LUnlikeBoats$Hearing;") (List.mem_of_getElem? (i := 31) rfl)) (fun _ h9 => h9) rfl hin rfl (by decide +kernel) rfl rfl (Nat.le_of_ble_eq_true rfl) dX12_init_72 (fun H locs hP hD hS => ?_)
  have hP : va_P (dC, dI) vwCl [(x, .inr (13, [.ref q1, .ref q13, .ref q22, .ref q25, .ref q36, .null])), (q1, .inr (1, [.int 0, .int 0, .int 0, .ref lc4, .ref lr5, .ref la6, .ref le7, .ref lw8, .ref lp9, .ref ltr10, .ref stk11])), (lc4, .inr (0, [.int 0, .ref ed, .int 0])), (lr5, .inr (0, [.int 0, .ref ed, .int 0])), (la6, .inr (0, [.int 0, .ref ed, .int 0])), (le7, .inr (0, [.int 0, .ref ed, .int 0])), (lw8, .inr (0, [.int 0, .ref ed, .int 0])), (lp9, .inr (0, [.int 0, .ref ed, .int 0])), (ltr10, .inl (cI12, 14, .inl (fun _ => (0 : Int32)))), (q13, .inr (11, [.ref tby16, .int 0, .int 0, .int 0, .ref tst17, .int 0, .ref tla18, .ref tbe19, .ref tsu20, .int 0])), (tby16, .inl (cI12, 200, .inl (fun _ => (0 : Int32)))), (tbe19, .inl (cI12, 52, .inl (fun _ => (0 : Int32)))), (q25, .inr (9, [.ref q1, .ref q22, .int 0, .ref spl28, .ref spo29, .ref sou30, .ref ssc31, .ref sto32, .ref smi33, .ref sth34])), (ssc31, .inl (cZ35, 16, .inl (fun _ => (0 : Int32))))] H := hP
  have hD : va_D A [(x, .inr (13, [.ref q1, .ref q13, .ref q22, .ref q25, .ref q36, .null])), (q1, .inr (1, [.int 0, .int 0, .int 0, .ref lc4, .ref lr5, .ref la6, .ref le7, .ref lw8, .ref lp9, .ref ltr10, .ref stk11])), (lc4, .inr (0, [.int 0, .ref ed, .int 0])), (lr5, .inr (0, [.int 0, .ref ed, .int 0])), (la6, .inr (0, [.int 0, .ref ed, .int 0])), (le7, .inr (0, [.int 0, .ref ed, .int 0])), (lw8, .inr (0, [.int 0, .ref ed, .int 0])), (lp9, .inr (0, [.int 0, .ref ed, .int 0])), (ltr10, .inl (cI12, 14, .inl (fun _ => (0 : Int32)))), (q13, .inr (11, [.ref tby16, .int 0, .int 0, .int 0, .ref tst17, .int 0, .ref tla18, .ref tbe19, .ref tsu20, .int 0])), (tby16, .inl (cI12, 200, .inl (fun _ => (0 : Int32)))), (tbe19, .inl (cI12, 52, .inl (fun _ => (0 : Int32)))), (q25, .inr (9, [.ref q1, .ref q22, .int 0, .ref spl28, .ref spo29, .ref sou30, .ref ssc31, .ref sto32, .ref smi33, .ref sth34])), (ssc31, .inl (cZ35, 16, .inl (fun _ => (0 : Int32))))] := hD
  refine lv_aload_n hx hb dX12_init_75 rfl (lv_at hl 0 rfl) ?_
  refine va_new (ci := 4) (fs := [.null, .null, .null, .null, .null, .null, .null, .null, .null, .null, .null, .null, .null, .null, .null, .int 0, .int 0, .null]) (C := RX3) (T := TX3) (N := 18) hx hb hts iw_c_UB_X3 tyX3 tyX3_ok hown (hts (.classLink RX12 48 RX3) (List.mem_of_getElem? (i := 32) rfl)) (hts (.instantiable RX3 18) (List.mem_of_getElem? (i := 33) rfl)) (hts (.initialized RX3) (List.mem_of_getElem? (i := 34) rfl)) hK hP hD hS hA rfl (fun j hj => by rcases (show j = 0 ∨ j = 1 ∨ j = 2 ∨ j = 3 ∨ j = 4 ∨ j = 5 ∨ j = 6 ∨ j = 7 ∨ j = 8 ∨ j = 9 ∨ j = 10 ∨ j = 11 ∨ j = 12 ∨ j = 13 ∨ j = 14 ∨ j = 15 ∨ j = 16 ∨ j = 17 by omega) with rfl | rfl | rfl | rfl | rfl | rfl | rfl | rfl | rfl | rfl | rfl | rfl | rfl | rfl | rfl | rfl | rfl | rfl <;> rfl) (Nat.le_of_ble_eq_true rfl) (Nat.le_of_ble_eq_true rfl) dX12_init_76 (fun q39 H hP hD hS => ?_)
  have hP : va_P (dC, dI) vwCl [(x, .inr (13, [.ref q1, .ref q13, .ref q22, .ref q25, .ref q36, .null])), (q1, .inr (1, [.int 0, .int 0, .int 0, .ref lc4, .ref lr5, .ref la6, .ref le7, .ref lw8, .ref lp9, .ref ltr10, .ref stk11])), (lc4, .inr (0, [.int 0, .ref ed, .int 0])), (lr5, .inr (0, [.int 0, .ref ed, .int 0])), (la6, .inr (0, [.int 0, .ref ed, .int 0])), (le7, .inr (0, [.int 0, .ref ed, .int 0])), (lw8, .inr (0, [.int 0, .ref ed, .int 0])), (lp9, .inr (0, [.int 0, .ref ed, .int 0])), (ltr10, .inl (cI12, 14, .inl (fun _ => (0 : Int32)))), (q13, .inr (11, [.ref tby16, .int 0, .int 0, .int 0, .ref tst17, .int 0, .ref tla18, .ref tbe19, .ref tsu20, .int 0])), (tby16, .inl (cI12, 200, .inl (fun _ => (0 : Int32)))), (tbe19, .inl (cI12, 52, .inl (fun _ => (0 : Int32)))), (q25, .inr (9, [.ref q1, .ref q22, .int 0, .ref spl28, .ref spo29, .ref sou30, .ref ssc31, .ref sto32, .ref smi33, .ref sth34])), (ssc31, .inl (cZ35, 16, .inl (fun _ => (0 : Int32)))), (q39, .inr (4, [.null, .null, .null, .null, .null, .null, .null, .null, .null, .null, .null, .null, .null, .null, .null, .int 0, .int 0, .null]))] H := hP
  have hD : va_D A [(x, .inr (13, [.ref q1, .ref q13, .ref q22, .ref q25, .ref q36, .null])), (q1, .inr (1, [.int 0, .int 0, .int 0, .ref lc4, .ref lr5, .ref la6, .ref le7, .ref lw8, .ref lp9, .ref ltr10, .ref stk11])), (lc4, .inr (0, [.int 0, .ref ed, .int 0])), (lr5, .inr (0, [.int 0, .ref ed, .int 0])), (la6, .inr (0, [.int 0, .ref ed, .int 0])), (le7, .inr (0, [.int 0, .ref ed, .int 0])), (lw8, .inr (0, [.int 0, .ref ed, .int 0])), (lp9, .inr (0, [.int 0, .ref ed, .int 0])), (ltr10, .inl (cI12, 14, .inl (fun _ => (0 : Int32)))), (q13, .inr (11, [.ref tby16, .int 0, .int 0, .int 0, .ref tst17, .int 0, .ref tla18, .ref tbe19, .ref tsu20, .int 0])), (tby16, .inl (cI12, 200, .inl (fun _ => (0 : Int32)))), (tbe19, .inl (cI12, 52, .inl (fun _ => (0 : Int32)))), (q25, .inr (9, [.ref q1, .ref q22, .int 0, .ref spl28, .ref spo29, .ref sou30, .ref ssc31, .ref sto32, .ref smi33, .ref sth34])), (ssc31, .inl (cZ35, 16, .inl (fun _ => (0 : Int32)))), (q39, .inr (4, [.null, .null, .null, .null, .null, .null, .null, .null, .null, .null, .null, .null, .null, .null, .null, .int 0, .int 0, .null]))] := hD
  refine W.widen (k := 36) (n := 1976) (by omega) (by omega) ?_
  refine lv_dup hx hb dX12_init_79 rfl ?_
  refine lv_aload_n hx hb dX12_init_80 rfl (lv_at hl 0 rfl) ?_
  refine va_get (D := (dC, dI)) (ci := 13) (v := .ref q1) (C := RX12) (T := TX12) (N := 6) hx hb hts iw_c_UB_X12 hown hK hP 0 rfl rfl 0 (by decide) (hts (.fieldLink RX12 10 "UnlikeBoats" "book" "LUnlikeBoats$Book;") (List.mem_of_getElem? (i := 8) rfl)) (fun _ h9 => h9) rfl dX12_init_81 ?_
  refine lv_aload_n hx hb dX12_init_84 rfl (lv_at hl 0 rfl) ?_
  refine va_get (D := (dC, dI)) (ci := 13) (v := .ref q22) (C := RX12) (T := TX12) (N := 6) hx hb hts iw_c_UB_X12 hown hK hP 0 rfl rfl 2 (by decide) (hts (.fieldLink RX12 28 "UnlikeBoats" "sheet" "LUnlikeBoats$Sheet;") (List.mem_of_getElem? (i := 19) rfl)) (fun _ h9 => h9) rfl dX12_init_85 ?_
  have hPc := hP.sub (ws' := [(q39, .inr (4, [.null, .null, .null, .null, .null, .null, .null, .null, .null, .null, .null, .null, .null, .null, .null, .int 0, .int 0, .null]))]) [14] rfl
  have hKc := hK.sub (tys' := []) [] rfl
  have hDc := hD.sub (ws' := [(q39, .inr (4, [.null, .null, .null, .null, .null, .null, .null, .null, .null, .null, .null, .null, .null, .null, .null, .int 0, .int 0, .null]))]) [14] (by decide) rfl
  have hFc := va_free (wc := [(q39, .inr (4, [.null, .null, .null, .null, .null, .null, .null, .null, .null, .null, .null, .null, .null, .null, .null, .int 0, .int 0, .null]))]) hD hS hA [14] rfl
  refine va_callv (va_runI (As := [.ref q1, .ref q22]) (rest := [.ref q39, .ref x]) ⟨hx, hb, hml, hown, hts⟩ (c_OfficeI l dC dI q39 q1 q22 H.size) (cwI 2 hts g_c_UB_c_OfficeI rfl rfl rfl (hts (.initialized RX3) (List.mem_of_getElem? (i := 34) rfl)) (hts (.methodLink RX12 50 yX3_init) (List.mem_of_getElem? (i := 35) rfl)) (hts (.instanceMethod yX3_init) (List.mem_of_getElem? (i := 36) rfl)) rfl (by decide +kernel) ⟨Nat.le_of_ble_eq_true rfl, Nat.le_of_ble_eq_true rfl⟩) ⟨fun a U g mk q => by obtain ⟨e0, e1, qP, qK, qD⟩ := q; exact ⟨e0, e1, qP, va_K.moved (u := U) (U := U.calling g mk a) (Vm.Alike.refl U.vm) qK, qD⟩, fun U hU hW => ⟨rfl, by rw [hU], by rw [hU]; exact hPc, va_K.moved hW.alike hKc, hDc.weaken (fun _ _ _ _ => trivial)⟩⟩ rfl rfl hl.1 rfl (lv_room (Nat.le_of_ble_eq_true rfl)) dX12_init_88 ⟨Nat.le_of_ble_eq_true rfl, Nat.le_of_ble_eq_true rfl⟩) hS (fun q _ h => hFc q h) hFc (fun u41 t H1 locs ht hvm hw hB hz1 hk1 hS => ?_)
  obtain ⟨o242, o343, o444, o545, o646, o747, o848, o949, o1050, o1151, o1252, o1353, o1454, o1755, cI56⟩ := u41
  obtain ⟨hP1, hK1, hD1⟩ := hB
  rw [ht] at hP1
  obtain ⟨hP, hD⟩ := va_join (wr := [(x, .inr (13, [.ref q1, .ref q13, .ref q22, .ref q25, .ref q36, .null])), (q1, .inr (1, [.int 0, .int 0, .int 0, .ref lc4, .ref lr5, .ref la6, .ref le7, .ref lw8, .ref lp9, .ref ltr10, .ref stk11])), (lc4, .inr (0, [.int 0, .ref ed, .int 0])), (lr5, .inr (0, [.int 0, .ref ed, .int 0])), (la6, .inr (0, [.int 0, .ref ed, .int 0])), (le7, .inr (0, [.int 0, .ref ed, .int 0])), (lw8, .inr (0, [.int 0, .ref ed, .int 0])), (lp9, .inr (0, [.int 0, .ref ed, .int 0])), (ltr10, .inl (cI12, 14, .inl (fun _ => (0 : Int32)))), (q13, .inr (11, [.ref tby16, .int 0, .int 0, .int 0, .ref tst17, .int 0, .ref tla18, .ref tbe19, .ref tsu20, .int 0])), (tby16, .inl (cI12, 200, .inl (fun _ => (0 : Int32)))), (tbe19, .inl (cI12, 52, .inl (fun _ => (0 : Int32)))), (q25, .inr (9, [.ref q1, .ref q22, .int 0, .ref spl28, .ref spo29, .ref sou30, .ref ssc31, .ref sto32, .ref smi33, .ref sth34])), (ssc31, .inl (cZ35, 16, .inl (fun _ => (0 : Int32))))]) (w1 := [(q39, .inr (4, [.ref q1, .ref q22, .ref o242, .ref o343, .ref o444, .ref o545, .ref o646, .ref o747, .ref o848, .ref o949, .ref o1050, .ref o1151, .ref o1252, .ref o1353, .ref o1454, .int 0, .int 0, .ref o1755])), (o1755, .inl (cI56, 16, .inl (fun _ => (0 : Int32))))]) hP hD [14] [0, 1, 2, 3, 4, 5, 6, 7, 8, 9, 10, 11, 12, 13] rfl rfl (by decide) (by decide) hk1 hFc hP1 hD1
  have hK1 := va_K.moved hvm.symm hK1
  have hK := hK.app hK1
  have hK : va_K (dC, dI) vwCl [(cI12, .int), (cZ35, .boolean), (cI56, .int)] s := hK
  generalize H1 = H at hP hS ⊢
  have hP : va_P (dC, dI) vwCl [(x, .inr (13, [.ref q1, .ref q13, .ref q22, .ref q25, .ref q36, .null])), (q1, .inr (1, [.int 0, .int 0, .int 0, .ref lc4, .ref lr5, .ref la6, .ref le7, .ref lw8, .ref lp9, .ref ltr10, .ref stk11])), (lc4, .inr (0, [.int 0, .ref ed, .int 0])), (lr5, .inr (0, [.int 0, .ref ed, .int 0])), (la6, .inr (0, [.int 0, .ref ed, .int 0])), (le7, .inr (0, [.int 0, .ref ed, .int 0])), (lw8, .inr (0, [.int 0, .ref ed, .int 0])), (lp9, .inr (0, [.int 0, .ref ed, .int 0])), (ltr10, .inl (cI12, 14, .inl (fun _ => (0 : Int32)))), (q13, .inr (11, [.ref tby16, .int 0, .int 0, .int 0, .ref tst17, .int 0, .ref tla18, .ref tbe19, .ref tsu20, .int 0])), (tby16, .inl (cI12, 200, .inl (fun _ => (0 : Int32)))), (tbe19, .inl (cI12, 52, .inl (fun _ => (0 : Int32)))), (q25, .inr (9, [.ref q1, .ref q22, .int 0, .ref spl28, .ref spo29, .ref sou30, .ref ssc31, .ref sto32, .ref smi33, .ref sth34])), (ssc31, .inl (cZ35, 16, .inl (fun _ => (0 : Int32)))), (q39, .inr (4, [.ref q1, .ref q22, .ref o242, .ref o343, .ref o444, .ref o545, .ref o646, .ref o747, .ref o848, .ref o949, .ref o1050, .ref o1151, .ref o1252, .ref o1353, .ref o1454, .int 0, .int 0, .ref o1755])), (o1755, .inl (cI56, 16, .inl (fun _ => (0 : Int32))))] H := hP
  have hD : va_D A [(x, .inr (13, [.ref q1, .ref q13, .ref q22, .ref q25, .ref q36, .null])), (q1, .inr (1, [.int 0, .int 0, .int 0, .ref lc4, .ref lr5, .ref la6, .ref le7, .ref lw8, .ref lp9, .ref ltr10, .ref stk11])), (lc4, .inr (0, [.int 0, .ref ed, .int 0])), (lr5, .inr (0, [.int 0, .ref ed, .int 0])), (la6, .inr (0, [.int 0, .ref ed, .int 0])), (le7, .inr (0, [.int 0, .ref ed, .int 0])), (lw8, .inr (0, [.int 0, .ref ed, .int 0])), (lp9, .inr (0, [.int 0, .ref ed, .int 0])), (ltr10, .inl (cI12, 14, .inl (fun _ => (0 : Int32)))), (q13, .inr (11, [.ref tby16, .int 0, .int 0, .int 0, .ref tst17, .int 0, .ref tla18, .ref tbe19, .ref tsu20, .int 0])), (tby16, .inl (cI12, 200, .inl (fun _ => (0 : Int32)))), (tbe19, .inl (cI12, 52, .inl (fun _ => (0 : Int32)))), (q25, .inr (9, [.ref q1, .ref q22, .int 0, .ref spl28, .ref spo29, .ref sou30, .ref ssc31, .ref sto32, .ref smi33, .ref sth34])), (ssc31, .inl (cZ35, 16, .inl (fun _ => (0 : Int32)))), (q39, .inr (4, [.ref q1, .ref q22, .ref o242, .ref o343, .ref o444, .ref o545, .ref o646, .ref o747, .ref o848, .ref o949, .ref o1050, .ref o1151, .ref o1252, .ref o1353, .ref o1454, .int 0, .int 0, .ref o1755])), (o1755, .inl (cI56, 16, .inl (fun _ => (0 : Int32))))] := hD
  obtain rfl : cI12 = cI56 := ub_sa_int hK 0 2 rfl rfl
  have hK := hK.sub (tys' := [(cI12, .int), (cZ35, .boolean)]) [0, 1] rfl
  refine W.widen (k := 50) (n := 3940) (by omega) (by omega) ?_
  refine va_putF (D := (dC, dI)) (ci := 13) (v := .ref q39) (ty := .object "UnlikeBoats$Office") (C := RX12) (T := TX12) (N := 6) hx hb hts iw_c_UB_X12 tyX12 tyX12_ok nmX12 hown hK hP hD hS 0 rfl rfl 5 (by decide) (hts (.fieldLink RX12 51 "UnlikeBoats" "office" "LUnlikeBoats$Office;") (List.mem_of_getElem? (i := 37) rfl)) (fun _ h9 => h9) rfl hin rfl (by decide +kernel) rfl rfl (Nat.le_of_ble_eq_true rfl) dX12_init_91 (fun H locs hP hD hS => ?_)
  have hP : va_P (dC, dI) vwCl [(x, .inr (13, [.ref q1, .ref q13, .ref q22, .ref q25, .ref q36, .ref q39])), (q1, .inr (1, [.int 0, .int 0, .int 0, .ref lc4, .ref lr5, .ref la6, .ref le7, .ref lw8, .ref lp9, .ref ltr10, .ref stk11])), (lc4, .inr (0, [.int 0, .ref ed, .int 0])), (lr5, .inr (0, [.int 0, .ref ed, .int 0])), (la6, .inr (0, [.int 0, .ref ed, .int 0])), (le7, .inr (0, [.int 0, .ref ed, .int 0])), (lw8, .inr (0, [.int 0, .ref ed, .int 0])), (lp9, .inr (0, [.int 0, .ref ed, .int 0])), (ltr10, .inl (cI12, 14, .inl (fun _ => (0 : Int32)))), (q13, .inr (11, [.ref tby16, .int 0, .int 0, .int 0, .ref tst17, .int 0, .ref tla18, .ref tbe19, .ref tsu20, .int 0])), (tby16, .inl (cI12, 200, .inl (fun _ => (0 : Int32)))), (tbe19, .inl (cI12, 52, .inl (fun _ => (0 : Int32)))), (q25, .inr (9, [.ref q1, .ref q22, .int 0, .ref spl28, .ref spo29, .ref sou30, .ref ssc31, .ref sto32, .ref smi33, .ref sth34])), (ssc31, .inl (cZ35, 16, .inl (fun _ => (0 : Int32)))), (q39, .inr (4, [.ref q1, .ref q22, .ref o242, .ref o343, .ref o444, .ref o545, .ref o646, .ref o747, .ref o848, .ref o949, .ref o1050, .ref o1151, .ref o1252, .ref o1353, .ref o1454, .int 0, .int 0, .ref o1755])), (o1755, .inl (cI12, 16, .inl (fun _ => (0 : Int32))))] H := hP
  have hD : va_D A [(x, .inr (13, [.ref q1, .ref q13, .ref q22, .ref q25, .ref q36, .ref q39])), (q1, .inr (1, [.int 0, .int 0, .int 0, .ref lc4, .ref lr5, .ref la6, .ref le7, .ref lw8, .ref lp9, .ref ltr10, .ref stk11])), (lc4, .inr (0, [.int 0, .ref ed, .int 0])), (lr5, .inr (0, [.int 0, .ref ed, .int 0])), (la6, .inr (0, [.int 0, .ref ed, .int 0])), (le7, .inr (0, [.int 0, .ref ed, .int 0])), (lw8, .inr (0, [.int 0, .ref ed, .int 0])), (lp9, .inr (0, [.int 0, .ref ed, .int 0])), (ltr10, .inl (cI12, 14, .inl (fun _ => (0 : Int32)))), (q13, .inr (11, [.ref tby16, .int 0, .int 0, .int 0, .ref tst17, .int 0, .ref tla18, .ref tbe19, .ref tsu20, .int 0])), (tby16, .inl (cI12, 200, .inl (fun _ => (0 : Int32)))), (tbe19, .inl (cI12, 52, .inl (fun _ => (0 : Int32)))), (q25, .inr (9, [.ref q1, .ref q22, .int 0, .ref spl28, .ref spo29, .ref sou30, .ref ssc31, .ref sto32, .ref smi33, .ref sth34])), (ssc31, .inl (cZ35, 16, .inl (fun _ => (0 : Int32)))), (q39, .inr (4, [.ref q1, .ref q22, .ref o242, .ref o343, .ref o444, .ref o545, .ref o646, .ref o747, .ref o848, .ref o949, .ref o1050, .ref o1151, .ref o1252, .ref o1353, .ref o1454, .int 0, .int 0, .ref o1755])), (o1755, .inl (cI12, 16, .inl (fun _ => (0 : Int32))))] := hD
  have hP9 := hP.sub (ws' := [(x, .inr (13, [.ref q1, .ref q13, .ref q22, .ref q25, .ref q36, .ref q39])), (q1, .inr (1, [.int 0, .int 0, .int 0, .ref lc4, .ref lr5, .ref la6, .ref le7, .ref lw8, .ref lp9, .ref ltr10, .ref stk11])), (lc4, .inr (0, [.int 0, .ref ed, .int 0])), (lr5, .inr (0, [.int 0, .ref ed, .int 0])), (la6, .inr (0, [.int 0, .ref ed, .int 0])), (le7, .inr (0, [.int 0, .ref ed, .int 0])), (lw8, .inr (0, [.int 0, .ref ed, .int 0])), (lp9, .inr (0, [.int 0, .ref ed, .int 0])), (ltr10, .inl (cI12, 14, .inl (fun _ => (0 : Int32)))), (q13, .inr (11, [.ref tby16, .int 0, .int 0, .int 0, .ref tst17, .int 0, .ref tla18, .ref tbe19, .ref tsu20, .int 0])), (tby16, .inl (cI12, 200, .inl (fun _ => (0 : Int32)))), (tbe19, .inl (cI12, 52, .inl (fun _ => (0 : Int32)))), (q25, .inr (9, [.ref q1, .ref q22, .int 0, .ref spl28, .ref spo29, .ref sou30, .ref ssc31, .ref sto32, .ref smi33, .ref sth34])), (ssc31, .inl (cZ35, 16, .inl (fun _ => (0 : Int32)))), (q39, .inr (4, [.ref q1, .ref q22, .ref o242, .ref o343, .ref o444, .ref o545, .ref o646, .ref o747, .ref o848, .ref o949, .ref o1050, .ref o1151, .ref o1252, .ref o1353, .ref o1454, .int 0, .int 0, .ref o1755])), (o1755, .inl (cI12, 16, .inl (fun _ => (0 : Int32))))]) [0, 1, 2, 3, 4, 5, 6, 7, 8, 9, 10, 11, 12, 13, 14, 15] rfl
  have hD9 := hD.sub (ws' := [(x, .inr (13, [.ref q1, .ref q13, .ref q22, .ref q25, .ref q36, .ref q39])), (q1, .inr (1, [.int 0, .int 0, .int 0, .ref lc4, .ref lr5, .ref la6, .ref le7, .ref lw8, .ref lp9, .ref ltr10, .ref stk11])), (lc4, .inr (0, [.int 0, .ref ed, .int 0])), (lr5, .inr (0, [.int 0, .ref ed, .int 0])), (la6, .inr (0, [.int 0, .ref ed, .int 0])), (le7, .inr (0, [.int 0, .ref ed, .int 0])), (lw8, .inr (0, [.int 0, .ref ed, .int 0])), (lp9, .inr (0, [.int 0, .ref ed, .int 0])), (ltr10, .inl (cI12, 14, .inl (fun _ => (0 : Int32)))), (q13, .inr (11, [.ref tby16, .int 0, .int 0, .int 0, .ref tst17, .int 0, .ref tla18, .ref tbe19, .ref tsu20, .int 0])), (tby16, .inl (cI12, 200, .inl (fun _ => (0 : Int32)))), (tbe19, .inl (cI12, 52, .inl (fun _ => (0 : Int32)))), (q25, .inr (9, [.ref q1, .ref q22, .int 0, .ref spl28, .ref spo29, .ref sou30, .ref ssc31, .ref sto32, .ref smi33, .ref sth34])), (ssc31, .inl (cZ35, 16, .inl (fun _ => (0 : Int32)))), (q39, .inr (4, [.ref q1, .ref q22, .ref o242, .ref o343, .ref o444, .ref o545, .ref o646, .ref o747, .ref o848, .ref o949, .ref o1050, .ref o1151, .ref o1252, .ref o1353, .ref o1454, .int 0, .int 0, .ref o1755])), (o1755, .inl (cI12, 16, .inl (fun _ => (0 : Int32))))]) [0, 1, 2, 3, 4, 5, 6, 7, 8, 9, 10, 11, 12, 13, 14, 15] (by decide) rfl
  have hK9 := hK.sub (tys' := [(cI12, .int), (cZ35, .boolean)]) [0, 1] rfl
  exact W.vret hx hb hr (fun t ht hW => ⟨⟨(q1, lc4, lr5, la6, le7, lw8, lp9, ltr10, stk11, q13, tby16, tst17, tla18, tbe19, tsu20, q22, q25, spl28, spo29, sou30, ssc31, sto32, smi33, sth34, q36, q39, o242, o343, o444, o545, o646, o747, o848, o949, o1050, o1151, o1252, o1353, o1454, o1755, cI12, cZ35), rfl, trivial, (by rw [ht]; exact hP9), va_K.moved hW.alike hK9, hD9⟩, hS.F ht⟩) hS.2.2 dX12_init_94
