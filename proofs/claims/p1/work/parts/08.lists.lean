def tyX5 : Nat → FieldType := fun k => match k with
  | 0 => .int
  | 1 => .int
  | 2 => .int
  | 3 => .int
  | 4 => .int
  | 5 => .int
  | 6 => .int
  | 7 => .array .int
  | 8 => .array .int
  | 9 => .array .int
  | 10 => .array .int
  | _ => .array .int
theorem nmX5 : ∀ a, a < 12 → ∀ b, b < 12 → a ≠ b → (TX5 a).2.1 ≠ (TX5 b).2.1 := by decide +kernel
theorem tyX5_ok : ∀ k, k < 12 → parseFieldDescriptor (TX5 k).2.2.1 = some (tyX5 k) := by decide +kernel
abbrev cX5_init : ByteArray := prog_7_method_1_code
def yX5_init : MethodName := ⟨RX5, "<init>", "(IIIIIII)V"⟩
abbrev cX12_race : ByteArray := prog_1_method_12_code
def yX12_race : MethodName := ⟨RX12, "race", "(IIIIII)I"⟩
def RJxa1e45 : String := "java/util/AbstractCollection"
abbrev cJxa1e45_init_da8c8 : ByteArray := prog_33_method_1_code
def yJxa1e45_init_da8c8 : MethodName := ⟨RJxa1e45, "<init>", "()V"⟩
def RJxc12de : String := "java/util/AbstractList"
abbrev cJxc12de_init_da8c8 : ByteArray := prog_34_method_1_code
def yJxc12de_init_da8c8 : MethodName := ⟨RJxc12de, "<init>", "()V"⟩
def tyJx4a65c : Nat → FieldType := fun k => match k with
  | 0 => .int
  | 1 => .array (.object "java/lang/Object")
  | _ => .int
theorem nmJx4a65c : ∀ a, a < 3 → ∀ b, b < 3 → a ≠ b → (TJx4a65c a).2.1 ≠ (TJx4a65c b).2.1 := by decide +kernel
theorem tyJx4a65c_ok : ∀ k, k < 3 → parseFieldDescriptor (TJx4a65c k).2.2.1 = some (tyJx4a65c k) := by decide +kernel
abbrev cJx4a65c_init_da8c8 : ByteArray := prog_35_method_2_code
def yJx4a65c_init_da8c8 : MethodName := ⟨RJx4a65c, "<init>", "()V"⟩
abbrev cJx4a65c_grow_92f84 : ByteArray := prog_35_method_6_code
def yJx4a65c_grow_92f84 : MethodName := ⟨RJx4a65c, "grow", "(I)[Ljava/lang/Object;"⟩
abbrev cJx4a65c_grow_d5877 : ByteArray := prog_35_method_7_code
def yJx4a65c_grow_d5877 : MethodName := ⟨RJx4a65c, "grow", "()[Ljava/lang/Object;"⟩
abbrev cJx4a65c_add_72be8 : ByteArray := prog_35_method_24_code
def yJx4a65c_add_72be8 : MethodName := ⟨RJx4a65c, "add", "(Ljava/lang/Object;[Ljava/lang/Object;I)V"⟩
abbrev cJx4a65c_add_9ea2d : ByteArray := prog_35_method_25_code
def yJx4a65c_add_9ea2d : MethodName := ⟨RJx4a65c, "add", "(Ljava/lang/Object;)Z"⟩
theorem dX5_init_0 : decode cX5_init 0 = .ok (.aload_n 0, 1) := by decide +kernel
theorem dX5_init_1 : decode cX5_init 1 = .ok (.invokespecial 3, 3) := by decide +kernel
theorem dX5_init_4 : decode cX5_init 4 = .ok (.aload_n 0, 1) := by decide +kernel
theorem dX5_init_5 : decode cX5_init 5 = .ok (.bipush 16, 2) := by decide +kernel
theorem dX5_init_7 : decode cX5_init 7 = .ok (.newarray .int, 2) := by decide +kernel
theorem dX5_init_9 : decode cX5_init 9 = .ok (.putfield 9, 3) := by decide +kernel
theorem dX5_init_12 : decode cX5_init 12 = .ok (.aload_n 0, 1) := by decide +kernel
theorem dX5_init_13 : decode cX5_init 13 = .ok (.bipush 16, 2) := by decide +kernel
theorem dX5_init_15 : decode cX5_init 15 = .ok (.newarray .int, 2) := by decide +kernel
theorem dX5_init_17 : decode cX5_init 17 = .ok (.putfield 15, 3) := by decide +kernel
theorem dX5_init_20 : decode cX5_init 20 = .ok (.aload_n 0, 1) := by decide +kernel
theorem dX5_init_21 : decode cX5_init 21 = .ok (.bipush 16, 2) := by decide +kernel
theorem dX5_init_23 : decode cX5_init 23 = .ok (.newarray .int, 2) := by decide +kernel
theorem dX5_init_25 : decode cX5_init 25 = .ok (.putfield 18, 3) := by decide +kernel
theorem dX5_init_28 : decode cX5_init 28 = .ok (.aload_n 0, 1) := by decide +kernel
theorem dX5_init_29 : decode cX5_init 29 = .ok (.bipush 16, 2) := by decide +kernel
theorem dX5_init_31 : decode cX5_init 31 = .ok (.newarray .int, 2) := by decide +kernel
theorem dX5_init_33 : decode cX5_init 33 = .ok (.putfield 21, 3) := by decide +kernel
theorem dX5_init_36 : decode cX5_init 36 = .ok (.aload_n 0, 1) := by decide +kernel
theorem dX5_init_37 : decode cX5_init 37 = .ok (.sipush 401, 3) := by decide +kernel
theorem dX5_init_40 : decode cX5_init 40 = .ok (.newarray .int, 2) := by decide +kernel
theorem dX5_init_42 : decode cX5_init 42 = .ok (.putfield 24, 3) := by decide +kernel
theorem dX5_init_45 : decode cX5_init 45 = .ok (.aload_n 0, 1) := by decide +kernel
theorem dX5_init_46 : decode cX5_init 46 = .ok (.iload_n 1, 1) := by decide +kernel
theorem dX5_init_47 : decode cX5_init 47 = .ok (.putfield 27, 3) := by decide +kernel
theorem dX5_init_50 : decode cX5_init 50 = .ok (.aload_n 0, 1) := by decide +kernel
theorem dX5_init_51 : decode cX5_init 51 = .ok (.iload_n 2, 1) := by decide +kernel
theorem dX5_init_52 : decode cX5_init 52 = .ok (.putfield 31, 3) := by decide +kernel
theorem dX5_init_55 : decode cX5_init 55 = .ok (.aload_n 0, 1) := by decide +kernel
theorem dX5_init_56 : decode cX5_init 56 = .ok (.iload_n 3, 1) := by decide +kernel
theorem dX5_init_57 : decode cX5_init 57 = .ok (.putfield 34, 3) := by decide +kernel
theorem dX5_init_60 : decode cX5_init 60 = .ok (.aload_n 0, 1) := by decide +kernel
theorem dX5_init_61 : decode cX5_init 61 = .ok (.iload 4, 2) := by decide +kernel
theorem dX5_init_63 : decode cX5_init 63 = .ok (.putfield 37, 3) := by decide +kernel
theorem dX5_init_66 : decode cX5_init 66 = .ok (.aload_n 0, 1) := by decide +kernel
theorem dX5_init_67 : decode cX5_init 67 = .ok (.iload 5, 2) := by decide +kernel
theorem dX5_init_69 : decode cX5_init 69 = .ok (.putfield 40, 3) := by decide +kernel
theorem dX5_init_72 : decode cX5_init 72 = .ok (.aload_n 0, 1) := by decide +kernel
theorem dX5_init_73 : decode cX5_init 73 = .ok (.iload 6, 2) := by decide +kernel
theorem dX5_init_75 : decode cX5_init 75 = .ok (.putfield 43, 3) := by decide +kernel
theorem dX5_init_78 : decode cX5_init 78 = .ok (.aload_n 0, 1) := by decide +kernel
theorem dX5_init_79 : decode cX5_init 79 = .ok (.iload 7, 2) := by decide +kernel
theorem dX5_init_81 : decode cX5_init 81 = .ok (.putfield 46, 3) := by decide +kernel
theorem dX5_init_84 : decode cX5_init 84 = .ok (.aload_n 0, 1) := by decide +kernel
theorem dX5_init_85 : decode cX5_init 85 = .ok (.getfield 9, 3) := by decide +kernel
theorem dX5_init_88 : decode cX5_init 88 = .ok (.iconst (-1), 1) := by decide +kernel
theorem dX5_init_89 : decode cX5_init 89 = .ok (.invokestatic 49, 3) := by decide +kernel
theorem dX5_init_92 : decode cX5_init 92 = .ok (.aload_n 0, 1) := by decide +kernel
theorem dX5_init_93 : decode cX5_init 93 = .ok (.getfield 15, 3) := by decide +kernel
theorem dX5_init_96 : decode cX5_init 96 = .ok (.iconst (-1), 1) := by decide +kernel
theorem dX5_init_97 : decode cX5_init 97 = .ok (.invokestatic 49, 3) := by decide +kernel
theorem dX5_init_100 : decode cX5_init 100 = .ok (.aload_n 0, 1) := by decide +kernel
theorem dX5_init_101 : decode cX5_init 101 = .ok (.getfield 18, 3) := by decide +kernel
theorem dX5_init_104 : decode cX5_init 104 = .ok (.iconst (-1), 1) := by decide +kernel
theorem dX5_init_105 : decode cX5_init 105 = .ok (.invokestatic 49, 3) := by decide +kernel
theorem dX5_init_108 : decode cX5_init 108 = .ok (.return_, 1) := by decide +kernel
theorem dX12_race_0 : decode cX12_race 0 = .ok (.iload_n 1, 1) := by decide +kernel
theorem dX12_race_1 : decode cX12_race 1 = .ok (.iconst 0, 1) := by decide +kernel
theorem dX12_race_2 : decode cX12_race 2 = .ok (.aload_n 0, 1) := by decide +kernel
theorem dX12_race_3 : decode cX12_race 3 = .ok (.getfield 10, 3) := by decide +kernel
theorem dX12_race_6 : decode cX12_race 6 = .ok (.getfield 55, 3) := by decide +kernel
theorem dX12_race_9 : decode cX12_race 9 = .ok (.invokestatic 59, 3) := by decide +kernel
theorem dX12_race_12 : decode cX12_race 12 = .ok (.ifCond .eq 14, 3) := by decide +kernel
theorem dX12_race_15 : decode cX12_race 15 = .ok (.iload_n 2, 1) := by decide +kernel
theorem dX12_race_16 : decode cX12_race 16 = .ok (.iconst 1, 1) := by decide +kernel
theorem dX12_race_17 : decode cX12_race 17 = .ok (.sipush 1000, 3) := by decide +kernel
theorem dX12_race_20 : decode cX12_race 20 = .ok (.invokestatic 59, 3) := by decide +kernel
theorem dX12_race_23 : decode cX12_race 23 = .ok (.ifCond .ne 5, 3) := by decide +kernel
theorem dX12_race_26 : decode cX12_race 26 = .ok (.iconst (-1), 1) := by decide +kernel
theorem dX12_race_27 : decode cX12_race 27 = .ok (.ireturn, 1) := by decide +kernel
theorem dX12_race_28 : decode cX12_race 28 = .ok (.iload_n 3, 1) := by decide +kernel
theorem dX12_race_29 : decode cX12_race 29 = .ok (.iconst 0, 1) := by decide +kernel
theorem dX12_race_30 : decode cX12_race 30 = .ok (.iconst 1, 1) := by decide +kernel
theorem dX12_race_31 : decode cX12_race 31 = .ok (.invokestatic 59, 3) := by decide +kernel
theorem dX12_race_34 : decode cX12_race 34 = .ok (.ifCond .eq 14, 3) := by decide +kernel
theorem dX12_race_37 : decode cX12_race 37 = .ok (.iload 4, 2) := by decide +kernel
theorem dX12_race_39 : decode cX12_race 39 = .ok (.iconst 0, 1) := by decide +kernel
theorem dX12_race_40 : decode cX12_race 40 = .ok (.bipush 7, 2) := by decide +kernel
theorem dX12_race_42 : decode cX12_race 42 = .ok (.invokestatic 59, 3) := by decide +kernel
theorem dX12_race_45 : decode cX12_race 45 = .ok (.ifCond .ne 5, 3) := by decide +kernel
theorem dX12_race_48 : decode cX12_race 48 = .ok (.iconst (-1), 1) := by decide +kernel
theorem dX12_race_49 : decode cX12_race 49 = .ok (.ireturn, 1) := by decide +kernel
theorem dX12_race_50 : decode cX12_race 50 = .ok (.iload 5, 2) := by decide +kernel
theorem dX12_race_52 : decode cX12_race 52 = .ok (.iconst 0, 1) := by decide +kernel
theorem dX12_race_53 : decode cX12_race 53 = .ok (.bipush 99, 2) := by decide +kernel
theorem dX12_race_55 : decode cX12_race 55 = .ok (.invokestatic 59, 3) := by decide +kernel
theorem dX12_race_58 : decode cX12_race 58 = .ok (.ifCond .eq 14, 3) := by decide +kernel
theorem dX12_race_61 : decode cX12_race 61 = .ok (.iload 6, 2) := by decide +kernel
theorem dX12_race_63 : decode cX12_race 63 = .ok (.iconst 0, 1) := by decide +kernel
theorem dX12_race_64 : decode cX12_race 64 = .ok (.bipush 99, 2) := by decide +kernel
theorem dX12_race_66 : decode cX12_race 66 = .ok (.invokestatic 59, 3) := by decide +kernel
theorem dX12_race_69 : decode cX12_race 69 = .ok (.ifCond .ne 5, 3) := by decide +kernel
theorem dX12_race_72 : decode cX12_race 72 = .ok (.iconst (-1), 1) := by decide +kernel
theorem dX12_race_73 : decode cX12_race 73 = .ok (.ireturn, 1) := by decide +kernel
theorem dX12_race_74 : decode cX12_race 74 = .ok (.aload_n 0, 1) := by decide +kernel
theorem dX12_race_75 : decode cX12_race 75 = .ok (.getfield 10, 3) := by decide +kernel
theorem dX12_race_78 : decode cX12_race 78 = .ok (.getfield 127, 3) := by decide +kernel
theorem dX12_race_81 : decode cX12_race 81 = .ok (.invokevirtual 77, 3) := by decide +kernel
theorem dX12_race_84 : decode cX12_race 84 = .ok (.bipush 20, 2) := by decide +kernel
theorem dX12_race_86 : decode cX12_race 86 = .ok (.if_icmp .lt 5, 3) := by decide +kernel
theorem dX12_race_91 : decode cX12_race 91 = .ok (.aload_n 0, 1) := by decide +kernel
theorem dX12_race_92 : decode cX12_race 92 = .ok (.getfield 10, 3) := by decide +kernel
theorem dX12_race_95 : decode cX12_race 95 = .ok (.getfield 127, 3) := by decide +kernel
theorem dX12_race_98 : decode cX12_race 98 = .ok (.new 130, 3) := by decide +kernel
theorem dX12_race_101 : decode cX12_race 101 = .ok (.dup, 1) := by decide +kernel
theorem dX12_race_102 : decode cX12_race 102 = .ok (.aload_n 0, 1) := by decide +kernel
theorem dX12_race_103 : decode cX12_race 103 = .ok (.getfield 10, 3) := by decide +kernel
theorem dX12_race_106 : decode cX12_race 106 = .ok (.getfield 55, 3) := by decide +kernel
theorem dX12_race_109 : decode cX12_race 109 = .ok (.iload_n 1, 1) := by decide +kernel
theorem dX12_race_110 : decode cX12_race 110 = .ok (.iload_n 2, 1) := by decide +kernel
theorem dX12_race_111 : decode cX12_race 111 = .ok (.iload_n 3, 1) := by decide +kernel
theorem dX12_race_112 : decode cX12_race 112 = .ok (.iload 4, 2) := by decide +kernel
theorem dX12_race_114 : decode cX12_race 114 = .ok (.iload 5, 2) := by decide +kernel
theorem dX12_race_116 : decode cX12_race 116 = .ok (.iload 6, 2) := by decide +kernel
theorem dX12_race_118 : decode cX12_race 118 = .ok (.invokespecial 132, 3) := by decide +kernel
theorem dX12_race_121 : decode cX12_race 121 = .ok (.invokevirtual 88, 3) := by decide +kernel
theorem dX12_race_124 : decode cX12_race 124 = .ok (.pop, 1) := by decide +kernel
theorem dX12_race_125 : decode cX12_race 125 = .ok (.aload_n 0, 1) := by decide +kernel
theorem dX12_race_126 : decode cX12_race 126 = .ok (.getfield 10, 3) := by decide +kernel
theorem dX12_race_129 : decode cX12_race 129 = .ok (.getfield 127, 3) := by decide +kernel
theorem dX12_race_132 : decode cX12_race 132 = .ok (.invokevirtual 77, 3) := by decide +kernel
theorem dX12_race_135 : decode cX12_race 135 = .ok (.iconst 1, 1) := by decide +kernel
theorem dX12_race_136 : decode cX12_race 136 = .ok (.isub, 1) := by decide +kernel
theorem dX12_race_137 : decode cX12_race 137 = .ok (.ireturn, 1) := by decide +kernel
theorem dJxa1e45_init_da8c8_0 : decode cJxa1e45_init_da8c8 0 = .ok (.aload_n 0, 1) := by decide +kernel
theorem dJxa1e45_init_da8c8_1 : decode cJxa1e45_init_da8c8 1 = .ok (.invokespecial 1, 3) := by decide +kernel
theorem dJxa1e45_init_da8c8_4 : decode cJxa1e45_init_da8c8 4 = .ok (.return_, 1) := by decide +kernel
theorem dJxc12de_init_da8c8_0 : decode cJxc12de_init_da8c8 0 = .ok (.aload_n 0, 1) := by decide +kernel
theorem dJxc12de_init_da8c8_1 : decode cJxc12de_init_da8c8 1 = .ok (.invokespecial 1, 3) := by decide +kernel
theorem dJxc12de_init_da8c8_4 : decode cJxc12de_init_da8c8 4 = .ok (.aload_n 0, 1) := by decide +kernel
theorem dJxc12de_init_da8c8_5 : decode cJxc12de_init_da8c8 5 = .ok (.iconst 0, 1) := by decide +kernel
theorem dJxc12de_init_da8c8_6 : decode cJxc12de_init_da8c8 6 = .ok (.putfield 7, 3) := by decide +kernel
theorem dJxc12de_init_da8c8_9 : decode cJxc12de_init_da8c8 9 = .ok (.return_, 1) := by decide +kernel
theorem dJx4a65c_init_da8c8_0 : decode cJx4a65c_init_da8c8 0 = .ok (.aload_n 0, 1) := by decide +kernel
theorem dJx4a65c_init_da8c8_1 : decode cJx4a65c_init_da8c8 1 = .ok (.invokespecial 1, 3) := by decide +kernel
theorem dJx4a65c_init_da8c8_4 : decode cJx4a65c_init_da8c8 4 = .ok (.aload_n 0, 1) := by decide +kernel
theorem dJx4a65c_init_da8c8_5 : decode cJx4a65c_init_da8c8 5 = .ok (.getstatic 39, 3) := by decide +kernel
theorem dJx4a65c_init_da8c8_8 : decode cJx4a65c_init_da8c8 8 = .ok (.putfield 9, 3) := by decide +kernel
theorem dJx4a65c_init_da8c8_11 : decode cJx4a65c_init_da8c8 11 = .ok (.return_, 1) := by decide +kernel
theorem dJx4a65c_grow_92f84_0 : decode cJx4a65c_grow_92f84 0 = .ok (.aload_n 0, 1) := by decide +kernel
theorem dJx4a65c_grow_92f84_1 : decode cJx4a65c_grow_92f84 1 = .ok (.getfield 9, 3) := by decide +kernel
theorem dJx4a65c_grow_92f84_4 : decode cJx4a65c_grow_92f84 4 = .ok (.arraylength, 1) := by decide +kernel
theorem dJx4a65c_grow_92f84_5 : decode cJx4a65c_grow_92f84 5 = .ok (.istore_n 2, 1) := by decide +kernel
theorem dJx4a65c_grow_92f84_6 : decode cJx4a65c_grow_92f84 6 = .ok (.iload_n 2, 1) := by decide +kernel
theorem dJx4a65c_grow_92f84_7 : decode cJx4a65c_grow_92f84 7 = .ok (.ifCond .gt 13, 3) := by decide +kernel
theorem dJx4a65c_grow_92f84_10 : decode cJx4a65c_grow_92f84 10 = .ok (.aload_n 0, 1) := by decide +kernel
theorem dJx4a65c_grow_92f84_11 : decode cJx4a65c_grow_92f84 11 = .ok (.getfield 9, 3) := by decide +kernel
theorem dJx4a65c_grow_92f84_14 : decode cJx4a65c_grow_92f84 14 = .ok (.getstatic 39, 3) := by decide +kernel
theorem dJx4a65c_grow_92f84_17 : decode cJx4a65c_grow_92f84 17 = .ok (.if_acmp .eq 28, 3) := by decide +kernel
theorem dJx4a65c_grow_92f84_45 : decode cJx4a65c_grow_92f84 45 = .ok (.aload_n 0, 1) := by decide +kernel
theorem dJx4a65c_grow_92f84_46 : decode cJx4a65c_grow_92f84 46 = .ok (.bipush 10, 2) := by decide +kernel
theorem dJx4a65c_grow_92f84_48 : decode cJx4a65c_grow_92f84 48 = .ok (.iload_n 1, 1) := by decide +kernel
theorem dJx4a65c_grow_92f84_49 : decode cJx4a65c_grow_92f84 49 = .ok (.invokestatic 79, 3) := by decide +kernel
theorem dJx4a65c_grow_92f84_52 : decode cJx4a65c_grow_92f84 52 = .ok (.anewarray 7, 3) := by decide +kernel
theorem dJx4a65c_grow_92f84_55 : decode cJx4a65c_grow_92f84 55 = .ok (.dup_x1, 1) := by decide +kernel
theorem dJx4a65c_grow_92f84_56 : decode cJx4a65c_grow_92f84 56 = .ok (.putfield 9, 3) := by decide +kernel
theorem dJx4a65c_grow_92f84_59 : decode cJx4a65c_grow_92f84 59 = .ok (.areturn, 1) := by decide +kernel
theorem dJx4a65c_grow_d5877_0 : decode cJx4a65c_grow_d5877 0 = .ok (.aload_n 0, 1) := by decide +kernel
theorem dJx4a65c_grow_d5877_1 : decode cJx4a65c_grow_d5877 1 = .ok (.aload_n 0, 1) := by decide +kernel
theorem dJx4a65c_grow_d5877_2 : decode cJx4a65c_grow_d5877 2 = .ok (.getfield 48, 3) := by decide +kernel
theorem dJx4a65c_grow_d5877_5 : decode cJx4a65c_grow_d5877 5 = .ok (.iconst 1, 1) := by decide +kernel
theorem dJx4a65c_grow_d5877_6 : decode cJx4a65c_grow_d5877 6 = .ok (.iadd, 1) := by decide +kernel
theorem dJx4a65c_grow_d5877_7 : decode cJx4a65c_grow_d5877 7 = .ok (.invokevirtual 69, 3) := by decide +kernel
theorem dJx4a65c_grow_d5877_10 : decode cJx4a65c_grow_d5877 10 = .ok (.areturn, 1) := by decide +kernel
theorem dJx4a65c_add_72be8_0 : decode cJx4a65c_add_72be8 0 = .ok (.iload_n 3, 1) := by decide +kernel
theorem dJx4a65c_add_72be8_1 : decode cJx4a65c_add_72be8 1 = .ok (.aload_n 2, 1) := by decide +kernel
theorem dJx4a65c_add_72be8_2 : decode cJx4a65c_add_72be8 2 = .ok (.arraylength, 1) := by decide +kernel
theorem dJx4a65c_add_72be8_3 : decode cJx4a65c_add_72be8 3 = .ok (.if_icmp .ne 8, 3) := by decide +kernel
theorem dJx4a65c_add_72be8_6 : decode cJx4a65c_add_72be8 6 = .ok (.aload_n 0, 1) := by decide +kernel
theorem dJx4a65c_add_72be8_7 : decode cJx4a65c_add_72be8 7 = .ok (.invokevirtual 129, 3) := by decide +kernel
theorem dJx4a65c_add_72be8_10 : decode cJx4a65c_add_72be8 10 = .ok (.astore_n 2, 1) := by decide +kernel
theorem dJx4a65c_add_72be8_11 : decode cJx4a65c_add_72be8 11 = .ok (.aload_n 2, 1) := by decide +kernel
theorem dJx4a65c_add_72be8_12 : decode cJx4a65c_add_72be8 12 = .ok (.iload_n 3, 1) := by decide +kernel
theorem dJx4a65c_add_72be8_13 : decode cJx4a65c_add_72be8 13 = .ok (.aload_n 1, 1) := by decide +kernel
theorem dJx4a65c_add_72be8_14 : decode cJx4a65c_add_72be8 14 = .ok (.aastore, 1) := by decide +kernel
theorem dJx4a65c_add_72be8_15 : decode cJx4a65c_add_72be8 15 = .ok (.aload_n 0, 1) := by decide +kernel
theorem dJx4a65c_add_72be8_16 : decode cJx4a65c_add_72be8 16 = .ok (.iload_n 3, 1) := by decide +kernel
theorem dJx4a65c_add_72be8_17 : decode cJx4a65c_add_72be8 17 = .ok (.iconst 1, 1) := by decide +kernel
theorem dJx4a65c_add_72be8_18 : decode cJx4a65c_add_72be8 18 = .ok (.iadd, 1) := by decide +kernel
theorem dJx4a65c_add_72be8_19 : decode cJx4a65c_add_72be8 19 = .ok (.putfield 48, 3) := by decide +kernel
theorem dJx4a65c_add_72be8_22 : decode cJx4a65c_add_72be8 22 = .ok (.return_, 1) := by decide +kernel
theorem dJx4a65c_add_9ea2d_0 : decode cJx4a65c_add_9ea2d 0 = .ok (.aload_n 0, 1) := by decide +kernel
theorem dJx4a65c_add_9ea2d_1 : decode cJx4a65c_add_9ea2d 1 = .ok (.dup, 1) := by decide +kernel
theorem dJx4a65c_add_9ea2d_2 : decode cJx4a65c_add_9ea2d 2 = .ok (.getfield 63, 3) := by decide +kernel
theorem dJx4a65c_add_9ea2d_5 : decode cJx4a65c_add_9ea2d 5 = .ok (.iconst 1, 1) := by decide +kernel
theorem dJx4a65c_add_9ea2d_6 : decode cJx4a65c_add_9ea2d 6 = .ok (.iadd, 1) := by decide +kernel
theorem dJx4a65c_add_9ea2d_7 : decode cJx4a65c_add_9ea2d 7 = .ok (.putfield 63, 3) := by decide +kernel
theorem dJx4a65c_add_9ea2d_10 : decode cJx4a65c_add_9ea2d 10 = .ok (.aload_n 0, 1) := by decide +kernel
theorem dJx4a65c_add_9ea2d_11 : decode cJx4a65c_add_9ea2d 11 = .ok (.aload_n 1, 1) := by decide +kernel
theorem dJx4a65c_add_9ea2d_12 : decode cJx4a65c_add_9ea2d 12 = .ok (.aload_n 0, 1) := by decide +kernel
theorem dJx4a65c_add_9ea2d_13 : decode cJx4a65c_add_9ea2d 13 = .ok (.getfield 9, 3) := by decide +kernel
theorem dJx4a65c_add_9ea2d_16 : decode cJx4a65c_add_9ea2d 16 = .ok (.aload_n 0, 1) := by decide +kernel
theorem dJx4a65c_add_9ea2d_17 : decode cJx4a65c_add_9ea2d 17 = .ok (.getfield 48, 3) := by decide +kernel
theorem dJx4a65c_add_9ea2d_20 : decode cJx4a65c_add_9ea2d 20 = .ok (.invokevirtual 131, 3) := by decide +kernel
theorem dJx4a65c_add_9ea2d_23 : decode cJx4a65c_add_9ea2d 23 = .ok (.iconst 1, 1) := by decide +kernel
theorem dJx4a65c_add_9ea2d_24 : decode cJx4a65c_add_9ea2d 24 = .ok (.ireturn, 1) := by decide +kernel
theorem ub_sa_int {D : va_G} {cl : List vw_C} {tys : List (ClassId × FieldType)} {U : State} {a b : ClassId} (hK : va_K D cl tys U) (i j : Nat) (hi : tys[i]? = some (a, .int)) (hj : tys[j]? = some (b, .int)) : a = b := by
  have h1 : U.vm.findClass ("[" ++ FieldType.int.toString) = some a := (hK.2 i _ hi).2
  have h2 : U.vm.findClass ("[" ++ FieldType.int.toString) = some b := (hK.2 j _ hj).2
  exact Option.some.inj (h1.symm.trans h2)
theorem ub_sa_byte {D : va_G} {cl : List vw_C} {tys : List (ClassId × FieldType)} {U : State} {a b : ClassId} (hK : va_K D cl tys U) (i j : Nat) (hi : tys[i]? = some (a, .byte)) (hj : tys[j]? = some (b, .byte)) : a = b := by
  have h1 : U.vm.findClass ("[" ++ FieldType.byte.toString) = some a := (hK.2 i _ hi).2
  have h2 : U.vm.findClass ("[" ++ FieldType.byte.toString) = some b := (hK.2 j _ hj).2
  exact Option.some.inj (h1.symm.trans h2)
theorem ub_sa_boolean {D : va_G} {cl : List vw_C} {tys : List (ClassId × FieldType)} {U : State} {a b : ClassId} (hK : va_K D cl tys U) (i j : Nat) (hi : tys[i]? = some (a, .boolean)) (hj : tys[j]? = some (b, .boolean)) : a = b := by
  have h1 : U.vm.findClass ("[" ++ FieldType.boolean.toString) = some a := (hK.2 i _ hi).2
  have h2 : U.vm.findClass ("[" ++ FieldType.boolean.toString) = some b := (hK.2 j _ hj).2
  exact Option.some.inj (h1.symm.trans h2)
/-- the static row of no elements that a fresh list holds -/
def ub_ZE (ed : Nat) (A : Nat → Prop) (U : State) (H : Heap) : Prop := va_Z "java/util/ArrayList" "DEFAULTCAPACITY_EMPTY_ELEMENTDATA" "[Ljava/lang/Object;" (.ref ed) A U H ∧ va_T (.object "java/lang/Object") ed 0 (fun _ => .null) A U H
theorem ub_Z_c {ed : Nat} {A : Nat → Prop} {U : State} {a : Array Value} {g : JFrame} {mk : MethodId} (h : ub_ZE ed A U U.heap) : ub_ZE ed A (U.calling g mk a) (U.calling g mk a).heap :=
  ⟨va_Z.moved (U := U.calling g mk a) (Vm.Alike.refl U.vm) h.1, va_T.moved (U := U.calling g mk a) (Vm.Alike.refl U.vm) h.2⟩
theorem ub_Z_w {ed : Nat} {s U : State} {H : Heap} {locs : List Loc} {A A1 : Nat → Prop} (hU : U.heap = H) (hW : s.WarmedH U.vm) (hS : va_S A s.heap H locs) (hF : ∀ q, A1 q → A q) (h : ub_ZE ed A s s.heap) : ub_ZE ed A1 U U.heap := by
  rw [hU]
  exact ⟨va_Z.moved hW.alike ((h.1.kept hS.2.1).narrow hF), va_T.moved hW.alike ((h.2.kept hS.2.1).narrow hF)⟩
/-- a text of 14 signs -/
def ub_SQ (qs : Nat) (A : Nat → Prop) (U : State) (H : Heap) : Prop := va_O "java/lang/String" qs A U H ∧ va_OF "java/lang/String" "coder" "B" (.int 0) qs A U H ∧ (∃ vs : Nat, va_OF "java/lang/String" "value" "[B" (.ref vs) qs A U H ∧ ∃ fb : Nat → Value, va_T .byte vs 14 fb A U H) ∧ va_Z "java/lang/String" "COMPACT_STRINGS" "Z" (.int 1) A U H
theorem ub_Q_c {qs : Nat} {A : Nat → Prop} {U : State} {a : Array Value} {g : JFrame} {mk : MethodId} (h : ub_SQ qs A U U.heap) : ub_SQ qs A (U.calling g mk a) (U.calling g mk a).heap := by
  obtain ⟨h1, h2, ⟨vs, h3, fb, h4⟩, h5⟩ := h
  exact ⟨va_O.moved (U := U.calling g mk a) (Vm.Alike.refl U.vm) h1, va_OF.moved (U := U.calling g mk a) (Vm.Alike.refl U.vm) h2, ⟨vs, va_OF.moved (U := U.calling g mk a) (Vm.Alike.refl U.vm) h3, fb, va_T.moved (U := U.calling g mk a) (Vm.Alike.refl U.vm) h4⟩, va_Z.moved (U := U.calling g mk a) (Vm.Alike.refl U.vm) h5⟩
theorem ub_SQ_n {qs : Nat} {s U : State} {H : Heap} {locs : List Loc} {A A1 : Nat → Prop} (hU : U.heap = H) (hW : s.WarmedH U.vm) (hS : va_S A s.heap H locs) (hF : ∀ q, A1 q → A q) (h : ub_SQ qs A s s.heap) : ub_SQ qs A1 U U.heap := by
  obtain ⟨h1, h2, ⟨vs, h3, fb, h4⟩, h5⟩ := h
  rw [hU]
  exact ⟨va_O.moved hW.alike ((h1.kept hS.2.1).narrow hF), va_OF.moved hW.alike ((h2.kept hS.2.1).narrow hF), ⟨vs, va_OF.moved hW.alike ((h3.kept hS.2.1).narrow hF), fb, va_T.moved hW.alike ((h4.kept hS.2.1).narrow hF)⟩, va_Z.moved hW.alike ((h5.kept hS.2.1).narrow hF)⟩
theorem ub_Q_w {qs : Nat} {s U : State} {H : Heap} {locs : List Loc} {A : Nat → Prop} (hU : U.heap = H) (hW : s.WarmedH U.vm) (hS : va_S A s.heap H locs) (h : ub_SQ qs A s s.heap) : ub_SQ qs (fun _ => False) U U.heap := ub_SQ_n hU hW hS (fun _ hh => hh.elim) h
/-- the text of the letters, whose length is asked -/
def ub_SL (A : Nat → Prop) (U : State) (H : Heap) : Prop := ∃ qs : Nat, vk_R RX0 33 "lswkrefcdghumo" qs U ∧ ub_SQ qs A U H
theorem ub_L_c {A : Nat → Prop} {U : State} {a : Array Value} {g : JFrame} {mk : MethodId} (h : ub_SL A U U.heap) : ub_SL A (U.calling g mk a) (U.calling g mk a).heap := by
  obtain ⟨qs, h1, h2⟩ := h
  exact ⟨qs, vk_R.same rfl h1, ub_Q_c h2⟩
theorem ub_L_w {s U : State} {H : Heap} {locs : List Loc} {A A1 : Nat → Prop} (hU : U.heap = H) (hW : s.WarmedH U.vm) (hS : va_S A s.heap H locs) (hF : ∀ q, A1 q → A q) (h : ub_SL A s s.heap) : ub_SL A1 U U.heap := by
  obtain ⟨qs, h1, h2⟩ := h
  exact ⟨qs, vk_R.warm hW h1, ub_SQ_n hU hW hS hF h2⟩
def ub_KO (U : State) : Prop := va_Nw (.castable RX5 "java/lang/Object") U ∧ va_AO "java/lang/Object" U
theorem ub_KO_c {U : State} {a : Array Value} {g : JFrame} {mk : MethodId} (h : ub_KO U) : ub_KO (U.calling g mk a) := ⟨va_Nw.same rfl rfl h.1, va_AO.moved (U := U.calling g mk a) (Vm.Alike.refl U.vm) h.2⟩
theorem ub_KO_w {s U : State} {H : Heap} {locs : List Loc} {A A1 : Nat → Prop} (_ : U.heap = H) (hW : s.WarmedH U.vm) (_ : va_S A s.heap H locs) (_ : ∀ q, A1 q → A q) (h : ub_KO s) : ub_KO U := ⟨va_Nw.warmC hW h.1, va_AO.moved hW.alike h.2⟩

def A_c_ACinit : List Cond := [.instanceMethod objectInit, .code objectInit ⟨#[0xb1]⟩ 1 none, .methodLink RJxa1e45 1 objectInit]
def v_c_ACinit : List Cond := .code yJxa1e45_init_da8c8 cJxa1e45_init_da8c8 1 none :: (A_c_ACinit)
set_option maxHeartbeats 4000000 in
set_option maxRecDepth 100000 in
theorem c_ACinit (l : Launch) (dC : Nat → ClassId) (dI : Nat → Nat → Nat) (a : Nat) (sz : Nat)  : Met l yJxa1e45_init_da8c8 v_c_ACinit ({ frames := 1, cells := 0, slots := 0, locals := 40 }) (va_Pc [.ref a] (fun U => U.heap.size = sz ∧ va_P (dC, dI) vwCl [(a, .inr (0, [.int 0, .null, .int 0]))] U.heap ∧ va_K (dC, dI) vwCl [] U ∧ va_D (fun _ => True) [(a, .inr (0, [.int 0, .null, .int 0]))])) (va_Qv (S := Unit) (fun _ => True) (fun u t => va_P (dC, dI) vwCl [(a, .inr (0, [.int 0, .null, .int 0]))] t.heap ∧ va_K (dC, dI) vwCl [] t ∧ va_D (va_A [(a, .inr (0, [.int 0, .null, .int 0]))] sz) [(a, .inr (0, [.int 0, .null, .int 0]))]) (va_A [(a, .inr (0, [.int 0, .null, .int 0]))] sz)) 0 0 (va_A [(a, .inr (0, [.int 0, .null, .int 0]))] sz) := by
  refine Met.ofW (cc := cJxa1e45_init_da8c8) (maxL := 1) (ret := none) (by decide) rfl ?_
  intro p e s m args below meth c s₁ B hml hv
  obtain ⟨rfl, hsz, hP, hK, hD0⟩ := hv
  have hx := B.exec
  have hb := B.bytes
  have hr := B.returns
  have hts := atoms_spec (ws := v_c_ACinit) B.pre
  have hown : s.vm.findClass RJxa1e45 = some m.cls := findClass_of_methodNamed B.named
  have hlocks := B.notSynchronized
  have hin : meth.name = "<init>" := (name_of_methodNamed B.named B.method).1
  subst hsz
  have hD := hD0.self (sz := s.heap.size)
  generalize hAe : va_A [(a, .inr (0, [.int 0, .null, .int 0]))] s.heap.size = A at hD ⊢
  have hA : ∀ q : Nat, s.heap.size ≤ q → A q := fun q h => by rw [← hAe]; exact Or.inr h
  have hS : va_S A s.heap s.heap [] := va_S.rf
  have hP : va_P (dC, dI) vwCl [(a, .inr (0, [.int 0, .null, .int 0]))] s.heap := hP
  have hl := lv_entry ([.ref a]) (n := 1) (Nat.le_of_ble_eq_true rfl)
  rw [lg_entry_eq]
  generalize (lg_sl ([.ref a]) ++ List.replicate (1 - (lg_sl ([.ref a])).length) Slot.unset).toArray = ls at hl ⊢
  have hl : lv_has ls 1 [(0, .ref a)] := hl
  refine lv_aload_n hx hb dJxa1e45_init_da8c8_0 rfl (lv_at hl 0 rfl) ?_
  refine W.objInit hx hb hown (hts (.methodLink RJxa1e45 1 objectInit) (List.mem_of_getElem? (i := 3) rfl)) (hts (.instanceMethod objectInit) (List.mem_of_getElem? (i := 1) rfl)) (hts (.code objectInit ⟨#[0xb1]⟩ 1 none) (List.mem_of_getElem? (i := 2) rfl)) rfl (by rw [hml]; exact hl.1) rfl dJxa1e45_init_da8c8_1 (Nat.le_of_ble_eq_true rfl) (Nat.le_of_ble_eq_true rfl) ?_
  refine W.eq (g2 := F0 m 4 ls []) rfl ?_
  have hP9 := hP.sub (ws' := [(a, .inr (0, [.int 0, .null, .int 0]))]) [0] rfl
  have hD9 := hD.sub (ws' := [(a, .inr (0, [.int 0, .null, .int 0]))]) [0] (by decide) rfl
  have hK9 := hK.sub (tys' := []) [] rfl
  exact W.vret hx hb hr (fun t ht hW => ⟨⟨(), rfl, trivial, (by rw [ht]; exact hP9), va_K.moved hW.alike hK9, hD9⟩, hS.F ht⟩) hS.2.2 dJxa1e45_init_da8c8_4
def A_c_ALinit0 : List Cond := [.initialized RJxa1e45, .methodLink RJxc12de 1 yJxa1e45_init_da8c8, .instanceMethod yJxa1e45_init_da8c8, .fieldLink RJxc12de 7 "java/util/AbstractList" "modCount" "I", .code yJxa1e45_init_da8c8 cJxa1e45_init_da8c8 1 none, .instanceMethod objectInit, .code objectInit ⟨#[0xb1]⟩ 1 none, .methodLink RJxa1e45 1 objectInit]
def v_c_ALinit0 : List Cond := .code yJxc12de_init_da8c8 cJxc12de_init_da8c8 1 none :: (A_c_ALinit0 ++ wsJx4a65c0)
theorem iw_c_ALinit0_Jx4a65c : ∀ w ∈ wsJx4a65c0, w ∈ v_c_ALinit0 := fun _ h => List.mem_cons_of_mem _ (List.mem_append_right _ (h))
theorem gb_c_ALinit0_c_ACinit0 : GoodIn v_c_ALinit0 (.code yJxa1e45_init_da8c8 cJxa1e45_init_da8c8 1 none :: A_c_ACinit) := (List.forall_mem_cons.mpr ⟨⟨List.mem_of_getElem? (i := 5) rfl, good_of_word rfl⟩, (List.forall_mem_cons.mpr ⟨⟨List.mem_of_getElem? (i := 6) rfl, good_of_word rfl⟩, (List.forall_mem_cons.mpr ⟨⟨List.mem_of_getElem? (i := 7) rfl, good_of_word rfl⟩, (List.forall_mem_cons.mpr ⟨⟨List.mem_of_getElem? (i := 8) rfl, good_of_word rfl⟩, (fun _ h => nomatch h)⟩)⟩)⟩)⟩)
theorem gb_c_ALinit0_c_ACinit : GoodIn v_c_ALinit0 v_c_ACinit := gb_c_ALinit0_c_ACinit0
theorem g_c_ALinit0_c_ACinit : GoodIn v_c_ALinit0 (v_c_ACinit) := gb_c_ALinit0_c_ACinit
set_option maxHeartbeats 4000000 in
set_option maxRecDepth 100000 in
theorem c_ALinit0 (l : Launch) (dC : Nat → ClassId) (dI : Nat → Nat → Nat) (a : Nat) (sz : Nat)  : Met l yJxc12de_init_da8c8 v_c_ALinit0 ({ frames := 2, cells := 0, slots := 0, locals := 80 }) (va_Pc [.ref a] (fun U => U.heap.size = sz ∧ va_P (dC, dI) vwCl [(a, .inr (0, [.int 0, .null, .int 0]))] U.heap ∧ va_K (dC, dI) vwCl [] U ∧ va_D (fun _ => True) [(a, .inr (0, [.int 0, .null, .int 0]))])) (va_Qv (S := Unit) (fun _ => True) (fun u t => va_P (dC, dI) vwCl [(a, .inr (0, [.int 0, .null, .int 0]))] t.heap ∧ va_K (dC, dI) vwCl [] t ∧ va_D (va_A [(a, .inr (0, [.int 0, .null, .int 0]))] sz) [(a, .inr (0, [.int 0, .null, .int 0]))]) (va_A [(a, .inr (0, [.int 0, .null, .int 0]))] sz)) 0 0 (va_A [(a, .inr (0, [.int 0, .null, .int 0]))] sz) := by
  refine Met.ofW (cc := cJxc12de_init_da8c8) (maxL := 1) (ret := none) (by decide) rfl ?_
  intro p e s m args below meth c s₁ B hml hv
  obtain ⟨rfl, hsz, hP, hK, hD0⟩ := hv
  have hx := B.exec
  have hb := B.bytes
  have hr := B.returns
  have hts := atoms_spec (ws := v_c_ALinit0) B.pre
  have hown : s.vm.findClass RJxc12de = some m.cls := findClass_of_methodNamed B.named
  have hlocks := B.notSynchronized
  have hin : meth.name = "<init>" := (name_of_methodNamed B.named B.method).1
  subst hsz
  have hD := hD0.self (sz := s.heap.size)
  generalize hAe : va_A [(a, .inr (0, [.int 0, .null, .int 0]))] s.heap.size = A at hD ⊢
  have hA : ∀ q : Nat, s.heap.size ≤ q → A q := fun q h => by rw [← hAe]; exact Or.inr h
  have hS : va_S A s.heap s.heap [] := va_S.rf
  have hP : va_P (dC, dI) vwCl [(a, .inr (0, [.int 0, .null, .int 0]))] s.heap := hP
  have hl := lv_entry ([.ref a]) (n := 1) (Nat.le_of_ble_eq_true rfl)
  rw [lg_entry_eq]
  generalize (lg_sl ([.ref a]) ++ List.replicate (1 - (lg_sl ([.ref a])).length) Slot.unset).toArray = ls at hl ⊢
  have hl : lv_has ls 1 [(0, .ref a)] := hl
  refine lv_aload_n hx hb dJxc12de_init_da8c8_0 rfl (lv_at hl 0 rfl) ?_
  have hPc := hP.sub (ws' := [(a, .inr (0, [.int 0, .null, .int 0]))]) [0] rfl
  have hKc := hK.sub (tys' := []) [] rfl
  have hDc := hD.sub (ws' := [(a, .inr (0, [.int 0, .null, .int 0]))]) [0] (by decide) rfl
  have hFc := va_free (wc := [(a, .inr (0, [.int 0, .null, .int 0]))]) hD hS hA [0] rfl
  refine va_callv (va_runI (As := []) (rest := []) ⟨hx, hb, hml, hown, hts⟩ (c_ACinit l dC dI a s.heap.size) (cwI 0 hts g_c_ALinit0_c_ACinit rfl rfl rfl (hts (.initialized RJxa1e45) (List.mem_of_getElem? (i := 1) rfl)) (hts (.methodLink RJxc12de 1 yJxa1e45_init_da8c8) (List.mem_of_getElem? (i := 2) rfl)) (hts (.instanceMethod yJxa1e45_init_da8c8) (List.mem_of_getElem? (i := 3) rfl)) rfl (by decide +kernel) ⟨Nat.le_of_ble_eq_true rfl, Nat.le_of_ble_eq_true rfl⟩) ⟨fun a U g mk q => by obtain ⟨e0, e1, qP, qK, qD⟩ := q; exact ⟨e0, e1, qP, va_K.moved (u := U) (U := U.calling g mk a) (Vm.Alike.refl U.vm) qK, qD⟩, fun U hU hW => ⟨rfl, by rw [hU], by rw [hU]; exact hPc, va_K.moved hW.alike hKc, hDc.weaken (fun _ _ _ _ => trivial)⟩⟩ rfl rfl hl.1 rfl (lv_room (Nat.le_of_ble_eq_true rfl)) dJxc12de_init_da8c8_1 ⟨Nat.le_of_ble_eq_true rfl, Nat.le_of_ble_eq_true rfl⟩) hS (fun q _ h => hFc q h) hFc (fun u2 t H1 locs ht hvm hw hB hz1 hk1 hS => ?_)
  obtain ⟨hP1, hK1, hD1⟩ := hB
  rw [ht] at hP1
  obtain ⟨hP, hD⟩ := va_join (wr := []) (w1 := [(a, .inr (0, [.int 0, .null, .int 0]))]) hP hD [0] [] rfl rfl (by decide) (by decide) hk1 hFc hP1 hD1
  generalize H1 = H at hP hS ⊢
  have hP : va_P (dC, dI) vwCl [(a, .inr (0, [.int 0, .null, .int 0]))] H := hP
  have hD : va_D A [(a, .inr (0, [.int 0, .null, .int 0]))] := hD
  refine W.widen (k := 0) (n := 0) (by omega) (by omega) ?_
  refine lv_aload_n hx hb dJxc12de_init_da8c8_4 rfl (lv_at hl 0 rfl) ?_
  refine lv_iconst (v := 0) hx hb dJxc12de_init_da8c8_5 (by decide) ?_
  refine va_put (D := (dC, dI)) (ci := 0) (v := .int 0) (ty := .int) (C := RJx4a65c) (T := TJx4a65c) (N := 3) hx hb hts iw_c_ALinit0_Jx4a65c tyJx4a65c tyJx4a65c_ok nmJx4a65c hown hK hP hD hS 0 rfl rfl 0 (by decide) (hts (.fieldLink RJxc12de 7 "java/util/AbstractList" "modCount" "I") (List.mem_of_getElem? (i := 4) rfl)) (fun _ h9 => h9) rfl (by decide +kernel) rfl rfl (Nat.le_of_ble_eq_true rfl) dJxc12de_init_da8c8_6 (fun H locs hP hD hS => ?_)
  have hP : va_P (dC, dI) vwCl [(a, .inr (0, [.int 0, .null, .int 0]))] H := hP
  have hD : va_D A [(a, .inr (0, [.int 0, .null, .int 0]))] := hD
  have hP9 := hP.sub (ws' := [(a, .inr (0, [.int 0, .null, .int 0]))]) [0] rfl
  have hD9 := hD.sub (ws' := [(a, .inr (0, [.int 0, .null, .int 0]))]) [0] (by decide) rfl
  have hK9 := hK.sub (tys' := []) [] rfl
  exact W.vret hx hb hr (fun t ht hW => ⟨⟨(), rfl, trivial, (by rw [ht]; exact hP9), va_K.moved hW.alike hK9, hD9⟩, hS.F ht⟩) hS.2.2 dJxc12de_init_da8c8_9
def A_c_ALinit : List Cond := [.initialized RJxc12de, .methodLink RJx4a65c 1 yJxc12de_init_da8c8, .instanceMethod yJxc12de_init_da8c8, .fieldLink RJx4a65c 39 "java/util/ArrayList" "DEFAULTCAPACITY_EMPTY_ELEMENTDATA" "[Ljava/lang/Object;", .fieldLink RJx4a65c 9 "java/util/ArrayList" "elementData" "[Ljava/lang/Object;", .code yJxc12de_init_da8c8 cJxc12de_init_da8c8 1 none, .initialized RJxa1e45, .methodLink RJxc12de 1 yJxa1e45_init_da8c8, .instanceMethod yJxa1e45_init_da8c8, .fieldLink RJxc12de 7 "java/util/AbstractList" "modCount" "I", .code yJxa1e45_init_da8c8 cJxa1e45_init_da8c8 1 none, .instanceMethod objectInit, .code objectInit ⟨#[0xb1]⟩ 1 none, .methodLink RJxa1e45 1 objectInit]
def v_c_ALinit : List Cond := .code yJx4a65c_init_da8c8 cJx4a65c_init_da8c8 1 none :: (A_c_ALinit ++ wsJx4a65c0)
theorem iw_c_ALinit_Jx4a65c : ∀ w ∈ wsJx4a65c0, w ∈ v_c_ALinit := fun _ h => List.mem_cons_of_mem _ (List.mem_append_right _ (h))
theorem gb_c_ALinit_c_ALinit00 : GoodIn v_c_ALinit (.code yJxc12de_init_da8c8 cJxc12de_init_da8c8 1 none :: A_c_ALinit0) := (List.forall_mem_cons.mpr ⟨⟨List.mem_of_getElem? (i := 6) rfl, good_of_word rfl⟩, (List.forall_mem_cons.mpr ⟨⟨List.mem_of_getElem? (i := 7) rfl, good_of_word rfl⟩, (List.forall_mem_cons.mpr ⟨⟨List.mem_of_getElem? (i := 8) rfl, good_of_word rfl⟩, (List.forall_mem_cons.mpr ⟨⟨List.mem_of_getElem? (i := 9) rfl, good_of_word rfl⟩, (List.forall_mem_cons.mpr ⟨⟨List.mem_of_getElem? (i := 10) rfl, good_of_word rfl⟩, (List.forall_mem_cons.mpr ⟨⟨List.mem_of_getElem? (i := 11) rfl, good_of_word rfl⟩, (List.forall_mem_cons.mpr ⟨⟨List.mem_of_getElem? (i := 12) rfl, good_of_word rfl⟩, (List.forall_mem_cons.mpr ⟨⟨List.mem_of_getElem? (i := 13) rfl, good_of_word rfl⟩, (List.forall_mem_cons.mpr ⟨⟨List.mem_of_getElem? (i := 14) rfl, good_of_word rfl⟩, (fun _ h => nomatch h)⟩)⟩)⟩)⟩)⟩)⟩)⟩)⟩)⟩)
theorem gb_c_ALinit_c_ALinit0 : GoodIn v_c_ALinit v_c_ALinit0 := (goodIn_ca gb_c_ALinit_c_ALinit00 (goodIn_sub iw_c_ALinit_Jx4a65c gw_Jx4a65c))
theorem g_c_ALinit_c_ALinit0 : GoodIn v_c_ALinit (v_c_ALinit0) := gb_c_ALinit_c_ALinit0
set_option maxHeartbeats 4000000 in
set_option maxRecDepth 100000 in
theorem c_ALinit (l : Launch) (dC : Nat → ClassId) (dI : Nat → Nat → Nat) (a : Nat) (ed : Nat) (sz : Nat)  : Met l yJx4a65c_init_da8c8 v_c_ALinit ({ frames := 3, cells := 0, slots := 0, locals := 120 }) (va_Pc [.ref a] (fun U => U.heap.size = sz ∧ va_P (dC, dI) vwCl [(a, .inr (0, [.int 0, .null, .int 0]))] U.heap ∧ va_K (dC, dI) vwCl [] U ∧ va_D (fun _ => True) [(a, .inr (0, [.int 0, .null, .int 0]))] ∧ ub_ZE ed (va_A [(a, .inr (0, [.int 0, .null, .int 0]))] sz) U U.heap)) (va_Qv (S := Unit) (fun _ => True) (fun u t => va_P (dC, dI) vwCl [(a, .inr (0, [.int 0, .ref ed, .int 0]))] t.heap ∧ va_K (dC, dI) vwCl [] t ∧ va_D (va_A [(a, .inr (0, [.int 0, .null, .int 0]))] sz) [(a, .inr (0, [.int 0, .ref ed, .int 0]))]) (va_A [(a, .inr (0, [.int 0, .null, .int 0]))] sz)) 0 0 (va_A [(a, .inr (0, [.int 0, .null, .int 0]))] sz) := by
  refine Met.ofW (cc := cJx4a65c_init_da8c8) (maxL := 1) (ret := none) (by decide) rfl ?_
  intro p e s m args below meth c s₁ B hml hv
  obtain ⟨rfl, hsz, hP, hK, hD0, hZ⟩ := hv
  have hx := B.exec
  have hb := B.bytes
  have hr := B.returns
  have hts := atoms_spec (ws := v_c_ALinit) B.pre
  have hown : s.vm.findClass RJx4a65c = some m.cls := findClass_of_methodNamed B.named
  have hlocks := B.notSynchronized
  have hin : meth.name = "<init>" := (name_of_methodNamed B.named B.method).1
  subst hsz
  have hD := hD0.self (sz := s.heap.size)
  generalize hAe : va_A [(a, .inr (0, [.int 0, .null, .int 0]))] s.heap.size = A at hD ⊢
  have hA : ∀ q : Nat, s.heap.size ≤ q → A q := fun q h => by rw [← hAe]; exact Or.inr h
  try rw [hAe] at hZ
  have hS : va_S A s.heap s.heap [] := va_S.rf
  have hP : va_P (dC, dI) vwCl [(a, .inr (0, [.int 0, .null, .int 0]))] s.heap := hP
  have hl := lv_entry ([.ref a]) (n := 1) (Nat.le_of_ble_eq_true rfl)
  rw [lg_entry_eq]
  generalize (lg_sl ([.ref a]) ++ List.replicate (1 - (lg_sl ([.ref a])).length) Slot.unset).toArray = ls at hl ⊢
  have hl : lv_has ls 1 [(0, .ref a)] := hl
  refine lv_aload_n hx hb dJx4a65c_init_da8c8_0 rfl (lv_at hl 0 rfl) ?_
  have hPc := hP.sub (ws' := [(a, .inr (0, [.int 0, .null, .int 0]))]) [0] rfl
  have hKc := hK.sub (tys' := []) [] rfl
  have hDc := hD.sub (ws' := [(a, .inr (0, [.int 0, .null, .int 0]))]) [0] (by decide) rfl
  have hFc := va_free (wc := [(a, .inr (0, [.int 0, .null, .int 0]))]) hD hS hA [0] rfl
  refine va_callv (va_runI (As := []) (rest := []) ⟨hx, hb, hml, hown, hts⟩ (c_ALinit0 l dC dI a s.heap.size) (cwI 0 hts g_c_ALinit_c_ALinit0 rfl rfl rfl (hts (.initialized RJxc12de) (List.mem_of_getElem? (i := 1) rfl)) (hts (.methodLink RJx4a65c 1 yJxc12de_init_da8c8) (List.mem_of_getElem? (i := 2) rfl)) (hts (.instanceMethod yJxc12de_init_da8c8) (List.mem_of_getElem? (i := 3) rfl)) rfl (by decide +kernel) ⟨Nat.le_of_ble_eq_true rfl, Nat.le_of_ble_eq_true rfl⟩) ⟨fun a U g mk q => by obtain ⟨e0, e1, qP, qK, qD⟩ := q; exact ⟨e0, e1, qP, va_K.moved (u := U) (U := U.calling g mk a) (Vm.Alike.refl U.vm) qK, qD⟩, fun U hU hW => ⟨rfl, by rw [hU], by rw [hU]; exact hPc, va_K.moved hW.alike hKc, hDc.weaken (fun _ _ _ _ => trivial)⟩⟩ rfl rfl hl.1 rfl (lv_room (Nat.le_of_ble_eq_true rfl)) dJx4a65c_init_da8c8_1 ⟨Nat.le_of_ble_eq_true rfl, Nat.le_of_ble_eq_true rfl⟩) hS (fun q _ h => hFc q h) hFc (fun u2 t H1 locs ht hvm hw hB hz1 hk1 hS => ?_)
  obtain ⟨hP1, hK1, hD1⟩ := hB
  rw [ht] at hP1
  obtain ⟨hP, hD⟩ := va_join (wr := []) (w1 := [(a, .inr (0, [.int 0, .null, .int 0]))]) hP hD [0] [] rfl rfl (by decide) (by decide) hk1 hFc hP1 hD1
  generalize H1 = H at hP hS ⊢
  have hP : va_P (dC, dI) vwCl [(a, .inr (0, [.int 0, .null, .int 0]))] H := hP
  have hD : va_D A [(a, .inr (0, [.int 0, .null, .int 0]))] := hD
  refine W.widen (k := 0) (n := 0) (by omega) (by omega) ?_
  refine lv_aload_n hx hb dJx4a65c_init_da8c8_4 rfl (lv_at hl 0 rfl) ?_
  refine va_gets hx hb hZ.1 hS hown (hts (.fieldLink RJx4a65c 39 "java/util/ArrayList" "DEFAULTCAPACITY_EMPTY_ELEMENTDATA" "[Ljava/lang/Object;") (List.mem_of_getElem? (i := 4) rfl)) (fun _ h9 => h9) dJx4a65c_init_da8c8_5 ?_
  refine va_put (D := (dC, dI)) (ci := 0) (v := .ref ed) (ty := .array (.object "java/lang/Object")) (C := RJx4a65c) (T := TJx4a65c) (N := 3) hx hb hts iw_c_ALinit_Jx4a65c tyJx4a65c tyJx4a65c_ok nmJx4a65c hown hK hP hD hS 0 rfl rfl 1 (by decide) (hts (.fieldLink RJx4a65c 9 "java/util/ArrayList" "elementData" "[Ljava/lang/Object;") (List.mem_of_getElem? (i := 5) rfl)) (fun _ h9 => h9) rfl (by decide +kernel) rfl rfl (Nat.le_of_ble_eq_true rfl) dJx4a65c_init_da8c8_8 (fun H locs hP hD hS => ?_)
  have hP : va_P (dC, dI) vwCl [(a, .inr (0, [.int 0, .ref ed, .int 0]))] H := hP
  have hD : va_D A [(a, .inr (0, [.int 0, .ref ed, .int 0]))] := hD
  have hP9 := hP.sub (ws' := [(a, .inr (0, [.int 0, .ref ed, .int 0]))]) [0] rfl
  have hD9 := hD.sub (ws' := [(a, .inr (0, [.int 0, .ref ed, .int 0]))]) [0] (by decide) rfl
  have hK9 := hK.sub (tys' := []) [] rfl
  exact W.vret hx hb hr (fun t ht hW => ⟨⟨(), rfl, trivial, (by rw [ht]; exact hP9), va_K.moved hW.alike hK9, hD9⟩, hS.F ht⟩) hS.2.2 dJx4a65c_init_da8c8_11
def A_c_grow1 : List Cond := [.fieldLink RJx4a65c 9 "java/util/ArrayList" "elementData" "[Ljava/lang/Object;", .fieldLink RJx4a65c 39 "java/util/ArrayList" "DEFAULTCAPACITY_EMPTY_ELEMENTDATA" "[Ljava/lang/Object;", .methodLink RJx4a65c 79 Lib.Math.max.name, .static Lib.Math.max.name, .initialized "java/lang/Math", .code Lib.Math.max.name Lib.Math.max.code 2 (some .int), .classLink RJx4a65c 7 "java/lang/Object"]
def v_c_grow1 : List Cond := .code yJx4a65c_grow_92f84 cJx4a65c_grow_92f84 4 (some (.array (.object "java/lang/Object"))) :: (A_c_grow1 ++ wsJx4a65c0)
theorem iw_c_grow1_Jx4a65c : ∀ w ∈ wsJx4a65c0, w ∈ v_c_grow1 := fun _ h => List.mem_cons_of_mem _ (List.mem_append_right _ (h))
set_option maxHeartbeats 4000000 in
set_option maxRecDepth 100000 in
theorem c_grow1 (l : Launch) (dC : Nat → ClassId) (dI : Nat → Nat → Nat) (a : Nat) (ed : Nat) (sz : Nat)  : Met l yJx4a65c_grow_92f84 v_c_grow1 ({ frames := 1, cells := 1, slots := 10, locals := 40 }) (va_Pc [.ref a, .int 1] (fun U => U.heap.size = sz ∧ va_P (dC, dI) vwCl [(a, .inr (0, [.int 1, .ref ed, .int 0]))] U.heap ∧ va_K (dC, dI) vwCl [] U ∧ va_D (fun _ => True) [(a, .inr (0, [.int 1, .ref ed, .int 0]))] ∧ ub_ZE ed (va_A [(a, .inr (0, [.int 1, .ref ed, .int 0]))] sz) U U.heap ∧ ub_KO U)) (va_Qr (S := ClassId) (fun _ => True) (fun u r t => match u with | (cO) => va_P (dC, dI) vwCl [(a, .inr (0, [.int 1, .ref r, .int 0])), (r, .inl (cO, 10, .inr (.inr (.inr (.inr (fun _ => none))))))] t.heap ∧ va_K (dC, dI) vwCl [(cO, .object "java/lang/Object")] t ∧ va_D (va_A [(a, .inr (0, [.int 1, .ref ed, .int 0]))] sz) [(a, .inr (0, [.int 1, .ref r, .int 0])), (r, .inl (cO, 10, .inr (.inr (.inr (.inr (fun _ => none))))))]) (va_A [(a, .inr (0, [.int 1, .ref ed, .int 0]))] sz)) 1 10 (va_A [(a, .inr (0, [.int 1, .ref ed, .int 0]))] sz) := by
  refine Met.ofW (cc := cJx4a65c_grow_92f84) (maxL := 4) (ret := (some (.array (.object "java/lang/Object")))) (by decide) rfl ?_
  intro p e s m args below meth c s₁ B hml hv
  obtain ⟨rfl, hsz, hP, hK, hD0, hZ, hKO⟩ := hv
  have hx := B.exec
  have hb := B.bytes
  have hr := B.returns
  have hts := atoms_spec (ws := v_c_grow1) B.pre
  have hown : s.vm.findClass RJx4a65c = some m.cls := findClass_of_methodNamed B.named
  have hlocks := B.notSynchronized
  subst hsz
  have hD := hD0.self (sz := s.heap.size)
  generalize hAe : va_A [(a, .inr (0, [.int 1, .ref ed, .int 0]))] s.heap.size = A at hD ⊢
  have hA : ∀ q : Nat, s.heap.size ≤ q → A q := fun q h => by rw [← hAe]; exact Or.inr h
  try rw [hAe] at hZ
  try rw [hAe] at hKO
  have hS : va_S A s.heap s.heap [] := va_S.rf
  have hP : va_P (dC, dI) vwCl [(a, .inr (0, [.int 1, .ref ed, .int 0]))] s.heap := hP
  have hl := lv_entry ([.ref a, .int 1]) (n := 4) (Nat.le_of_ble_eq_true rfl)
  rw [lg_entry_eq]
  generalize (lg_sl ([.ref a, .int 1]) ++ List.replicate (4 - (lg_sl ([.ref a, .int 1])).length) Slot.unset).toArray = ls at hl ⊢
  have hl : lv_has ls 4 [(0, .ref a), (1, .int 1)] := hl
  refine lv_aload_n hx hb dJx4a65c_grow_92f84_0 rfl (lv_at hl 0 rfl) ?_
  refine va_get (D := (dC, dI)) (ci := 0) (v := .ref ed) (C := RJx4a65c) (T := TJx4a65c) (N := 3) hx hb hts iw_c_grow1_Jx4a65c hown hK hP 0 rfl rfl 1 (by decide) (hts (.fieldLink RJx4a65c 9 "java/util/ArrayList" "elementData" "[Ljava/lang/Object;") (List.mem_of_getElem? (i := 1) rfl)) (fun _ h9 => h9) rfl dJx4a65c_grow_92f84_1 ?_
  refine va_tlen (v := 0) hx hb hZ.2 hS rfl dJx4a65c_grow_92f84_4 ?_
  refine lv_istore_n (lv' := [(2, .int 0), (0, .ref a), (1, .int 1)]) hx hb dJx4a65c_grow_92f84_5 rfl hl (by decide) rfl (fun ls hl => ?_)
  refine lv_iload_n hx hb dJx4a65c_grow_92f84_6 rfl (lv_at hl 0 rfl) ?_
  refine lv_if_gt (tgt := 20) hx hb dJx4a65c_grow_92f84_7 (by decide) (fun c1 => by first | exact absurd c1 (by decide) | exact absurd (by decide) c1) (fun c1 => ?_)
  refine lv_aload_n hx hb dJx4a65c_grow_92f84_10 rfl (lv_at hl 1 rfl) ?_
  refine va_get (D := (dC, dI)) (ci := 0) (v := .ref ed) (C := RJx4a65c) (T := TJx4a65c) (N := 3) hx hb hts iw_c_grow1_Jx4a65c hown hK hP 0 rfl rfl 1 (by decide) (hts (.fieldLink RJx4a65c 9 "java/util/ArrayList" "elementData" "[Ljava/lang/Object;") (List.mem_of_getElem? (i := 1) rfl)) (fun _ h9 => h9) rfl dJx4a65c_grow_92f84_11 ?_
  refine va_gets hx hb hZ.1 hS hown (hts (.fieldLink RJx4a65c 39 "java/util/ArrayList" "DEFAULTCAPACITY_EMPTY_ELEMENTDATA" "[Ljava/lang/Object;") (List.mem_of_getElem? (i := 2) rfl)) (fun _ h9 => h9) dJx4a65c_grow_92f84_14 ?_
  refine lv_acmp_eq (rx := some ed) (ry := some ed) (tgt := 45) hx hb dJx4a65c_grow_92f84_17 (by decide) (fun _ => ?_) (fun hh => absurd rfl hh)
  refine lv_aload_n hx hb dJx4a65c_grow_92f84_45 rfl (lv_at hl 1 rfl) ?_
  refine lv_bipush (v := 10) hx hb dJx4a65c_grow_92f84_46 (by decide) ?_
  refine lv_iload_n hx hb dJx4a65c_grow_92f84_48 rfl (lv_at hl 2 rfl) ?_
  refine va_mmax hx hb (by rw [hml]; exact hl.1.symm) hown (hts (.methodLink RJx4a65c 79 Lib.Math.max.name) (List.mem_of_getElem? (i := 3) rfl)) (hts (.static Lib.Math.max.name) (List.mem_of_getElem? (i := 4) rfl)) (hts (.initialized "java/lang/Math") (List.mem_of_getElem? (i := 5) rfl)) (hts (.code Lib.Math.max.name Lib.Math.max.code 2 (some .int)) (List.mem_of_getElem? (i := 6) rfl)) (Nat.le_of_ble_eq_true rfl) (Nat.le_of_ble_eq_true rfl) (Nat.le_of_ble_eq_true rfl) (Nat.le_of_ble_eq_true rfl) dJx4a65c_grow_92f84_49 ?_
  refine lv_topi (fun y2 ey2 => ?_)
  obtain rfl : (10 : Int32) = y2 := (ey2.trans (by decide)).symm
  refine va_newq (C := "java/lang/Object") (N' := 10) hx hb hown (hts (.classLink RJx4a65c 7 "java/lang/Object") (List.mem_of_getElem? (i := 7) rfl)) hKO.2 hK hP hD hS hA (by decide) (by decide) (Nat.le_of_ble_eq_true rfl) (Nat.le_of_ble_eq_true rfl) (Nat.le_of_ble_eq_true rfl) dJx4a65c_grow_92f84_52 (fun q3 kq3 H hK hP hD hS => ?_)
  have hK : va_K (dC, dI) vwCl [(kq3, .object "java/lang/Object")] s := hK
  have hP : va_P (dC, dI) vwCl [(a, .inr (0, [.int 1, .ref ed, .int 0])), (q3, .inl (kq3, 10, .inr (.inr (.inr (.inr (fun _ => none))))))] H := hP
  have hD : va_D A [(a, .inr (0, [.int 1, .ref ed, .int 0])), (q3, .inl (kq3, 10, .inr (.inr (.inr (.inr (fun _ => none))))))] := hD
  refine W.widen (k := 1) (n := 10) (by omega) (by omega) ?_
  refine lv_dup_x1 hx hb dJx4a65c_grow_92f84_55 rfl rfl ?_
  refine va_put (D := (dC, dI)) (ci := 0) (v := .ref q3) (ty := .array (.object "java/lang/Object")) (C := RJx4a65c) (T := TJx4a65c) (N := 3) hx hb hts iw_c_grow1_Jx4a65c tyJx4a65c tyJx4a65c_ok nmJx4a65c hown hK hP hD hS 0 rfl rfl 1 (by decide) (hts (.fieldLink RJx4a65c 9 "java/util/ArrayList" "elementData" "[Ljava/lang/Object;") (List.mem_of_getElem? (i := 1) rfl)) (fun _ h9 => h9) rfl (by decide +kernel) rfl rfl (Nat.le_of_ble_eq_true rfl) dJx4a65c_grow_92f84_56 (fun H locs hP hD hS => ?_)
  have hP : va_P (dC, dI) vwCl [(a, .inr (0, [.int 1, .ref q3, .int 0])), (q3, .inl (kq3, 10, .inr (.inr (.inr (.inr (fun _ => none))))))] H := hP
  have hD : va_D A [(a, .inr (0, [.int 1, .ref q3, .int 0])), (q3, .inl (kq3, 10, .inr (.inr (.inr (.inr (fun _ => none))))))] := hD
  have hP9 := hP.sub (ws' := [(a, .inr (0, [.int 1, .ref q3, .int 0])), (q3, .inl (kq3, 10, .inr (.inr (.inr (.inr (fun _ => none))))))]) [0, 1] rfl
  have hD9 := hD.sub (ws' := [(a, .inr (0, [.int 1, .ref q3, .int 0])), (q3, .inl (kq3, 10, .inr (.inr (.inr (.inr (fun _ => none))))))]) [0, 1] (by decide) rfl
  have hK9 := hK.sub (tys' := [(kq3, .object "java/lang/Object")]) [0] rfl
  exact W.aret (v := .ref q3) hx hb hr (Or.inr ⟨_, rfl⟩) (Or.inr ⟨_, rfl⟩) (fun t ht hW => ⟨⟨kq3, q3, rfl, trivial, (by rw [ht]; exact hP9), va_K.moved hW.alike hK9, hD9⟩, hS.F ht⟩) hS.2.2 dJx4a65c_grow_92f84_59
def A_c_grow : List Cond := [.fieldLink RJx4a65c 48 "java/util/ArrayList" "size" "I", .methodLink RJx4a65c 69 yJx4a65c_grow_92f84, .instanceMethod yJx4a65c_grow_92f84, .selects RJx4a65c yJx4a65c_grow_92f84 yJx4a65c_grow_92f84, .initialized RJx4a65c, .code yJx4a65c_grow_92f84 cJx4a65c_grow_92f84 4 (some (.array (.object "java/lang/Object"))), .fieldLink RJx4a65c 9 "java/util/ArrayList" "elementData" "[Ljava/lang/Object;", .fieldLink RJx4a65c 39 "java/util/ArrayList" "DEFAULTCAPACITY_EMPTY_ELEMENTDATA" "[Ljava/lang/Object;", .methodLink RJx4a65c 79 Lib.Math.max.name, .static Lib.Math.max.name, .initialized "java/lang/Math", .code Lib.Math.max.name Lib.Math.max.code 2 (some .int), .classLink RJx4a65c 7 "java/lang/Object"]
def v_c_grow : List Cond := .code yJx4a65c_grow_d5877 cJx4a65c_grow_d5877 1 (some (.array (.object "java/lang/Object"))) :: (A_c_grow ++ wsJx4a65c0)
theorem iw_c_grow_Jx4a65c : ∀ w ∈ wsJx4a65c0, w ∈ v_c_grow := fun _ h => List.mem_cons_of_mem _ (List.mem_append_right _ (h))
theorem gb_c_grow_c_grow10 : GoodIn v_c_grow (.code yJx4a65c_grow_92f84 cJx4a65c_grow_92f84 4 (some (.array (.object "java/lang/Object"))) :: A_c_grow1) := (List.forall_mem_cons.mpr ⟨⟨List.mem_of_getElem? (i := 6) rfl, good_of_word rfl⟩, (List.forall_mem_cons.mpr ⟨⟨List.mem_of_getElem? (i := 7) rfl, good_of_word rfl⟩, (List.forall_mem_cons.mpr ⟨⟨List.mem_of_getElem? (i := 8) rfl, good_of_word rfl⟩, (List.forall_mem_cons.mpr ⟨⟨List.mem_of_getElem? (i := 9) rfl, good_of_word rfl⟩, (List.forall_mem_cons.mpr ⟨⟨List.mem_of_getElem? (i := 10) rfl, good_of_word rfl⟩, (List.forall_mem_cons.mpr ⟨⟨List.mem_of_getElem? (i := 11) rfl, good_of_word rfl⟩, (List.forall_mem_cons.mpr ⟨⟨List.mem_of_getElem? (i := 12) rfl, good_of_word rfl⟩, (List.forall_mem_cons.mpr ⟨⟨List.mem_of_getElem? (i := 13) rfl, good_of_word rfl⟩, (fun _ h => nomatch h)⟩)⟩)⟩)⟩)⟩)⟩)⟩)⟩)
theorem gb_c_grow_c_grow1 : GoodIn v_c_grow v_c_grow1 := (goodIn_ca gb_c_grow_c_grow10 (goodIn_sub iw_c_grow_Jx4a65c gw_Jx4a65c))
theorem g_c_grow_c_grow1_69 : GoodIn v_c_grow (wsV RJx4a65c 69 RJx4a65c yJx4a65c_grow_92f84 v_c_grow1) := goodIn_app (List.forall_mem_cons.mpr ⟨⟨List.mem_of_getElem? (i := 2) rfl, good_of_word rfl⟩, (List.forall_mem_cons.mpr ⟨⟨List.mem_of_getElem? (i := 3) rfl, good_of_word rfl⟩, (List.forall_mem_cons.mpr ⟨⟨List.mem_of_getElem? (i := 4) rfl, good_of_word rfl⟩, (List.forall_mem_cons.mpr ⟨⟨List.mem_of_getElem? (i := 5) rfl, good_of_word rfl⟩, (fun _ h => nomatch h)⟩)⟩)⟩)⟩) gb_c_grow_c_grow1
set_option maxHeartbeats 4000000 in
set_option maxRecDepth 100000 in
theorem c_grow (l : Launch) (dC : Nat → ClassId) (dI : Nat → Nat → Nat) (a : Nat) (ed : Nat) (sz : Nat)  : Met l yJx4a65c_grow_d5877 v_c_grow ({ frames := 2, cells := 1, slots := 10, locals := 80 }) (va_Pc [.ref a] (fun U => U.heap.size = sz ∧ va_P (dC, dI) vwCl [(a, .inr (0, [.int 1, .ref ed, .int 0]))] U.heap ∧ va_K (dC, dI) vwCl [] U ∧ va_D (fun _ => True) [(a, .inr (0, [.int 1, .ref ed, .int 0]))] ∧ ub_ZE ed (va_A [(a, .inr (0, [.int 1, .ref ed, .int 0]))] sz) U U.heap ∧ ub_KO U)) (va_Qr (S := ClassId) (fun _ => True) (fun u r t => match u with | (cO) => va_P (dC, dI) vwCl [(a, .inr (0, [.int 1, .ref r, .int 0])), (r, .inl (cO, 10, .inr (.inr (.inr (.inr (fun _ => none))))))] t.heap ∧ va_K (dC, dI) vwCl [(cO, .object "java/lang/Object")] t ∧ va_D (va_A [(a, .inr (0, [.int 1, .ref ed, .int 0]))] sz) [(a, .inr (0, [.int 1, .ref r, .int 0])), (r, .inl (cO, 10, .inr (.inr (.inr (.inr (fun _ => none))))))]) (va_A [(a, .inr (0, [.int 1, .ref ed, .int 0]))] sz)) 1 10 (va_A [(a, .inr (0, [.int 1, .ref ed, .int 0]))] sz) := by
  refine Met.ofW (cc := cJx4a65c_grow_d5877) (maxL := 1) (ret := (some (.array (.object "java/lang/Object")))) (by decide) rfl ?_
  intro p e s m args below meth c s₁ B hml hv
  obtain ⟨rfl, hsz, hP, hK, hD0, hZ, hKO⟩ := hv
  have hx := B.exec
  have hb := B.bytes
  have hr := B.returns
  have hts := atoms_spec (ws := v_c_grow) B.pre
  have hown : s.vm.findClass RJx4a65c = some m.cls := findClass_of_methodNamed B.named
  have hlocks := B.notSynchronized
  subst hsz
  have hD := hD0.self (sz := s.heap.size)
  generalize hAe : va_A [(a, .inr (0, [.int 1, .ref ed, .int 0]))] s.heap.size = A at hD ⊢
  have hA : ∀ q : Nat, s.heap.size ≤ q → A q := fun q h => by rw [← hAe]; exact Or.inr h
  try rw [hAe] at hZ
  try rw [hAe] at hKO
  have hS : va_S A s.heap s.heap [] := va_S.rf
  have hP : va_P (dC, dI) vwCl [(a, .inr (0, [.int 1, .ref ed, .int 0]))] s.heap := hP
  have hl := lv_entry ([.ref a]) (n := 1) (Nat.le_of_ble_eq_true rfl)
  rw [lg_entry_eq]
  generalize (lg_sl ([.ref a]) ++ List.replicate (1 - (lg_sl ([.ref a])).length) Slot.unset).toArray = ls at hl ⊢
  have hl : lv_has ls 1 [(0, .ref a)] := hl
  refine lv_aload_n hx hb dJx4a65c_grow_d5877_0 rfl (lv_at hl 0 rfl) ?_
  refine lv_aload_n hx hb dJx4a65c_grow_d5877_1 rfl (lv_at hl 0 rfl) ?_
  refine va_get (D := (dC, dI)) (ci := 0) (v := .int 0) (C := RJx4a65c) (T := TJx4a65c) (N := 3) hx hb hts iw_c_grow_Jx4a65c hown hK hP 0 rfl rfl 2 (by decide) (hts (.fieldLink RJx4a65c 48 "java/util/ArrayList" "size" "I") (List.mem_of_getElem? (i := 1) rfl)) (fun _ h9 => h9) rfl dJx4a65c_grow_d5877_2 ?_
  refine lv_iconst (v := 1) hx hb dJx4a65c_grow_d5877_5 (by decide) ?_
  refine lv_iadd hx hb dJx4a65c_grow_d5877_6 ?_
  refine lv_topi (fun y1 ey1 => ?_)
  obtain rfl : (1 : Int32) = y1 := (ey1.trans (by decide)).symm
  have hPc := hP.sub (ws' := [(a, .inr (0, [.int 1, .ref ed, .int 0]))]) [0] rfl
  have hKc := hK.sub (tys' := []) [] rfl
  have hDc := hD.sub (ws' := [(a, .inr (0, [.int 1, .ref ed, .int 0]))]) [0] (by decide) rfl
  have hFc := va_free (wc := [(a, .inr (0, [.int 1, .ref ed, .int 0]))]) hD hS hA [0] rfl
  refine va_callr (va_runV (As := [.int 1]) (rest := []) ⟨hx, hb, hml, hown, hts⟩ (c_grow1 l dC dI a ed s.heap.size) (cwV 1 hts g_c_grow_c_grow1_69 rfl rfl rfl (by decide +kernel) ⟨Nat.le_of_ble_eq_true rfl, Nat.le_of_ble_eq_true rfl⟩) ⟨fun a U g mk q => by obtain ⟨e0, e1, qP, qK, qD, qZ, qKO⟩ := q; exact ⟨e0, e1, qP, va_K.moved (u := U) (U := U.calling g mk a) (Vm.Alike.refl U.vm) qK, qD, ub_Z_c qZ, ub_KO_c qKO⟩, va_recv hK hP (ci := 0) (q0 := 0) rfl rfl, fun U hU hW => ⟨rfl, by rw [hU], by rw [hU]; exact hPc, va_K.moved hW.alike hKc, hDc.weaken (fun _ _ _ _ => trivial), ub_Z_w hU hW hS hFc hZ, ub_KO_w hU hW hS hFc hKO⟩⟩ rfl rfl hl.1 rfl (lv_room (Nat.le_of_ble_eq_true rfl)) dJx4a65c_grow_d5877_7 ⟨Nat.le_of_ble_eq_true rfl, Nat.le_of_ble_eq_true rfl⟩) hS (fun q _ h => hFc q h) hFc (fun u3 r2 t H1 locs ht hvm hw hB hz1 hk1 hS => ?_)
  obtain ⟨cO4, rfl⟩ : ∃ z9, z9 = u3 := ⟨_, rfl⟩
  obtain ⟨hP1, hK1, hD1⟩ := hB
  rw [ht] at hP1
  obtain ⟨hP, hD⟩ := va_join (wr := []) (w1 := [(a, .inr (0, [.int 1, .ref r2, .int 0])), (r2, .inl (cO4, 10, .inr (.inr (.inr (.inr (fun _ => none))))))]) hP hD [0] [] rfl rfl (by decide) (by decide) hk1 hFc hP1 hD1
  have hK1 := va_K.moved hvm.symm hK1
  have hK := hK.app hK1
  have hK : va_K (dC, dI) vwCl [(cO4, .object "java/lang/Object")] s := hK
  generalize H1 = H at hP hS ⊢
  have hP : va_P (dC, dI) vwCl [(a, .inr (0, [.int 1, .ref r2, .int 0])), (r2, .inl (cO4, 10, .inr (.inr (.inr (.inr (fun _ => none))))))] H := hP
  have hD : va_D A [(a, .inr (0, [.int 1, .ref r2, .int 0])), (r2, .inl (cO4, 10, .inr (.inr (.inr (.inr (fun _ => none))))))] := hD
  refine W.widen (k := 1) (n := 10) (by omega) (by omega) ?_
  have hP9 := hP.sub (ws' := [(a, .inr (0, [.int 1, .ref r2, .int 0])), (r2, .inl (cO4, 10, .inr (.inr (.inr (.inr (fun _ => none))))))]) [0, 1] rfl
  have hD9 := hD.sub (ws' := [(a, .inr (0, [.int 1, .ref r2, .int 0])), (r2, .inl (cO4, 10, .inr (.inr (.inr (.inr (fun _ => none))))))]) [0, 1] (by decide) rfl
  have hK9 := hK.sub (tys' := [(cO4, .object "java/lang/Object")]) [0] rfl
  exact W.aret (v := .ref r2) hx hb hr (Or.inr ⟨_, rfl⟩) (Or.inr ⟨_, rfl⟩) (fun t ht hW => ⟨⟨cO4, r2, rfl, trivial, (by rw [ht]; exact hP9), va_K.moved hW.alike hK9, hD9⟩, hS.F ht⟩) hS.2.2 dJx4a65c_grow_d5877_10
def A_c_add0 : List Cond := [.methodLink RJx4a65c 129 yJx4a65c_grow_d5877, .instanceMethod yJx4a65c_grow_d5877, .selects RJx4a65c yJx4a65c_grow_d5877 yJx4a65c_grow_d5877, .initialized RJx4a65c, .fieldLink RJx4a65c 48 "java/util/ArrayList" "size" "I", .code yJx4a65c_grow_d5877 cJx4a65c_grow_d5877 1 (some (.array (.object "java/lang/Object"))), .methodLink RJx4a65c 69 yJx4a65c_grow_92f84, .instanceMethod yJx4a65c_grow_92f84, .selects RJx4a65c yJx4a65c_grow_92f84 yJx4a65c_grow_92f84, .code yJx4a65c_grow_92f84 cJx4a65c_grow_92f84 4 (some (.array (.object "java/lang/Object"))), .fieldLink RJx4a65c 9 "java/util/ArrayList" "elementData" "[Ljava/lang/Object;", .fieldLink RJx4a65c 39 "java/util/ArrayList" "DEFAULTCAPACITY_EMPTY_ELEMENTDATA" "[Ljava/lang/Object;", .methodLink RJx4a65c 79 Lib.Math.max.name, .static Lib.Math.max.name, .initialized "java/lang/Math", .code Lib.Math.max.name Lib.Math.max.code 2 (some .int), .classLink RJx4a65c 7 "java/lang/Object"]
def v_c_add0 : List Cond := .code yJx4a65c_add_72be8 cJx4a65c_add_72be8 4 none :: (A_c_add0 ++ wsJx4a65c0)
theorem iw_c_add0_Jx4a65c : ∀ w ∈ wsJx4a65c0, w ∈ v_c_add0 := fun _ h => List.mem_cons_of_mem _ (List.mem_append_right _ (h))
theorem gb_c_add0_c_grow0 : GoodIn v_c_add0 (.code yJx4a65c_grow_d5877 cJx4a65c_grow_d5877 1 (some (.array (.object "java/lang/Object"))) :: A_c_grow) := (List.forall_mem_cons.mpr ⟨⟨List.mem_of_getElem? (i := 6) rfl, good_of_word rfl⟩, (List.forall_mem_cons.mpr ⟨⟨List.mem_of_getElem? (i := 5) rfl, good_of_word rfl⟩, (List.forall_mem_cons.mpr ⟨⟨List.mem_of_getElem? (i := 7) rfl, good_of_word rfl⟩, (List.forall_mem_cons.mpr ⟨⟨List.mem_of_getElem? (i := 8) rfl, good_of_word rfl⟩, (List.forall_mem_cons.mpr ⟨⟨List.mem_of_getElem? (i := 9) rfl, good_of_word rfl⟩, (List.forall_mem_cons.mpr ⟨⟨List.mem_of_getElem? (i := 4) rfl, good_of_word rfl⟩, (List.forall_mem_cons.mpr ⟨⟨List.mem_of_getElem? (i := 10) rfl, good_of_word rfl⟩, (List.forall_mem_cons.mpr ⟨⟨List.mem_of_getElem? (i := 11) rfl, good_of_word rfl⟩, (List.forall_mem_cons.mpr ⟨⟨List.mem_of_getElem? (i := 12) rfl, good_of_word rfl⟩, (List.forall_mem_cons.mpr ⟨⟨List.mem_of_getElem? (i := 13) rfl, good_of_word rfl⟩, (List.forall_mem_cons.mpr ⟨⟨List.mem_of_getElem? (i := 14) rfl, good_of_word rfl⟩, (List.forall_mem_cons.mpr ⟨⟨List.mem_of_getElem? (i := 15) rfl, good_of_word rfl⟩, (List.forall_mem_cons.mpr ⟨⟨List.mem_of_getElem? (i := 16) rfl, good_of_word rfl⟩, (List.forall_mem_cons.mpr ⟨⟨List.mem_of_getElem? (i := 17) rfl, good_of_word rfl⟩, (fun _ h => nomatch h)⟩)⟩)⟩)⟩)⟩)⟩)⟩)⟩)⟩)⟩)⟩)⟩)⟩)⟩)
theorem gb_c_add0_c_grow : GoodIn v_c_add0 v_c_grow := (goodIn_ca gb_c_add0_c_grow0 (goodIn_sub iw_c_add0_Jx4a65c gw_Jx4a65c))
theorem g_c_add0_c_grow_129 : GoodIn v_c_add0 (wsV RJx4a65c 129 RJx4a65c yJx4a65c_grow_d5877 v_c_grow) := goodIn_app (List.forall_mem_cons.mpr ⟨⟨List.mem_of_getElem? (i := 1) rfl, good_of_word rfl⟩, (List.forall_mem_cons.mpr ⟨⟨List.mem_of_getElem? (i := 2) rfl, good_of_word rfl⟩, (List.forall_mem_cons.mpr ⟨⟨List.mem_of_getElem? (i := 3) rfl, good_of_word rfl⟩, (List.forall_mem_cons.mpr ⟨⟨List.mem_of_getElem? (i := 4) rfl, good_of_word rfl⟩, (fun _ h => nomatch h)⟩)⟩)⟩)⟩) gb_c_add0_c_grow
set_option maxHeartbeats 4000000 in
set_option maxRecDepth 100000 in
theorem c_add0 (l : Launch) (dC : Nat → ClassId) (dI : Nat → Nat → Nat) (a : Nat) (ed : Nat) (eo : Nat) (w0 : Value) (w1 : Value) (w2 : Value) (w3 : Value) (w4 : Value) (w5 : Value) (w6 : Value) (w7 : Value) (w8 : Value) (w9 : Value) (w10 : Value) (w11 : Value) (sz : Nat)  : Met l yJx4a65c_add_72be8 v_c_add0 ({ frames := 3, cells := 1, slots := 10, locals := 120 }) (va_Pc [.ref a, .ref eo, .ref ed, .int 0] (fun U => U.heap.size = sz ∧ va_P (dC, dI) vwCl [(a, .inr (0, [.int 1, .ref ed, .int 0])), (eo, .inr (6, [w0, w1, w2, w3, w4, w5, w6, w7, w8, w9, w10, w11]))] U.heap ∧ va_K (dC, dI) vwCl [] U ∧ va_D (fun _ => True) [(a, .inr (0, [.int 1, .ref ed, .int 0])), (eo, .inr (6, [w0, w1, w2, w3, w4, w5, w6, w7, w8, w9, w10, w11]))] ∧ ub_ZE ed (va_A [(a, .inr (0, [.int 1, .ref ed, .int 0])), (eo, .inr (6, [w0, w1, w2, w3, w4, w5, w6, w7, w8, w9, w10, w11]))] sz) U U.heap ∧ ub_KO U)) (va_Qv (S := Nat) (fun _ => True) (fun u t => match u with | (el) => va_P (dC, dI) vwCl [(a, .inr (0, [.int 1, .ref el, .int 1]))] t.heap ∧ va_K (dC, dI) vwCl [] t ∧ va_D (va_A [(a, .inr (0, [.int 1, .ref ed, .int 0])), (eo, .inr (6, [w0, w1, w2, w3, w4, w5, w6, w7, w8, w9, w10, w11]))] sz) [(a, .inr (0, [.int 1, .ref el, .int 1]))]) (va_A [(a, .inr (0, [.int 1, .ref ed, .int 0])), (eo, .inr (6, [w0, w1, w2, w3, w4, w5, w6, w7, w8, w9, w10, w11]))] sz)) 1 10 (va_A [(a, .inr (0, [.int 1, .ref ed, .int 0])), (eo, .inr (6, [w0, w1, w2, w3, w4, w5, w6, w7, w8, w9, w10, w11]))] sz) := by
  refine Met.ofW (cc := cJx4a65c_add_72be8) (maxL := 4) (ret := none) (by decide) rfl ?_
  intro p e s m args below meth c s₁ B hml hv
  obtain ⟨rfl, hsz, hP, hK, hD0, hZ, hKO⟩ := hv
  have hx := B.exec
  have hb := B.bytes
  have hr := B.returns
  have hts := atoms_spec (ws := v_c_add0) B.pre
  have hown : s.vm.findClass RJx4a65c = some m.cls := findClass_of_methodNamed B.named
  have hlocks := B.notSynchronized
  subst hsz
  have hD := hD0.self (sz := s.heap.size)
  generalize hAe : va_A [(a, .inr (0, [.int 1, .ref ed, .int 0])), (eo, .inr (6, [w0, w1, w2, w3, w4, w5, w6, w7, w8, w9, w10, w11]))] s.heap.size = A at hD ⊢
  have hA : ∀ q : Nat, s.heap.size ≤ q → A q := fun q h => by rw [← hAe]; exact Or.inr h
  try rw [hAe] at hZ
  try rw [hAe] at hKO
  have hS : va_S A s.heap s.heap [] := va_S.rf
  have hP : va_P (dC, dI) vwCl [(a, .inr (0, [.int 1, .ref ed, .int 0])), (eo, .inr (6, [w0, w1, w2, w3, w4, w5, w6, w7, w8, w9, w10, w11]))] s.heap := hP
  have hl := lv_entry ([.ref a, .ref eo, .ref ed, .int 0]) (n := 4) (Nat.le_of_ble_eq_true rfl)
  rw [lg_entry_eq]
  generalize (lg_sl ([.ref a, .ref eo, .ref ed, .int 0]) ++ List.replicate (4 - (lg_sl ([.ref a, .ref eo, .ref ed, .int 0])).length) Slot.unset).toArray = ls at hl ⊢
  have hl : lv_has ls 4 [(0, .ref a), (1, .ref eo), (2, .ref ed), (3, .int 0)] := hl
  refine lv_iload_n hx hb dJx4a65c_add_72be8_0 rfl (lv_at hl 3 rfl) ?_
  refine lv_aload_n hx hb dJx4a65c_add_72be8_1 rfl (lv_at hl 2 rfl) ?_
  refine va_tlen (v := 0) hx hb hZ.2 hS rfl dJx4a65c_add_72be8_2 ?_
  refine lv_icmp_ne (tgt := 11) hx hb dJx4a65c_add_72be8_3 (by decide) (fun c1 => by first | exact absurd c1 (by decide) | exact absurd (by decide) c1) (fun c1 => ?_)
  refine lv_aload_n hx hb dJx4a65c_add_72be8_6 rfl (lv_at hl 0 rfl) ?_
  have hPc := hP.sub (ws' := [(a, .inr (0, [.int 1, .ref ed, .int 0]))]) [0] rfl
  have hKc := hK.sub (tys' := []) [] rfl
  have hDc := hD.sub (ws' := [(a, .inr (0, [.int 1, .ref ed, .int 0]))]) [0] (by decide) rfl
  have hFc := va_free (wc := [(a, .inr (0, [.int 1, .ref ed, .int 0]))]) hD hS hA [0] rfl
  refine va_callr (va_runV (As := []) (rest := []) ⟨hx, hb, hml, hown, hts⟩ (c_grow l dC dI a ed s.heap.size) (cwV 0 hts g_c_add0_c_grow_129 rfl rfl rfl (by decide +kernel) ⟨Nat.le_of_ble_eq_true rfl, Nat.le_of_ble_eq_true rfl⟩) ⟨fun a U g mk q => by obtain ⟨e0, e1, qP, qK, qD, qZ, qKO⟩ := q; exact ⟨e0, e1, qP, va_K.moved (u := U) (U := U.calling g mk a) (Vm.Alike.refl U.vm) qK, qD, ub_Z_c qZ, ub_KO_c qKO⟩, va_recv hK hP (ci := 0) (q0 := 0) rfl rfl, fun U hU hW => ⟨rfl, by rw [hU], by rw [hU]; exact hPc, va_K.moved hW.alike hKc, hDc.weaken (fun _ _ _ _ => trivial), ub_Z_w hU hW hS hFc hZ, ub_KO_w hU hW hS hFc hKO⟩⟩ rfl rfl hl.1 rfl (lv_room (Nat.le_of_ble_eq_true rfl)) dJx4a65c_add_72be8_7 ⟨Nat.le_of_ble_eq_true rfl, Nat.le_of_ble_eq_true rfl⟩) hS (fun q _ h => hFc q h) hFc (fun u3 r2 t H1 locs ht hvm hw hB hz1 hk1 hS => ?_)
  obtain ⟨cO4, rfl⟩ : ∃ z9, z9 = u3 := ⟨_, rfl⟩
  obtain ⟨hP1, hK1, hD1⟩ := hB
  rw [ht] at hP1
  obtain ⟨hP, hD⟩ := va_join (wr := [(eo, .inr (6, [w0, w1, w2, w3, w4, w5, w6, w7, w8, w9, w10, w11]))]) (w1 := [(a, .inr (0, [.int 1, .ref r2, .int 0])), (r2, .inl (cO4, 10, .inr (.inr (.inr (.inr (fun _ => none))))))]) hP hD [0] [1] rfl rfl (by decide) (by decide) hk1 hFc hP1 hD1
  have hK1 := va_K.moved hvm.symm hK1
  have hK := hK.app hK1
  have hK : va_K (dC, dI) vwCl [(cO4, .object "java/lang/Object")] s := hK
  generalize H1 = H at hP hS ⊢
  have hP : va_P (dC, dI) vwCl [(eo, .inr (6, [w0, w1, w2, w3, w4, w5, w6, w7, w8, w9, w10, w11])), (a, .inr (0, [.int 1, .ref r2, .int 0])), (r2, .inl (cO4, 10, .inr (.inr (.inr (.inr (fun _ => none))))))] H := hP
  have hD : va_D A [(eo, .inr (6, [w0, w1, w2, w3, w4, w5, w6, w7, w8, w9, w10, w11])), (a, .inr (0, [.int 1, .ref r2, .int 0])), (r2, .inl (cO4, 10, .inr (.inr (.inr (.inr (fun _ => none))))))] := hD
  refine W.widen (k := 1) (n := 10) (by omega) (by omega) ?_
  refine lv_astore_n (lv' := [(2, .ref r2), (0, .ref a), (1, .ref eo), (3, .int 0)]) hx hb dJx4a65c_add_72be8_10 rfl hl (by decide) rfl (fun ls hl => ?_)
  refine lv_aload_n hx hb dJx4a65c_add_72be8_11 rfl (lv_at hl 0 rfl) ?_
  refine lv_iload_n hx hb dJx4a65c_add_72be8_12 rfl (lv_at hl 3 rfl) ?_
  refine lv_aload_n hx hb dJx4a65c_add_72be8_13 rfl (lv_at hl 2 rfl) ?_
  refine va_astqO hx hb hK hP hD hS 2 0 0 6 rfl rfl hKO.1 rfl rfl (vp_in_nI (n := 0) (N := 10) (by decide) (by decide)) dJx4a65c_add_72be8_14 (fun H locs hP hD hS => ?_)
  have hP : va_P (dC, dI) vwCl [(eo, .inr (6, [w0, w1, w2, w3, w4, w5, w6, w7, w8, w9, w10, w11])), (a, .inr (0, [.int 1, .ref r2, .int 0])), (r2, .inl (cO4, 10, .inr (.inr (.inr (.inr ((va_up (fun _ => none) (0 : Int32).toNatClampNeg (some eo))))))))] H := hP
  have hD : va_D A [(eo, .inr (6, [w0, w1, w2, w3, w4, w5, w6, w7, w8, w9, w10, w11])), (a, .inr (0, [.int 1, .ref r2, .int 0])), (r2, .inl (cO4, 10, .inr (.inr (.inr (.inr ((va_up (fun _ => none) (0 : Int32).toNatClampNeg (some eo))))))))] := hD
  refine lv_aload_n hx hb dJx4a65c_add_72be8_15 rfl (lv_at hl 1 rfl) ?_
  refine lv_iload_n hx hb dJx4a65c_add_72be8_16 rfl (lv_at hl 3 rfl) ?_
  refine lv_iconst (v := 1) hx hb dJx4a65c_add_72be8_17 (by decide) ?_
  refine lv_iadd hx hb dJx4a65c_add_72be8_18 ?_
  refine lv_topi (fun y5 ey5 => ?_)
  obtain rfl : (1 : Int32) = y5 := (ey5.trans (by decide)).symm
  refine va_put (D := (dC, dI)) (ci := 0) (v := .int 1) (ty := .int) (C := RJx4a65c) (T := TJx4a65c) (N := 3) hx hb hts iw_c_add0_Jx4a65c tyJx4a65c tyJx4a65c_ok nmJx4a65c hown hK hP hD hS 1 rfl rfl 2 (by decide) (hts (.fieldLink RJx4a65c 48 "java/util/ArrayList" "size" "I") (List.mem_of_getElem? (i := 5) rfl)) (fun _ h9 => h9) rfl (by decide +kernel) rfl rfl (Nat.le_of_ble_eq_true rfl) dJx4a65c_add_72be8_19 (fun H locs hP hD hS => ?_)
  have hP : va_P (dC, dI) vwCl [(eo, .inr (6, [w0, w1, w2, w3, w4, w5, w6, w7, w8, w9, w10, w11])), (a, .inr (0, [.int 1, .ref r2, .int 1])), (r2, .inl (cO4, 10, .inr (.inr (.inr (.inr ((va_up (fun _ => none) (0 : Int32).toNatClampNeg (some eo))))))))] H := hP
  have hD : va_D A [(eo, .inr (6, [w0, w1, w2, w3, w4, w5, w6, w7, w8, w9, w10, w11])), (a, .inr (0, [.int 1, .ref r2, .int 1])), (r2, .inl (cO4, 10, .inr (.inr (.inr (.inr ((va_up (fun _ => none) (0 : Int32).toNatClampNeg (some eo))))))))] := hD
  have hP9 := hP.sub (ws' := [(a, .inr (0, [.int 1, .ref r2, .int 1]))]) [1] rfl
  have hD9 := hD.sub (ws' := [(a, .inr (0, [.int 1, .ref r2, .int 1]))]) [1] (by decide) rfl
  have hK9 := hK.sub (tys' := []) [] rfl
  exact W.vret hx hb hr (fun t ht hW => ⟨⟨r2, rfl, trivial, (by rw [ht]; exact hP9), va_K.moved hW.alike hK9, hD9⟩, hS.F ht⟩) hS.2.2 dJx4a65c_add_72be8_22
def A_c_add : List Cond := [.sameField "java/util/ArrayList" "java/util/AbstractList" "modCount" "I", .fieldLink RJx4a65c 63 "java/util/ArrayList" "modCount" "I", .fieldLink RJx4a65c 9 "java/util/ArrayList" "elementData" "[Ljava/lang/Object;", .fieldLink RJx4a65c 48 "java/util/ArrayList" "size" "I", .methodLink RJx4a65c 131 yJx4a65c_add_72be8, .instanceMethod yJx4a65c_add_72be8, .selects RJx4a65c yJx4a65c_add_72be8 yJx4a65c_add_72be8, .initialized RJx4a65c, .code yJx4a65c_add_72be8 cJx4a65c_add_72be8 4 none, .methodLink RJx4a65c 129 yJx4a65c_grow_d5877, .instanceMethod yJx4a65c_grow_d5877, .selects RJx4a65c yJx4a65c_grow_d5877 yJx4a65c_grow_d5877, .code yJx4a65c_grow_d5877 cJx4a65c_grow_d5877 1 (some (.array (.object "java/lang/Object"))), .methodLink RJx4a65c 69 yJx4a65c_grow_92f84, .instanceMethod yJx4a65c_grow_92f84, .selects RJx4a65c yJx4a65c_grow_92f84 yJx4a65c_grow_92f84, .code yJx4a65c_grow_92f84 cJx4a65c_grow_92f84 4 (some (.array (.object "java/lang/Object"))), .fieldLink RJx4a65c 39 "java/util/ArrayList" "DEFAULTCAPACITY_EMPTY_ELEMENTDATA" "[Ljava/lang/Object;", .methodLink RJx4a65c 79 Lib.Math.max.name, .static Lib.Math.max.name, .initialized "java/lang/Math", .code Lib.Math.max.name Lib.Math.max.code 2 (some .int), .classLink RJx4a65c 7 "java/lang/Object"]
def v_c_add : List Cond := .code yJx4a65c_add_9ea2d cJx4a65c_add_9ea2d 2 (some .boolean) :: (A_c_add ++ wsJx4a65c0)
theorem iw_c_add_Jx4a65c : ∀ w ∈ wsJx4a65c0, w ∈ v_c_add := fun _ h => List.mem_cons_of_mem _ (List.mem_append_right _ (h))
theorem gb_c_add_c_add00 : GoodIn v_c_add (.code yJx4a65c_add_72be8 cJx4a65c_add_72be8 4 none :: A_c_add0) := (List.forall_mem_cons.mpr ⟨⟨List.mem_of_getElem? (i := 9) rfl, good_of_word rfl⟩, (List.forall_mem_cons.mpr ⟨⟨List.mem_of_getElem? (i := 10) rfl, good_of_word rfl⟩, (List.forall_mem_cons.mpr ⟨⟨List.mem_of_getElem? (i := 11) rfl, good_of_word rfl⟩, (List.forall_mem_cons.mpr ⟨⟨List.mem_of_getElem? (i := 12) rfl, good_of_word rfl⟩, (List.forall_mem_cons.mpr ⟨⟨List.mem_of_getElem? (i := 8) rfl, good_of_word rfl⟩, (List.forall_mem_cons.mpr ⟨⟨List.mem_of_getElem? (i := 4) rfl, good_of_word rfl⟩, (List.forall_mem_cons.mpr ⟨⟨List.mem_of_getElem? (i := 13) rfl, good_of_word rfl⟩, (List.forall_mem_cons.mpr ⟨⟨List.mem_of_getElem? (i := 14) rfl, good_of_word rfl⟩, (List.forall_mem_cons.mpr ⟨⟨List.mem_of_getElem? (i := 15) rfl, good_of_word rfl⟩, (List.forall_mem_cons.mpr ⟨⟨List.mem_of_getElem? (i := 16) rfl, good_of_word rfl⟩, (List.forall_mem_cons.mpr ⟨⟨List.mem_of_getElem? (i := 17) rfl, good_of_word rfl⟩, (List.forall_mem_cons.mpr ⟨⟨List.mem_of_getElem? (i := 3) rfl, good_of_word rfl⟩, (List.forall_mem_cons.mpr ⟨⟨List.mem_of_getElem? (i := 18) rfl, good_of_word rfl⟩, (List.forall_mem_cons.mpr ⟨⟨List.mem_of_getElem? (i := 19) rfl, good_of_word rfl⟩, (List.forall_mem_cons.mpr ⟨⟨List.mem_of_getElem? (i := 20) rfl, good_of_word rfl⟩, (List.forall_mem_cons.mpr ⟨⟨List.mem_of_getElem? (i := 21) rfl, good_of_word rfl⟩, (List.forall_mem_cons.mpr ⟨⟨List.mem_of_getElem? (i := 22) rfl, good_of_word rfl⟩, (List.forall_mem_cons.mpr ⟨⟨List.mem_of_getElem? (i := 23) rfl, good_of_word rfl⟩, (fun _ h => nomatch h)⟩)⟩)⟩)⟩)⟩)⟩)⟩)⟩)⟩)⟩)⟩)⟩)⟩)⟩)⟩)⟩)⟩)⟩)
theorem gb_c_add_c_add0 : GoodIn v_c_add v_c_add0 := (goodIn_ca gb_c_add_c_add00 (goodIn_sub iw_c_add_Jx4a65c gw_Jx4a65c))
theorem g_c_add_c_add0_131 : GoodIn v_c_add (wsV RJx4a65c 131 RJx4a65c yJx4a65c_add_72be8 v_c_add0) := goodIn_app (List.forall_mem_cons.mpr ⟨⟨List.mem_of_getElem? (i := 5) rfl, good_of_word rfl⟩, (List.forall_mem_cons.mpr ⟨⟨List.mem_of_getElem? (i := 6) rfl, good_of_word rfl⟩, (List.forall_mem_cons.mpr ⟨⟨List.mem_of_getElem? (i := 7) rfl, good_of_word rfl⟩, (List.forall_mem_cons.mpr ⟨⟨List.mem_of_getElem? (i := 8) rfl, good_of_word rfl⟩, (fun _ h => nomatch h)⟩)⟩)⟩)⟩) gb_c_add_c_add0
set_option maxHeartbeats 4000000 in
set_option maxRecDepth 100000 in
theorem c_add (l : Launch) (dC : Nat → ClassId) (dI : Nat → Nat → Nat) (a : Nat) (ed : Nat) (eo : Nat) (w0 : Value) (w1 : Value) (w2 : Value) (w3 : Value) (w4 : Value) (w5 : Value) (w6 : Value) (w7 : Value) (w8 : Value) (w9 : Value) (w10 : Value) (w11 : Value) (sz : Nat)  : Met l yJx4a65c_add_9ea2d v_c_add ({ frames := 4, cells := 1, slots := 10, locals := 160 }) (va_Pc [.ref a, .ref eo] (fun U => U.heap.size = sz ∧ va_P (dC, dI) vwCl [(a, .inr (0, [.int 0, .ref ed, .int 0])), (eo, .inr (6, [w0, w1, w2, w3, w4, w5, w6, w7, w8, w9, w10, w11]))] U.heap ∧ va_K (dC, dI) vwCl [] U ∧ va_D (fun _ => True) [(a, .inr (0, [.int 0, .ref ed, .int 0])), (eo, .inr (6, [w0, w1, w2, w3, w4, w5, w6, w7, w8, w9, w10, w11]))] ∧ ub_ZE ed (va_A [(a, .inr (0, [.int 0, .ref ed, .int 0])), (eo, .inr (6, [w0, w1, w2, w3, w4, w5, w6, w7, w8, w9, w10, w11]))] sz) U U.heap ∧ ub_KO U)) (va_Qi (S := Nat) (fun r _ => r = 1) (fun u t => match u with | (el) => va_P (dC, dI) vwCl [(a, .inr (0, [.int 1, .ref el, .int 1]))] t.heap ∧ va_K (dC, dI) vwCl [] t ∧ va_D (va_A [(a, .inr (0, [.int 0, .ref ed, .int 0])), (eo, .inr (6, [w0, w1, w2, w3, w4, w5, w6, w7, w8, w9, w10, w11]))] sz) [(a, .inr (0, [.int 1, .ref el, .int 1]))]) (va_A [(a, .inr (0, [.int 0, .ref ed, .int 0])), (eo, .inr (6, [w0, w1, w2, w3, w4, w5, w6, w7, w8, w9, w10, w11]))] sz)) 1 10 (va_A [(a, .inr (0, [.int 0, .ref ed, .int 0])), (eo, .inr (6, [w0, w1, w2, w3, w4, w5, w6, w7, w8, w9, w10, w11]))] sz) := by
  refine Met.ofW (cc := cJx4a65c_add_9ea2d) (maxL := 2) (ret := (some .boolean)) (by decide) rfl ?_
  intro p e s m args below meth c s₁ B hml hv
  obtain ⟨rfl, hsz, hP, hK, hD0, hZ, hKO⟩ := hv
  have hx := B.exec
  have hb := B.bytes
  have hr := B.returns
  have hts := atoms_spec (ws := v_c_add) B.pre
  have hown : s.vm.findClass RJx4a65c = some m.cls := findClass_of_methodNamed B.named
  have hlocks := B.notSynchronized
  subst hsz
  have hD := hD0.self (sz := s.heap.size)
  generalize hAe : va_A [(a, .inr (0, [.int 0, .ref ed, .int 0])), (eo, .inr (6, [w0, w1, w2, w3, w4, w5, w6, w7, w8, w9, w10, w11]))] s.heap.size = A at hD ⊢
  have hA : ∀ q : Nat, s.heap.size ≤ q → A q := fun q h => by rw [← hAe]; exact Or.inr h
  try rw [hAe] at hZ
  try rw [hAe] at hKO
  have hS : va_S A s.heap s.heap [] := va_S.rf
  have hP : va_P (dC, dI) vwCl [(a, .inr (0, [.int 0, .ref ed, .int 0])), (eo, .inr (6, [w0, w1, w2, w3, w4, w5, w6, w7, w8, w9, w10, w11]))] s.heap := hP
  have hl := lv_entry ([.ref a, .ref eo]) (n := 2) (Nat.le_of_ble_eq_true rfl)
  rw [lg_entry_eq]
  generalize (lg_sl ([.ref a, .ref eo]) ++ List.replicate (2 - (lg_sl ([.ref a, .ref eo])).length) Slot.unset).toArray = ls at hl ⊢
  have hl : lv_has ls 2 [(0, .ref a), (1, .ref eo)] := hl
  refine lv_aload_n hx hb dJx4a65c_add_9ea2d_0 rfl (lv_at hl 0 rfl) ?_
  refine lv_dup hx hb dJx4a65c_add_9ea2d_1 rfl ?_
  refine va_get (D := (dC, dI)) (ci := 0) (v := .int 0) (C := RJx4a65c) (T := TJx4a65c) (N := 3) hx hb hts iw_c_add_Jx4a65c hown hK hP 0 rfl rfl 0 (by decide) (hts (.fieldLink RJx4a65c 63 "java/util/ArrayList" "modCount" "I") (List.mem_of_getElem? (i := 2) rfl)) (fun x h9 => u_same (hts (.sameField "java/util/ArrayList" "java/util/AbstractList" "modCount" "I") (List.mem_of_getElem? (i := 1) rfl)) x h9) rfl dJx4a65c_add_9ea2d_2 ?_
  refine lv_iconst (v := 1) hx hb dJx4a65c_add_9ea2d_5 (by decide) ?_
  refine lv_iadd hx hb dJx4a65c_add_9ea2d_6 ?_
  refine lv_topi (fun y1 ey1 => ?_)
  obtain rfl : (1 : Int32) = y1 := (ey1.trans (by decide)).symm
  refine va_put (D := (dC, dI)) (ci := 0) (v := .int 1) (ty := .int) (C := RJx4a65c) (T := TJx4a65c) (N := 3) hx hb hts iw_c_add_Jx4a65c tyJx4a65c tyJx4a65c_ok nmJx4a65c hown hK hP hD hS 0 rfl rfl 0 (by decide) (hts (.fieldLink RJx4a65c 63 "java/util/ArrayList" "modCount" "I") (List.mem_of_getElem? (i := 2) rfl)) (fun x h9 => u_same (hts (.sameField "java/util/ArrayList" "java/util/AbstractList" "modCount" "I") (List.mem_of_getElem? (i := 1) rfl)) x h9) rfl (by decide +kernel) rfl rfl (Nat.le_of_ble_eq_true rfl) dJx4a65c_add_9ea2d_7 (fun H locs hP hD hS => ?_)
  have hP : va_P (dC, dI) vwCl [(a, .inr (0, [.int 1, .ref ed, .int 0])), (eo, .inr (6, [w0, w1, w2, w3, w4, w5, w6, w7, w8, w9, w10, w11]))] H := hP
  have hD : va_D A [(a, .inr (0, [.int 1, .ref ed, .int 0])), (eo, .inr (6, [w0, w1, w2, w3, w4, w5, w6, w7, w8, w9, w10, w11]))] := hD
  refine lv_aload_n hx hb dJx4a65c_add_9ea2d_10 rfl (lv_at hl 0 rfl) ?_
  refine lv_aload_n hx hb dJx4a65c_add_9ea2d_11 rfl (lv_at hl 1 rfl) ?_
  refine lv_aload_n hx hb dJx4a65c_add_9ea2d_12 rfl (lv_at hl 0 rfl) ?_
  refine va_get (D := (dC, dI)) (ci := 0) (v := .ref ed) (C := RJx4a65c) (T := TJx4a65c) (N := 3) hx hb hts iw_c_add_Jx4a65c hown hK hP 0 rfl rfl 1 (by decide) (hts (.fieldLink RJx4a65c 9 "java/util/ArrayList" "elementData" "[Ljava/lang/Object;") (List.mem_of_getElem? (i := 3) rfl)) (fun _ h9 => h9) rfl dJx4a65c_add_9ea2d_13 ?_
  refine lv_aload_n hx hb dJx4a65c_add_9ea2d_16 rfl (lv_at hl 0 rfl) ?_
  refine va_get (D := (dC, dI)) (ci := 0) (v := .int 0) (C := RJx4a65c) (T := TJx4a65c) (N := 3) hx hb hts iw_c_add_Jx4a65c hown hK hP 0 rfl rfl 2 (by decide) (hts (.fieldLink RJx4a65c 48 "java/util/ArrayList" "size" "I") (List.mem_of_getElem? (i := 4) rfl)) (fun _ h9 => h9) rfl dJx4a65c_add_9ea2d_17 ?_
  have hPc := hP.sub (ws' := [(a, .inr (0, [.int 1, .ref ed, .int 0])), (eo, .inr (6, [w0, w1, w2, w3, w4, w5, w6, w7, w8, w9, w10, w11]))]) [0, 1] rfl
  have hKc := hK.sub (tys' := []) [] rfl
  have hDc := hD.sub (ws' := [(a, .inr (0, [.int 1, .ref ed, .int 0])), (eo, .inr (6, [w0, w1, w2, w3, w4, w5, w6, w7, w8, w9, w10, w11]))]) [0, 1] (by decide) rfl
  have hFc := va_free (wc := [(a, .inr (0, [.int 1, .ref ed, .int 0])), (eo, .inr (6, [w0, w1, w2, w3, w4, w5, w6, w7, w8, w9, w10, w11]))]) hD hS hA [0, 1] rfl
  refine va_callv (va_runV (As := [.ref eo, .ref ed, .int 0]) (rest := []) ⟨hx, hb, hml, hown, hts⟩ (c_add0 l dC dI a ed eo w0 w1 w2 w3 w4 w5 w6 w7 w8 w9 w10 w11 H.size) (cwV 3 hts g_c_add_c_add0_131 rfl rfl rfl (by decide +kernel) ⟨Nat.le_of_ble_eq_true rfl, Nat.le_of_ble_eq_true rfl⟩) ⟨fun a U g mk q => by obtain ⟨e0, e1, qP, qK, qD, qZ, qKO⟩ := q; exact ⟨e0, e1, qP, va_K.moved (u := U) (U := U.calling g mk a) (Vm.Alike.refl U.vm) qK, qD, ub_Z_c qZ, ub_KO_c qKO⟩, va_recv hK hP (ci := 0) (q0 := 0) rfl rfl, fun U hU hW => ⟨rfl, by rw [hU], by rw [hU]; exact hPc, va_K.moved hW.alike hKc, hDc.weaken (fun _ _ _ _ => trivial), ub_Z_w hU hW hS hFc hZ, ub_KO_w hU hW hS hFc hKO⟩⟩ rfl rfl hl.1 rfl (lv_room (Nat.le_of_ble_eq_true rfl)) dJx4a65c_add_9ea2d_20 ⟨Nat.le_of_ble_eq_true rfl, Nat.le_of_ble_eq_true rfl⟩) hS (fun q _ h => hFc q h) hFc (fun u3 t H1 locs ht hvm hw hB hz1 hk1 hS => ?_)
  obtain ⟨el4, rfl⟩ : ∃ z9, z9 = u3 := ⟨_, rfl⟩
  obtain ⟨hP1, hK1, hD1⟩ := hB
  rw [ht] at hP1
  obtain ⟨hP, hD⟩ := va_join (wr := []) (w1 := [(a, .inr (0, [.int 1, .ref el4, .int 1]))]) hP hD [0, 1] [] rfl rfl (by decide) (by decide) hk1 hFc hP1 hD1
  generalize H1 = H at hP hS ⊢
  have hP : va_P (dC, dI) vwCl [(a, .inr (0, [.int 1, .ref el4, .int 1]))] H := hP
  have hD : va_D A [(a, .inr (0, [.int 1, .ref el4, .int 1]))] := hD
  refine W.widen (k := 1) (n := 10) (by omega) (by omega) ?_
  refine lv_iconst (v := 1) hx hb dJx4a65c_add_9ea2d_23 (by decide) ?_
  have hP9 := hP.sub (ws' := [(a, .inr (0, [.int 1, .ref el4, .int 1]))]) [0] rfl
  have hD9 := hD.sub (ws' := [(a, .inr (0, [.int 1, .ref el4, .int 1]))]) [0] (by decide) rfl
  have hK9 := hK.sub (tys' := []) [] rfl
  exact W.zret (v := (1)) hx hb hr rfl (fun t ht hW => ⟨⟨(1), el4, rfl, rfl, (by rw [ht]; exact hP9), va_K.moved hW.alike hK9, hD9⟩, hS.F ht⟩) hS.2.2 dJx4a65c_add_9ea2d_24
def A_c_Race : List Cond := [.instanceMethod objectInit, .code objectInit ⟨#[0xb1]⟩ 1 none, .methodLink RX5 3 objectInit, .arrayClass .int, .fieldLink RX5 9 "UnlikeBoats$Race" "entries" "[I", .fieldLink RX5 15 "UnlikeBoats$Race" "redresses" "[I", .fieldLink RX5 18 "UnlikeBoats$Race" "ends" "[I", .fieldLink RX5 21 "UnlikeBoats$Race" "behind" "[I", .fieldLink RX5 24 "UnlikeBoats$Race" "swifts" "[I", .fieldLink RX5 27 "UnlikeBoats$Race" "told" "I", .fieldLink RX5 31 "UnlikeBoats$Race" "day" "I", .fieldLink RX5 34 "UnlikeBoats$Race" "miles" "I", .fieldLink RX5 37 "UnlikeBoats$Race" "way" "I", .fieldLink RX5 40 "UnlikeBoats$Race" "wind" "I", .fieldLink RX5 43 "UnlikeBoats$Race" "x" "I", .fieldLink RX5 46 "UnlikeBoats$Race" "y" "I", .methodLink RX5 49 yJ7_fill_53178, .static yJ7_fill_53178, .initialized RJ7, .code yJ7_fill_53178 cJ7_fill_53178 4 none]
def v_c_Race : List Cond := .code yX5_init cX5_init 8 none :: (A_c_Race ++ wsX50)
theorem iw_c_Race_X5 : ∀ w ∈ wsX50, w ∈ v_c_Race := fun _ h => List.mem_cons_of_mem _ (List.mem_append_right _ (h))
theorem gb_c_Race_c_fill0 : GoodIn v_c_Race (.code yJ7_fill_53178 cJ7_fill_53178 4 none :: A_c_fill) := (List.forall_mem_cons.mpr ⟨⟨List.mem_of_getElem? (i := 20) rfl, good_of_word rfl⟩, (fun _ h => nomatch h)⟩)
theorem gb_c_Race_c_fill : GoodIn v_c_Race v_c_fill := gb_c_Race_c_fill0
theorem g_c_Race_c_fill_49 : GoodIn v_c_Race (va_wsS RX5 49 yJ7_fill_53178 v_c_fill) := goodIn_app (List.forall_mem_cons.mpr ⟨⟨List.mem_of_getElem? (i := 17) rfl, good_of_word rfl⟩, (List.forall_mem_cons.mpr ⟨⟨List.mem_of_getElem? (i := 18) rfl, good_of_word rfl⟩, (List.forall_mem_cons.mpr ⟨⟨List.mem_of_getElem? (i := 19) rfl, good_of_word rfl⟩, (fun _ h => nomatch h)⟩)⟩)⟩) gb_c_Race_c_fill
set_option maxHeartbeats 4000000 in
set_option maxRecDepth 100000 in
theorem c_Race (l : Launch) (dC : Nat → ClassId) (dI : Nat → Nat → Nat) (eo : Nat) (t0 : Int32) (a0 : Int32) (a1 : Int32) (a2 : Int32) (a3 : Int32) (a4 : Int32) (a5 : Int32) (sz : Nat)  : Met l yX5_init v_c_Race ({ frames := 1, cells := 5, slots := 465, locals := 40 }) (va_Pc [.ref eo, .int t0, .int a0, .int a1, .int a2, .int a3, .int a4, .int a5] (fun U => U.heap.size = sz ∧ va_P (dC, dI) vwCl [(eo, .inr (6, [.int 0, .int 0, .int 0, .int 0, .int 0, .int 0, .int 0, .null, .null, .null, .null, .null]))] U.heap ∧ va_K (dC, dI) vwCl [] U ∧ va_D (fun _ => True) [(eo, .inr (6, [.int 0, .int 0, .int 0, .int 0, .int 0, .int 0, .int 0, .null, .null, .null, .null, .null]))])) (va_Qv (S := Nat × Nat × Nat × Nat × Nat) (fun _ => True) (fun u t => match u with | (y0, y1, y2, y3, y4) => va_P (dC, dI) vwCl [(eo, .inr (6, [.int t0, .int a0, .int a1, .int a2, .int a3, .int a4, .int a5, .ref y0, .ref y1, .ref y2, .ref y3, .ref y4]))] t.heap ∧ va_K (dC, dI) vwCl [] t ∧ va_D (va_A [(eo, .inr (6, [.int 0, .int 0, .int 0, .int 0, .int 0, .int 0, .int 0, .null, .null, .null, .null, .null]))] sz) [(eo, .inr (6, [.int t0, .int a0, .int a1, .int a2, .int a3, .int a4, .int a5, .ref y0, .ref y1, .ref y2, .ref y3, .ref y4]))]) (va_A [(eo, .inr (6, [.int 0, .int 0, .int 0, .int 0, .int 0, .int 0, .int 0, .null, .null, .null, .null, .null]))] sz)) 5 465 (va_A [(eo, .inr (6, [.int 0, .int 0, .int 0, .int 0, .int 0, .int 0, .int 0, .null, .null, .null, .null, .null]))] sz) := by
  refine Met.ofW (cc := cX5_init) (maxL := 8) (ret := none) (by decide) rfl ?_
  intro p e s m args below meth c s₁ B hml hv
  obtain ⟨rfl, hsz, hP, hK, hD0⟩ := hv
  have hx := B.exec
  have hb := B.bytes
  have hr := B.returns
  have hts := atoms_spec (ws := v_c_Race) B.pre
  have hown : s.vm.findClass RX5 = some m.cls := findClass_of_methodNamed B.named
  have hlocks := B.notSynchronized
  have hin : meth.name = "<init>" := (name_of_methodNamed B.named B.method).1
  subst hsz
  have hD := hD0.self (sz := s.heap.size)
  generalize hAe : va_A [(eo, .inr (6, [.int 0, .int 0, .int 0, .int 0, .int 0, .int 0, .int 0, .null, .null, .null, .null, .null]))] s.heap.size = A at hD ⊢
  have hA : ∀ q : Nat, s.heap.size ≤ q → A q := fun q h => by rw [← hAe]; exact Or.inr h
  have hS : va_S A s.heap s.heap [] := va_S.rf
  have hP : va_P (dC, dI) vwCl [(eo, .inr (6, [.int 0, .int 0, .int 0, .int 0, .int 0, .int 0, .int 0, .null, .null, .null, .null, .null]))] s.heap := hP
  have hl := lv_entry ([.ref eo, .int t0, .int a0, .int a1, .int a2, .int a3, .int a4, .int a5]) (n := 8) (Nat.le_of_ble_eq_true rfl)
  rw [lg_entry_eq]
  generalize (lg_sl ([.ref eo, .int t0, .int a0, .int a1, .int a2, .int a3, .int a4, .int a5]) ++ List.replicate (8 - (lg_sl ([.ref eo, .int t0, .int a0, .int a1, .int a2, .int a3, .int a4, .int a5])).length) Slot.unset).toArray = ls at hl ⊢
  have hl : lv_has ls 8 [(0, .ref eo), (1, .int t0), (2, .int a0), (3, .int a1), (4, .int a2), (5, .int a3), (6, .int a4), (7, .int a5)] := hl
  refine lv_aload_n hx hb dX5_init_0 rfl (lv_at hl 0 rfl) ?_
  refine W.objInit hx hb hown (hts (.methodLink RX5 3 objectInit) (List.mem_of_getElem? (i := 3) rfl)) (hts (.instanceMethod objectInit) (List.mem_of_getElem? (i := 1) rfl)) (hts (.code objectInit ⟨#[0xb1]⟩ 1 none) (List.mem_of_getElem? (i := 2) rfl)) rfl (by rw [hml]; exact hl.1) rfl dX5_init_1 (Nat.le_of_ble_eq_true rfl) (Nat.le_of_ble_eq_true rfl) ?_
  refine W.eq (g2 := F0 m 4 ls []) rfl ?_
  refine lv_aload_n hx hb dX5_init_4 rfl (lv_at hl 0 rfl) ?_
  refine lv_bipush (v := 16) hx hb dX5_init_5 (by decide) ?_
  refine va_newa (atype := .int) (ty := .int) (N' := 16) (a0 := (16, .inl (fun _ => (0 : Int32)))) hx hb (hts (.arrayClass .int) (List.mem_of_getElem? (i := 4) rfl)) rfl hK hP hD hS hA (fun _ => rfl) (by decide) (by decide) (Nat.le_of_ble_eq_true rfl) (Nat.le_of_ble_eq_true rfl) (Nat.le_of_ble_eq_true rfl) dX5_init_7 (fun q1 kq1 H hK hP hD hS => ?_)
  have hK : va_K (dC, dI) vwCl [(kq1, .int)] s := hK
  have hP : va_P (dC, dI) vwCl [(eo, .inr (6, [.int 0, .int 0, .int 0, .int 0, .int 0, .int 0, .int 0, .null, .null, .null, .null, .null])), (q1, .inl (kq1, 16, .inl (fun _ => (0 : Int32))))] H := hP
  have hD : va_D A [(eo, .inr (6, [.int 0, .int 0, .int 0, .int 0, .int 0, .int 0, .int 0, .null, .null, .null, .null, .null])), (q1, .inl (kq1, 16, .inl (fun _ => (0 : Int32))))] := hD
  refine W.widen (k := 1) (n := 16) (by omega) (by omega) ?_
  refine va_putF (D := (dC, dI)) (ci := 6) (v := .ref q1) (ty := .array .int) (C := RX5) (T := TX5) (N := 12) hx hb hts iw_c_Race_X5 tyX5 tyX5_ok nmX5 hown hK hP hD hS 0 rfl rfl 7 (by decide) (hts (.fieldLink RX5 9 "UnlikeBoats$Race" "entries" "[I") (List.mem_of_getElem? (i := 5) rfl)) (fun _ h9 => h9) rfl hin rfl (by decide +kernel) rfl rfl (Nat.le_of_ble_eq_true rfl) dX5_init_9 (fun H locs hP hD hS => ?_)
  have hP : va_P (dC, dI) vwCl [(eo, .inr (6, [.int 0, .int 0, .int 0, .int 0, .int 0, .int 0, .int 0, .ref q1, .null, .null, .null, .null])), (q1, .inl (kq1, 16, .inl (fun _ => (0 : Int32))))] H := hP
  have hD : va_D A [(eo, .inr (6, [.int 0, .int 0, .int 0, .int 0, .int 0, .int 0, .int 0, .ref q1, .null, .null, .null, .null])), (q1, .inl (kq1, 16, .inl (fun _ => (0 : Int32))))] := hD
  refine lv_aload_n hx hb dX5_init_12 rfl (lv_at hl 0 rfl) ?_
  refine lv_bipush (v := 16) hx hb dX5_init_13 (by decide) ?_
  refine va_newa (atype := .int) (ty := .int) (N' := 16) (a0 := (16, .inl (fun _ => (0 : Int32)))) hx hb (hts (.arrayClass .int) (List.mem_of_getElem? (i := 4) rfl)) rfl hK hP hD hS hA (fun _ => rfl) (by decide) (by decide) (Nat.le_of_ble_eq_true rfl) (Nat.le_of_ble_eq_true rfl) (Nat.le_of_ble_eq_true rfl) dX5_init_15 (fun q2 kq2 H hK hP hD hS => ?_)
  have hK : va_K (dC, dI) vwCl [(kq1, .int), (kq2, .int)] s := hK
  have hP : va_P (dC, dI) vwCl [(eo, .inr (6, [.int 0, .int 0, .int 0, .int 0, .int 0, .int 0, .int 0, .ref q1, .null, .null, .null, .null])), (q1, .inl (kq1, 16, .inl (fun _ => (0 : Int32)))), (q2, .inl (kq2, 16, .inl (fun _ => (0 : Int32))))] H := hP
  have hD : va_D A [(eo, .inr (6, [.int 0, .int 0, .int 0, .int 0, .int 0, .int 0, .int 0, .ref q1, .null, .null, .null, .null])), (q1, .inl (kq1, 16, .inl (fun _ => (0 : Int32)))), (q2, .inl (kq2, 16, .inl (fun _ => (0 : Int32))))] := hD
  refine W.widen (k := 2) (n := 32) (by omega) (by omega) ?_
  obtain rfl : kq1 = kq2 := ub_sa_int hK 0 1 rfl rfl
  have hK := hK.sub (tys' := [(kq1, .int)]) [0] rfl
  refine va_putF (D := (dC, dI)) (ci := 6) (v := .ref q2) (ty := .array .int) (C := RX5) (T := TX5) (N := 12) hx hb hts iw_c_Race_X5 tyX5 tyX5_ok nmX5 hown hK hP hD hS 0 rfl rfl 8 (by decide) (hts (.fieldLink RX5 15 "UnlikeBoats$Race" "redresses" "[I") (List.mem_of_getElem? (i := 6) rfl)) (fun _ h9 => h9) rfl hin rfl (by decide +kernel) rfl rfl (Nat.le_of_ble_eq_true rfl) dX5_init_17 (fun H locs hP hD hS => ?_)
  have hP : va_P (dC, dI) vwCl [(eo, .inr (6, [.int 0, .int 0, .int 0, .int 0, .int 0, .int 0, .int 0, .ref q1, .ref q2, .null, .null, .null])), (q1, .inl (kq1, 16, .inl (fun _ => (0 : Int32)))), (q2, .inl (kq1, 16, .inl (fun _ => (0 : Int32))))] H := hP
  have hD : va_D A [(eo, .inr (6, [.int 0, .int 0, .int 0, .int 0, .int 0, .int 0, .int 0, .ref q1, .ref q2, .null, .null, .null])), (q1, .inl (kq1, 16, .inl (fun _ => (0 : Int32)))), (q2, .inl (kq1, 16, .inl (fun _ => (0 : Int32))))] := hD
  refine lv_aload_n hx hb dX5_init_20 rfl (lv_at hl 0 rfl) ?_
  refine lv_bipush (v := 16) hx hb dX5_init_21 (by decide) ?_
  refine va_newa (atype := .int) (ty := .int) (N' := 16) (a0 := (16, .inl (fun _ => (0 : Int32)))) hx hb (hts (.arrayClass .int) (List.mem_of_getElem? (i := 4) rfl)) rfl hK hP hD hS hA (fun _ => rfl) (by decide) (by decide) (Nat.le_of_ble_eq_true rfl) (Nat.le_of_ble_eq_true rfl) (Nat.le_of_ble_eq_true rfl) dX5_init_23 (fun q3 kq3 H hK hP hD hS => ?_)
  have hK : va_K (dC, dI) vwCl [(kq1, .int), (kq3, .int)] s := hK
  have hP : va_P (dC, dI) vwCl [(eo, .inr (6, [.int 0, .int 0, .int 0, .int 0, .int 0, .int 0, .int 0, .ref q1, .ref q2, .null, .null, .null])), (q1, .inl (kq1, 16, .inl (fun _ => (0 : Int32)))), (q2, .inl (kq1, 16, .inl (fun _ => (0 : Int32)))), (q3, .inl (kq3, 16, .inl (fun _ => (0 : Int32))))] H := hP
  have hD : va_D A [(eo, .inr (6, [.int 0, .int 0, .int 0, .int 0, .int 0, .int 0, .int 0, .ref q1, .ref q2, .null, .null, .null])), (q1, .inl (kq1, 16, .inl (fun _ => (0 : Int32)))), (q2, .inl (kq1, 16, .inl (fun _ => (0 : Int32)))), (q3, .inl (kq3, 16, .inl (fun _ => (0 : Int32))))] := hD
  refine W.widen (k := 3) (n := 48) (by omega) (by omega) ?_
  obtain rfl : kq1 = kq3 := ub_sa_int hK 0 1 rfl rfl
  have hK := hK.sub (tys' := [(kq1, .int)]) [0] rfl
  refine va_putF (D := (dC, dI)) (ci := 6) (v := .ref q3) (ty := .array .int) (C := RX5) (T := TX5) (N := 12) hx hb hts iw_c_Race_X5 tyX5 tyX5_ok nmX5 hown hK hP hD hS 0 rfl rfl 9 (by decide) (hts (.fieldLink RX5 18 "UnlikeBoats$Race" "ends" "[I") (List.mem_of_getElem? (i := 7) rfl)) (fun _ h9 => h9) rfl hin rfl (by decide +kernel) rfl rfl (Nat.le_of_ble_eq_true rfl) dX5_init_25 (fun H locs hP hD hS => ?_)
  have hP : va_P (dC, dI) vwCl [(eo, .inr (6, [.int 0, .int 0, .int 0, .int 0, .int 0, .int 0, .int 0, .ref q1, .ref q2, .ref q3, .null, .null])), (q1, .inl (kq1, 16, .inl (fun _ => (0 : Int32)))), (q2, .inl (kq1, 16, .inl (fun _ => (0 : Int32)))), (q3, .inl (kq1, 16, .inl (fun _ => (0 : Int32))))] H := hP
  have hD : va_D A [(eo, .inr (6, [.int 0, .int 0, .int 0, .int 0, .int 0, .int 0, .int 0, .ref q1, .ref q2, .ref q3, .null, .null])), (q1, .inl (kq1, 16, .inl (fun _ => (0 : Int32)))), (q2, .inl (kq1, 16, .inl (fun _ => (0 : Int32)))), (q3, .inl (kq1, 16, .inl (fun _ => (0 : Int32))))] := hD
  refine lv_aload_n hx hb dX5_init_28 rfl (lv_at hl 0 rfl) ?_
  refine lv_bipush (v := 16) hx hb dX5_init_29 (by decide) ?_
  refine va_newa (atype := .int) (ty := .int) (N' := 16) (a0 := (16, .inl (fun _ => (0 : Int32)))) hx hb (hts (.arrayClass .int) (List.mem_of_getElem? (i := 4) rfl)) rfl hK hP hD hS hA (fun _ => rfl) (by decide) (by decide) (Nat.le_of_ble_eq_true rfl) (Nat.le_of_ble_eq_true rfl) (Nat.le_of_ble_eq_true rfl) dX5_init_31 (fun q4 kq4 H hK hP hD hS => ?_)
  have hK : va_K (dC, dI) vwCl [(kq1, .int), (kq4, .int)] s := hK
  have hP : va_P (dC, dI) vwCl [(eo, .inr (6, [.int 0, .int 0, .int 0, .int 0, .int 0, .int 0, .int 0, .ref q1, .ref q2, .ref q3, .null, .null])), (q1, .inl (kq1, 16, .inl (fun _ => (0 : Int32)))), (q2, .inl (kq1, 16, .inl (fun _ => (0 : Int32)))), (q3, .inl (kq1, 16, .inl (fun _ => (0 : Int32)))), (q4, .inl (kq4, 16, .inl (fun _ => (0 : Int32))))] H := hP
  have hD : va_D A [(eo, .inr (6, [.int 0, .int 0, .int 0, .int 0, .int 0, .int 0, .int 0, .ref q1, .ref q2, .ref q3, .null, .null])), (q1, .inl (kq1, 16, .inl (fun _ => (0 : Int32)))), (q2, .inl (kq1, 16, .inl (fun _ => (0 : Int32)))), (q3, .inl (kq1, 16, .inl (fun _ => (0 : Int32)))), (q4, .inl (kq4, 16, .inl (fun _ => (0 : Int32))))] := hD
  refine W.widen (k := 4) (n := 64) (by omega) (by omega) ?_
  obtain rfl : kq1 = kq4 := ub_sa_int hK 0 1 rfl rfl
  have hK := hK.sub (tys' := [(kq1, .int)]) [0] rfl
  refine va_putF (D := (dC, dI)) (ci := 6) (v := .ref q4) (ty := .array .int) (C := RX5) (T := TX5) (N := 12) hx hb hts iw_c_Race_X5 tyX5 tyX5_ok nmX5 hown hK hP hD hS 0 rfl rfl 10 (by decide) (hts (.fieldLink RX5 21 "UnlikeBoats$Race" "behind" "[I") (List.mem_of_getElem? (i := 8) rfl)) (fun _ h9 => h9) rfl hin rfl (by decide +kernel) rfl rfl (Nat.le_of_ble_eq_true rfl) dX5_init_33 (fun H locs hP hD hS => ?_)
  have hP : va_P (dC, dI) vwCl [(eo, .inr (6, [.int 0, .int 0, .int 0, .int 0, .int 0, .int 0, .int 0, .ref q1, .ref q2, .ref q3, .ref q4, .null])), (q1, .inl (kq1, 16, .inl (fun _ => (0 : Int32)))), (q2, .inl (kq1, 16, .inl (fun _ => (0 : Int32)))), (q3, .inl (kq1, 16, .inl (fun _ => (0 : Int32)))), (q4, .inl (kq1, 16, .inl (fun _ => (0 : Int32))))] H := hP
  have hD : va_D A [(eo, .inr (6, [.int 0, .int 0, .int 0, .int 0, .int 0, .int 0, .int 0, .ref q1, .ref q2, .ref q3, .ref q4, .null])), (q1, .inl (kq1, 16, .inl (fun _ => (0 : Int32)))), (q2, .inl (kq1, 16, .inl (fun _ => (0 : Int32)))), (q3, .inl (kq1, 16, .inl (fun _ => (0 : Int32)))), (q4, .inl (kq1, 16, .inl (fun _ => (0 : Int32))))] := hD
  have hP := hP.sub (ws' := [(eo, .inr (6, [.int 0, .int 0, .int 0, .int 0, .int 0, .int 0, .int 0, .ref q1, .ref q2, .ref q3, .ref q4, .null])), (q1, .inl (kq1, 16, .inl (fun _ => (0 : Int32)))), (q2, .inl (kq1, 16, .inl (fun _ => (0 : Int32)))), (q3, .inl (kq1, 16, .inl (fun _ => (0 : Int32))))]) [0, 1, 2, 3] rfl
  have hD := hD.sub (ws' := [(eo, .inr (6, [.int 0, .int 0, .int 0, .int 0, .int 0, .int 0, .int 0, .ref q1, .ref q2, .ref q3, .ref q4, .null])), (q1, .inl (kq1, 16, .inl (fun _ => (0 : Int32)))), (q2, .inl (kq1, 16, .inl (fun _ => (0 : Int32)))), (q3, .inl (kq1, 16, .inl (fun _ => (0 : Int32))))]) [0, 1, 2, 3] (by decide) rfl
  refine lv_aload_n hx hb dX5_init_36 rfl (lv_at hl 0 rfl) ?_
  refine lv_sipush (v := 401) hx hb dX5_init_37 (by decide) ?_
  refine va_newa (atype := .int) (ty := .int) (N' := 401) (a0 := (401, .inl (fun _ => (0 : Int32)))) hx hb (hts (.arrayClass .int) (List.mem_of_getElem? (i := 4) rfl)) rfl hK hP hD hS hA (fun _ => rfl) (by decide) (by decide) (Nat.le_of_ble_eq_true rfl) (Nat.le_of_ble_eq_true rfl) (Nat.le_of_ble_eq_true rfl) dX5_init_40 (fun q5 kq5 H hK hP hD hS => ?_)
  have hK : va_K (dC, dI) vwCl [(kq1, .int), (kq5, .int)] s := hK
  have hP : va_P (dC, dI) vwCl [(eo, .inr (6, [.int 0, .int 0, .int 0, .int 0, .int 0, .int 0, .int 0, .ref q1, .ref q2, .ref q3, .ref q4, .null])), (q1, .inl (kq1, 16, .inl (fun _ => (0 : Int32)))), (q2, .inl (kq1, 16, .inl (fun _ => (0 : Int32)))), (q3, .inl (kq1, 16, .inl (fun _ => (0 : Int32)))), (q5, .inl (kq5, 401, .inl (fun _ => (0 : Int32))))] H := hP
  have hD : va_D A [(eo, .inr (6, [.int 0, .int 0, .int 0, .int 0, .int 0, .int 0, .int 0, .ref q1, .ref q2, .ref q3, .ref q4, .null])), (q1, .inl (kq1, 16, .inl (fun _ => (0 : Int32)))), (q2, .inl (kq1, 16, .inl (fun _ => (0 : Int32)))), (q3, .inl (kq1, 16, .inl (fun _ => (0 : Int32)))), (q5, .inl (kq5, 401, .inl (fun _ => (0 : Int32))))] := hD
  refine W.widen (k := 5) (n := 465) (by omega) (by omega) ?_
  obtain rfl : kq1 = kq5 := ub_sa_int hK 0 1 rfl rfl
  have hK := hK.sub (tys' := [(kq1, .int)]) [0] rfl
  refine va_putF (D := (dC, dI)) (ci := 6) (v := .ref q5) (ty := .array .int) (C := RX5) (T := TX5) (N := 12) hx hb hts iw_c_Race_X5 tyX5 tyX5_ok nmX5 hown hK hP hD hS 0 rfl rfl 11 (by decide) (hts (.fieldLink RX5 24 "UnlikeBoats$Race" "swifts" "[I") (List.mem_of_getElem? (i := 9) rfl)) (fun _ h9 => h9) rfl hin rfl (by decide +kernel) rfl rfl (Nat.le_of_ble_eq_true rfl) dX5_init_42 (fun H locs hP hD hS => ?_)
  have hP : va_P (dC, dI) vwCl [(eo, .inr (6, [.int 0, .int 0, .int 0, .int 0, .int 0, .int 0, .int 0, .ref q1, .ref q2, .ref q3, .ref q4, .ref q5])), (q1, .inl (kq1, 16, .inl (fun _ => (0 : Int32)))), (q2, .inl (kq1, 16, .inl (fun _ => (0 : Int32)))), (q3, .inl (kq1, 16, .inl (fun _ => (0 : Int32)))), (q5, .inl (kq1, 401, .inl (fun _ => (0 : Int32))))] H := hP
  have hD : va_D A [(eo, .inr (6, [.int 0, .int 0, .int 0, .int 0, .int 0, .int 0, .int 0, .ref q1, .ref q2, .ref q3, .ref q4, .ref q5])), (q1, .inl (kq1, 16, .inl (fun _ => (0 : Int32)))), (q2, .inl (kq1, 16, .inl (fun _ => (0 : Int32)))), (q3, .inl (kq1, 16, .inl (fun _ => (0 : Int32)))), (q5, .inl (kq1, 401, .inl (fun _ => (0 : Int32))))] := hD
  have hP := hP.sub (ws' := [(eo, .inr (6, [.int 0, .int 0, .int 0, .int 0, .int 0, .int 0, .int 0, .ref q1, .ref q2, .ref q3, .ref q4, .ref q5])), (q1, .inl (kq1, 16, .inl (fun _ => (0 : Int32)))), (q2, .inl (kq1, 16, .inl (fun _ => (0 : Int32)))), (q3, .inl (kq1, 16, .inl (fun _ => (0 : Int32))))]) [0, 1, 2, 3] rfl
  have hD := hD.sub (ws' := [(eo, .inr (6, [.int 0, .int 0, .int 0, .int 0, .int 0, .int 0, .int 0, .ref q1, .ref q2, .ref q3, .ref q4, .ref q5])), (q1, .inl (kq1, 16, .inl (fun _ => (0 : Int32)))), (q2, .inl (kq1, 16, .inl (fun _ => (0 : Int32)))), (q3, .inl (kq1, 16, .inl (fun _ => (0 : Int32))))]) [0, 1, 2, 3] (by decide) rfl
  refine lv_aload_n hx hb dX5_init_45 rfl (lv_at hl 0 rfl) ?_
  refine lv_iload_n hx hb dX5_init_46 rfl (lv_at hl 1 rfl) ?_
  refine va_putF (D := (dC, dI)) (ci := 6) (v := .int t0) (ty := .int) (C := RX5) (T := TX5) (N := 12) hx hb hts iw_c_Race_X5 tyX5 tyX5_ok nmX5 hown hK hP hD hS 0 rfl rfl 0 (by decide) (hts (.fieldLink RX5 27 "UnlikeBoats$Race" "told" "I") (List.mem_of_getElem? (i := 10) rfl)) (fun _ h9 => h9) rfl hin rfl (by decide +kernel) rfl rfl (Nat.le_of_ble_eq_true rfl) dX5_init_47 (fun H locs hP hD hS => ?_)
  have hP : va_P (dC, dI) vwCl [(eo, .inr (6, [.int t0, .int 0, .int 0, .int 0, .int 0, .int 0, .int 0, .ref q1, .ref q2, .ref q3, .ref q4, .ref q5])), (q1, .inl (kq1, 16, .inl (fun _ => (0 : Int32)))), (q2, .inl (kq1, 16, .inl (fun _ => (0 : Int32)))), (q3, .inl (kq1, 16, .inl (fun _ => (0 : Int32))))] H := hP
  have hD : va_D A [(eo, .inr (6, [.int t0, .int 0, .int 0, .int 0, .int 0, .int 0, .int 0, .ref q1, .ref q2, .ref q3, .ref q4, .ref q5])), (q1, .inl (kq1, 16, .inl (fun _ => (0 : Int32)))), (q2, .inl (kq1, 16, .inl (fun _ => (0 : Int32)))), (q3, .inl (kq1, 16, .inl (fun _ => (0 : Int32))))] := hD
  refine lv_aload_n hx hb dX5_init_50 rfl (lv_at hl 0 rfl) ?_
  refine lv_iload_n hx hb dX5_init_51 rfl (lv_at hl 2 rfl) ?_
  refine va_putF (D := (dC, dI)) (ci := 6) (v := .int a0) (ty := .int) (C := RX5) (T := TX5) (N := 12) hx hb hts iw_c_Race_X5 tyX5 tyX5_ok nmX5 hown hK hP hD hS 0 rfl rfl 1 (by decide) (hts (.fieldLink RX5 31 "UnlikeBoats$Race" "day" "I") (List.mem_of_getElem? (i := 11) rfl)) (fun _ h9 => h9) rfl hin rfl (by decide +kernel) rfl rfl (Nat.le_of_ble_eq_true rfl) dX5_init_52 (fun H locs hP hD hS => ?_)
  have hP : va_P (dC, dI) vwCl [(eo, .inr (6, [.int t0, .int a0, .int 0, .int 0, .int 0, .int 0, .int 0, .ref q1, .ref q2, .ref q3, .ref q4, .ref q5])), (q1, .inl (kq1, 16, .inl (fun _ => (0 : Int32)))), (q2, .inl (kq1, 16, .inl (fun _ => (0 : Int32)))), (q3, .inl (kq1, 16, .inl (fun _ => (0 : Int32))))] H := hP
  have hD : va_D A [(eo, .inr (6, [.int t0, .int a0, .int 0, .int 0, .int 0, .int 0, .int 0, .ref q1, .ref q2, .ref q3, .ref q4, .ref q5])), (q1, .inl (kq1, 16, .inl (fun _ => (0 : Int32)))), (q2, .inl (kq1, 16, .inl (fun _ => (0 : Int32)))), (q3, .inl (kq1, 16, .inl (fun _ => (0 : Int32))))] := hD
  refine lv_aload_n hx hb dX5_init_55 rfl (lv_at hl 0 rfl) ?_
  refine lv_iload_n hx hb dX5_init_56 rfl (lv_at hl 3 rfl) ?_
  refine va_putF (D := (dC, dI)) (ci := 6) (v := .int a1) (ty := .int) (C := RX5) (T := TX5) (N := 12) hx hb hts iw_c_Race_X5 tyX5 tyX5_ok nmX5 hown hK hP hD hS 0 rfl rfl 2 (by decide) (hts (.fieldLink RX5 34 "UnlikeBoats$Race" "miles" "I") (List.mem_of_getElem? (i := 12) rfl)) (fun _ h9 => h9) rfl hin rfl (by decide +kernel) rfl rfl (Nat.le_of_ble_eq_true rfl) dX5_init_57 (fun H locs hP hD hS => ?_)
  have hP : va_P (dC, dI) vwCl [(eo, .inr (6, [.int t0, .int a0, .int a1, .int 0, .int 0, .int 0, .int 0, .ref q1, .ref q2, .ref q3, .ref q4, .ref q5])), (q1, .inl (kq1, 16, .inl (fun _ => (0 : Int32)))), (q2, .inl (kq1, 16, .inl (fun _ => (0 : Int32)))), (q3, .inl (kq1, 16, .inl (fun _ => (0 : Int32))))] H := hP
  have hD : va_D A [(eo, .inr (6, [.int t0, .int a0, .int a1, .int 0, .int 0, .int 0, .int 0, .ref q1, .ref q2, .ref q3, .ref q4, .ref q5])), (q1, .inl (kq1, 16, .inl (fun _ => (0 : Int32)))), (q2, .inl (kq1, 16, .inl (fun _ => (0 : Int32)))), (q3, .inl (kq1, 16, .inl (fun _ => (0 : Int32))))] := hD
  refine lv_aload_n hx hb dX5_init_60 rfl (lv_at hl 0 rfl) ?_
  refine lv_iload hx hb dX5_init_61 (lv_at hl 4 rfl) ?_
  refine va_putF (D := (dC, dI)) (ci := 6) (v := .int a2) (ty := .int) (C := RX5) (T := TX5) (N := 12) hx hb hts iw_c_Race_X5 tyX5 tyX5_ok nmX5 hown hK hP hD hS 0 rfl rfl 3 (by decide) (hts (.fieldLink RX5 37 "UnlikeBoats$Race" "way" "I") (List.mem_of_getElem? (i := 13) rfl)) (fun _ h9 => h9) rfl hin rfl (by decide +kernel) rfl rfl (Nat.le_of_ble_eq_true rfl) dX5_init_63 (fun H locs hP hD hS => ?_)
  have hP : va_P (dC, dI) vwCl [(eo, .inr (6, [.int t0, .int a0, .int a1, .int a2, .int 0, .int 0, .int 0, .ref q1, .ref q2, .ref q3, .ref q4, .ref q5])), (q1, .inl (kq1, 16, .inl (fun _ => (0 : Int32)))), (q2, .inl (kq1, 16, .inl (fun _ => (0 : Int32)))), (q3, .inl (kq1, 16, .inl (fun _ => (0 : Int32))))] H := hP
  have hD : va_D A [(eo, .inr (6, [.int t0, .int a0, .int a1, .int a2, .int 0, .int 0, .int 0, .ref q1, .ref q2, .ref q3, .ref q4, .ref q5])), (q1, .inl (kq1, 16, .inl (fun _ => (0 : Int32)))), (q2, .inl (kq1, 16, .inl (fun _ => (0 : Int32)))), (q3, .inl (kq1, 16, .inl (fun _ => (0 : Int32))))] := hD
  refine lv_aload_n hx hb dX5_init_66 rfl (lv_at hl 0 rfl) ?_
  refine lv_iload hx hb dX5_init_67 (lv_at hl 5 rfl) ?_
  refine va_putF (D := (dC, dI)) (ci := 6) (v := .int a3) (ty := .int) (C := RX5) (T := TX5) (N := 12) hx hb hts iw_c_Race_X5 tyX5 tyX5_ok nmX5 hown hK hP hD hS 0 rfl rfl 4 (by decide) (hts (.fieldLink RX5 40 "UnlikeBoats$Race" "wind" "I") (List.mem_of_getElem? (i := 14) rfl)) (fun _ h9 => h9) rfl hin rfl (by decide +kernel) rfl rfl (Nat.le_of_ble_eq_true rfl) dX5_init_69 (fun H locs hP hD hS => ?_)
  have hP : va_P (dC, dI) vwCl [(eo, .inr (6, [.int t0, .int a0, .int a1, .int a2, .int a3, .int 0, .int 0, .ref q1, .ref q2, .ref q3, .ref q4, .ref q5])), (q1, .inl (kq1, 16, .inl (fun _ => (0 : Int32)))), (q2, .inl (kq1, 16, .inl (fun _ => (0 : Int32)))), (q3, .inl (kq1, 16, .inl (fun _ => (0 : Int32))))] H := hP
  have hD : va_D A [(eo, .inr (6, [.int t0, .int a0, .int a1, .int a2, .int a3, .int 0, .int 0, .ref q1, .ref q2, .ref q3, .ref q4, .ref q5])), (q1, .inl (kq1, 16, .inl (fun _ => (0 : Int32)))), (q2, .inl (kq1, 16, .inl (fun _ => (0 : Int32)))), (q3, .inl (kq1, 16, .inl (fun _ => (0 : Int32))))] := hD
  refine lv_aload_n hx hb dX5_init_72 rfl (lv_at hl 0 rfl) ?_
  refine lv_iload hx hb dX5_init_73 (lv_at hl 6 rfl) ?_
  refine va_putF (D := (dC, dI)) (ci := 6) (v := .int a4) (ty := .int) (C := RX5) (T := TX5) (N := 12) hx hb hts iw_c_Race_X5 tyX5 tyX5_ok nmX5 hown hK hP hD hS 0 rfl rfl 5 (by decide) (hts (.fieldLink RX5 43 "UnlikeBoats$Race" "x" "I") (List.mem_of_getElem? (i := 15) rfl)) (fun _ h9 => h9) rfl hin rfl (by decide +kernel) rfl rfl (Nat.le_of_ble_eq_true rfl) dX5_init_75 (fun H locs hP hD hS => ?_)
  have hP : va_P (dC, dI) vwCl [(eo, .inr (6, [.int t0, .int a0, .int a1, .int a2, .int a3, .int a4, .int 0, .ref q1, .ref q2, .ref q3, .ref q4, .ref q5])), (q1, .inl (kq1, 16, .inl (fun _ => (0 : Int32)))), (q2, .inl (kq1, 16, .inl (fun _ => (0 : Int32)))), (q3, .inl (kq1, 16, .inl (fun _ => (0 : Int32))))] H := hP
  have hD : va_D A [(eo, .inr (6, [.int t0, .int a0, .int a1, .int a2, .int a3, .int a4, .int 0, .ref q1, .ref q2, .ref q3, .ref q4, .ref q5])), (q1, .inl (kq1, 16, .inl (fun _ => (0 : Int32)))), (q2, .inl (kq1, 16, .inl (fun _ => (0 : Int32)))), (q3, .inl (kq1, 16, .inl (fun _ => (0 : Int32))))] := hD
  refine lv_aload_n hx hb dX5_init_78 rfl (lv_at hl 0 rfl) ?_
  refine lv_iload hx hb dX5_init_79 (lv_at hl 7 rfl) ?_
  refine va_putF (D := (dC, dI)) (ci := 6) (v := .int a5) (ty := .int) (C := RX5) (T := TX5) (N := 12) hx hb hts iw_c_Race_X5 tyX5 tyX5_ok nmX5 hown hK hP hD hS 0 rfl rfl 6 (by decide) (hts (.fieldLink RX5 46 "UnlikeBoats$Race" "y" "I") (List.mem_of_getElem? (i := 16) rfl)) (fun _ h9 => h9) rfl hin rfl (by decide +kernel) rfl rfl (Nat.le_of_ble_eq_true rfl) dX5_init_81 (fun H locs hP hD hS => ?_)
  have hP : va_P (dC, dI) vwCl [(eo, .inr (6, [.int t0, .int a0, .int a1, .int a2, .int a3, .int a4, .int a5, .ref q1, .ref q2, .ref q3, .ref q4, .ref q5])), (q1, .inl (kq1, 16, .inl (fun _ => (0 : Int32)))), (q2, .inl (kq1, 16, .inl (fun _ => (0 : Int32)))), (q3, .inl (kq1, 16, .inl (fun _ => (0 : Int32))))] H := hP
  have hD : va_D A [(eo, .inr (6, [.int t0, .int a0, .int a1, .int a2, .int a3, .int a4, .int a5, .ref q1, .ref q2, .ref q3, .ref q4, .ref q5])), (q1, .inl (kq1, 16, .inl (fun _ => (0 : Int32)))), (q2, .inl (kq1, 16, .inl (fun _ => (0 : Int32)))), (q3, .inl (kq1, 16, .inl (fun _ => (0 : Int32))))] := hD
  refine lv_aload_n hx hb dX5_init_84 rfl (lv_at hl 0 rfl) ?_
  refine va_get (D := (dC, dI)) (ci := 6) (v := .ref q1) (C := RX5) (T := TX5) (N := 12) hx hb hts iw_c_Race_X5 hown hK hP 0 rfl rfl 7 (by decide) (hts (.fieldLink RX5 9 "UnlikeBoats$Race" "entries" "[I") (List.mem_of_getElem? (i := 5) rfl)) (fun _ h9 => h9) rfl dX5_init_85 ?_
  refine lv_iconst (v := -1) hx hb dX5_init_88 (by decide) ?_
  have hPc := hP.sub (ws' := [(q1, .inl (kq1, 16, .inl (fun _ => (0 : Int32))))]) [1] rfl
  have hKc := hK.sub (tys' := [(kq1, .int)]) [0] rfl
  have hDc := hD.sub (ws' := [(q1, .inl (kq1, 16, .inl (fun _ => (0 : Int32))))]) [1] (by decide) rfl
  have hFc := va_free (wc := [(q1, .inl (kq1, 16, .inl (fun _ => (0 : Int32))))]) hD hS hA [1] rfl
  refine va_callv (va_runS (As := [.ref q1, .int (-1)]) (rest := []) ⟨hx, hb, hml, hown, hts⟩ (c_fill l dC dI q1 kq1 (16) (fun _ => (0 : Int32)) (-1) H.size (by decide)) (va_cwS 2 hts g_c_Race_c_fill_49 rfl rfl rfl (by decide +kernel) ⟨Nat.le_of_ble_eq_true rfl, Nat.le_of_ble_eq_true rfl⟩) ⟨fun a U g mk q => by obtain ⟨e0, e1, qP, qK, qD⟩ := q; exact ⟨e0, e1, qP, va_K.moved (u := U) (U := U.calling g mk a) (Vm.Alike.refl U.vm) qK, qD⟩, fun U hU hW => ⟨rfl, by rw [hU], by rw [hU]; exact hPc, va_K.moved hW.alike hKc, hDc.weaken (fun _ _ _ _ => trivial)⟩⟩ rfl rfl hl.1 rfl (lv_room (Nat.le_of_ble_eq_true rfl)) dX5_init_89 ⟨Nat.le_of_ble_eq_true rfl, Nat.le_of_ble_eq_true rfl⟩) hS (fun q _ h => hFc q h) hFc (fun u7 t H1 locs ht hvm hw hB hz1 hk1 hS => ?_)
  obtain ⟨hP1, hK1, hD1⟩ := hB
  rw [ht] at hP1
  obtain ⟨hP, hD⟩ := va_join (wr := [(eo, .inr (6, [.int t0, .int a0, .int a1, .int a2, .int a3, .int a4, .int a5, .ref q1, .ref q2, .ref q3, .ref q4, .ref q5])), (q2, .inl (kq1, 16, .inl (fun _ => (0 : Int32)))), (q3, .inl (kq1, 16, .inl (fun _ => (0 : Int32))))]) (w1 := [(q1, .inl (kq1, 16, .inl u7))]) hP hD [1] [0, 2, 3] rfl rfl (by decide) (by decide) hk1 hFc hP1 hD1
  have hK1 := va_K.moved hvm.symm hK1
  have hK := hK.app hK1
  have hK : va_K (dC, dI) vwCl [(kq1, .int), (kq1, .int)] s := hK
  generalize H1 = H at hP hS ⊢
  have hP : va_P (dC, dI) vwCl [(eo, .inr (6, [.int t0, .int a0, .int a1, .int a2, .int a3, .int a4, .int a5, .ref q1, .ref q2, .ref q3, .ref q4, .ref q5])), (q2, .inl (kq1, 16, .inl (fun _ => (0 : Int32)))), (q3, .inl (kq1, 16, .inl (fun _ => (0 : Int32)))), (q1, .inl (kq1, 16, .inl u7))] H := hP
  have hD : va_D A [(eo, .inr (6, [.int t0, .int a0, .int a1, .int a2, .int a3, .int a4, .int a5, .ref q1, .ref q2, .ref q3, .ref q4, .ref q5])), (q2, .inl (kq1, 16, .inl (fun _ => (0 : Int32)))), (q3, .inl (kq1, 16, .inl (fun _ => (0 : Int32)))), (q1, .inl (kq1, 16, .inl u7))] := hD
  have hK := hK.sub (tys' := [(kq1, .int)]) [0] rfl
  refine W.widen (k := 5) (n := 465) (by omega) (by omega) ?_
  have hw_u7 := hw
  refine lv_aload_n hx hb dX5_init_92 rfl (lv_at hl 0 rfl) ?_
  refine va_get (D := (dC, dI)) (ci := 6) (v := .ref q2) (C := RX5) (T := TX5) (N := 12) hx hb hts iw_c_Race_X5 hown hK hP 0 rfl rfl 8 (by decide) (hts (.fieldLink RX5 15 "UnlikeBoats$Race" "redresses" "[I") (List.mem_of_getElem? (i := 6) rfl)) (fun _ h9 => h9) rfl dX5_init_93 ?_
  refine lv_iconst (v := -1) hx hb dX5_init_96 (by decide) ?_
  have hPc := hP.sub (ws' := [(q2, .inl (kq1, 16, .inl (fun _ => (0 : Int32))))]) [1] rfl
  have hKc := hK.sub (tys' := [(kq1, .int)]) [0] rfl
  have hDc := hD.sub (ws' := [(q2, .inl (kq1, 16, .inl (fun _ => (0 : Int32))))]) [1] (by decide) rfl
  have hFc := va_free (wc := [(q2, .inl (kq1, 16, .inl (fun _ => (0 : Int32))))]) hD hS hA [1] rfl
  refine va_callv (va_runS (As := [.ref q2, .int (-1)]) (rest := []) ⟨hx, hb, hml, hown, hts⟩ (c_fill l dC dI q2 kq1 (16) (fun _ => (0 : Int32)) (-1) H.size (by decide)) (va_cwS 2 hts g_c_Race_c_fill_49 rfl rfl rfl (by decide +kernel) ⟨Nat.le_of_ble_eq_true rfl, Nat.le_of_ble_eq_true rfl⟩) ⟨fun a U g mk q => by obtain ⟨e0, e1, qP, qK, qD⟩ := q; exact ⟨e0, e1, qP, va_K.moved (u := U) (U := U.calling g mk a) (Vm.Alike.refl U.vm) qK, qD⟩, fun U hU hW => ⟨rfl, by rw [hU], by rw [hU]; exact hPc, va_K.moved hW.alike hKc, hDc.weaken (fun _ _ _ _ => trivial)⟩⟩ rfl rfl hl.1 rfl (lv_room (Nat.le_of_ble_eq_true rfl)) dX5_init_97 ⟨Nat.le_of_ble_eq_true rfl, Nat.le_of_ble_eq_true rfl⟩) hS (fun q _ h => hFc q h) hFc (fun u9 t H1 locs ht hvm hw hB hz1 hk1 hS => ?_)
  obtain ⟨hP1, hK1, hD1⟩ := hB
  rw [ht] at hP1
  obtain ⟨hP, hD⟩ := va_join (wr := [(eo, .inr (6, [.int t0, .int a0, .int a1, .int a2, .int a3, .int a4, .int a5, .ref q1, .ref q2, .ref q3, .ref q4, .ref q5])), (q3, .inl (kq1, 16, .inl (fun _ => (0 : Int32)))), (q1, .inl (kq1, 16, .inl u7))]) (w1 := [(q2, .inl (kq1, 16, .inl u9))]) hP hD [1] [0, 2, 3] rfl rfl (by decide) (by decide) hk1 hFc hP1 hD1
  have hK1 := va_K.moved hvm.symm hK1
  have hK := hK.app hK1
  have hK : va_K (dC, dI) vwCl [(kq1, .int), (kq1, .int)] s := hK
  generalize H1 = H at hP hS ⊢
  have hP : va_P (dC, dI) vwCl [(eo, .inr (6, [.int t0, .int a0, .int a1, .int a2, .int a3, .int a4, .int a5, .ref q1, .ref q2, .ref q3, .ref q4, .ref q5])), (q3, .inl (kq1, 16, .inl (fun _ => (0 : Int32)))), (q1, .inl (kq1, 16, .inl u7)), (q2, .inl (kq1, 16, .inl u9))] H := hP
  have hD : va_D A [(eo, .inr (6, [.int t0, .int a0, .int a1, .int a2, .int a3, .int a4, .int a5, .ref q1, .ref q2, .ref q3, .ref q4, .ref q5])), (q3, .inl (kq1, 16, .inl (fun _ => (0 : Int32)))), (q1, .inl (kq1, 16, .inl u7)), (q2, .inl (kq1, 16, .inl u9))] := hD
  have hK := hK.sub (tys' := [(kq1, .int)]) [0] rfl
  refine W.widen (k := 5) (n := 465) (by omega) (by omega) ?_
  have hw_u9 := hw
  refine lv_aload_n hx hb dX5_init_100 rfl (lv_at hl 0 rfl) ?_
  refine va_get (D := (dC, dI)) (ci := 6) (v := .ref q3) (C := RX5) (T := TX5) (N := 12) hx hb hts iw_c_Race_X5 hown hK hP 0 rfl rfl 9 (by decide) (hts (.fieldLink RX5 18 "UnlikeBoats$Race" "ends" "[I") (List.mem_of_getElem? (i := 7) rfl)) (fun _ h9 => h9) rfl dX5_init_101 ?_
  refine lv_iconst (v := -1) hx hb dX5_init_104 (by decide) ?_
  have hPc := hP.sub (ws' := [(q3, .inl (kq1, 16, .inl (fun _ => (0 : Int32))))]) [1] rfl
  have hKc := hK.sub (tys' := [(kq1, .int)]) [0] rfl
  have hDc := hD.sub (ws' := [(q3, .inl (kq1, 16, .inl (fun _ => (0 : Int32))))]) [1] (by decide) rfl
  have hFc := va_free (wc := [(q3, .inl (kq1, 16, .inl (fun _ => (0 : Int32))))]) hD hS hA [1] rfl
  refine va_callv (va_runS (As := [.ref q3, .int (-1)]) (rest := []) ⟨hx, hb, hml, hown, hts⟩ (c_fill l dC dI q3 kq1 (16) (fun _ => (0 : Int32)) (-1) H.size (by decide)) (va_cwS 2 hts g_c_Race_c_fill_49 rfl rfl rfl (by decide +kernel) ⟨Nat.le_of_ble_eq_true rfl, Nat.le_of_ble_eq_true rfl⟩) ⟨fun a U g mk q => by obtain ⟨e0, e1, qP, qK, qD⟩ := q; exact ⟨e0, e1, qP, va_K.moved (u := U) (U := U.calling g mk a) (Vm.Alike.refl U.vm) qK, qD⟩, fun U hU hW => ⟨rfl, by rw [hU], by rw [hU]; exact hPc, va_K.moved hW.alike hKc, hDc.weaken (fun _ _ _ _ => trivial)⟩⟩ rfl rfl hl.1 rfl (lv_room (Nat.le_of_ble_eq_true rfl)) dX5_init_105 ⟨Nat.le_of_ble_eq_true rfl, Nat.le_of_ble_eq_true rfl⟩) hS (fun q _ h => hFc q h) hFc (fun u11 t H1 locs ht hvm hw hB hz1 hk1 hS => ?_)
  obtain ⟨hP1, hK1, hD1⟩ := hB
  rw [ht] at hP1
  obtain ⟨hP, hD⟩ := va_join (wr := [(eo, .inr (6, [.int t0, .int a0, .int a1, .int a2, .int a3, .int a4, .int a5, .ref q1, .ref q2, .ref q3, .ref q4, .ref q5])), (q1, .inl (kq1, 16, .inl u7)), (q2, .inl (kq1, 16, .inl u9))]) (w1 := [(q3, .inl (kq1, 16, .inl u11))]) hP hD [1] [0, 2, 3] rfl rfl (by decide) (by decide) hk1 hFc hP1 hD1
  have hK1 := va_K.moved hvm.symm hK1
  have hK := hK.app hK1
  have hK : va_K (dC, dI) vwCl [(kq1, .int), (kq1, .int)] s := hK
  generalize H1 = H at hP hS ⊢
  have hP : va_P (dC, dI) vwCl [(eo, .inr (6, [.int t0, .int a0, .int a1, .int a2, .int a3, .int a4, .int a5, .ref q1, .ref q2, .ref q3, .ref q4, .ref q5])), (q1, .inl (kq1, 16, .inl u7)), (q2, .inl (kq1, 16, .inl u9)), (q3, .inl (kq1, 16, .inl u11))] H := hP
  have hD : va_D A [(eo, .inr (6, [.int t0, .int a0, .int a1, .int a2, .int a3, .int a4, .int a5, .ref q1, .ref q2, .ref q3, .ref q4, .ref q5])), (q1, .inl (kq1, 16, .inl u7)), (q2, .inl (kq1, 16, .inl u9)), (q3, .inl (kq1, 16, .inl u11))] := hD
  have hK := hK.sub (tys' := [(kq1, .int)]) [0] rfl
  refine W.widen (k := 5) (n := 465) (by omega) (by omega) ?_
  have hw_u11 := hw
  have hP9 := hP.sub (ws' := [(eo, .inr (6, [.int t0, .int a0, .int a1, .int a2, .int a3, .int a4, .int a5, .ref q1, .ref q2, .ref q3, .ref q4, .ref q5]))]) [0] rfl
  have hD9 := hD.sub (ws' := [(eo, .inr (6, [.int t0, .int a0, .int a1, .int a2, .int a3, .int a4, .int a5, .ref q1, .ref q2, .ref q3, .ref q4, .ref q5]))]) [0] (by decide) rfl
  have hK9 := hK.sub (tys' := []) [] rfl
  exact W.vret hx hb hr (fun t ht hW => ⟨⟨(q1, q2, q3, q4, q5), rfl, trivial, (by rw [ht]; exact hP9), va_K.moved hW.alike hK9, hD9⟩, hS.F ht⟩) hS.2.2 dX5_init_108
def A_c_race : List Cond := [.fieldLink RX12 10 "UnlikeBoats" "book" "LUnlikeBoats$Book;", .fieldLink RX12 55 "UnlikeBoats$Book" "now" "I", .methodLink RX12 59 yX12_within, .static yX12_within, .initialized RX12, .fieldLink RX12 127 "UnlikeBoats$Book" "races" "Ljava/util/ArrayList;", .methodLink RX12 77 yJx4a65c_size_8abf5, .instanceMethod yJx4a65c_size_8abf5, .selects RJx4a65c yJx4a65c_size_8abf5 yJx4a65c_size_8abf5, .initialized RJx4a65c, .classLink RX12 130 RX5, .instantiable RX5 12, .initialized RX5, .methodLink RX12 132 yX5_init, .instanceMethod yX5_init, .methodLink RX12 88 yJx4a65c_add_9ea2d, .instanceMethod yJx4a65c_add_9ea2d, .selects RJx4a65c yJx4a65c_add_9ea2d yJx4a65c_add_9ea2d, .code yX12_within cX12_within 3 (some .boolean), .code yJx4a65c_size_8abf5 cJx4a65c_size_8abf5 1 (some .int), .fieldLink RJx4a65c 48 "java/util/ArrayList" "size" "I", .code yX5_init cX5_init 8 none, .instanceMethod objectInit, .code objectInit ⟨#[0xb1]⟩ 1 none, .methodLink RX5 3 objectInit, .arrayClass .int, .fieldLink RX5 9 "UnlikeBoats$Race" "entries" "[I", .fieldLink RX5 15 "UnlikeBoats$Race" "redresses" "[I", .fieldLink RX5 18 "UnlikeBoats$Race" "ends" "[I", .fieldLink RX5 21 "UnlikeBoats$Race" "behind" "[I", .fieldLink RX5 24 "UnlikeBoats$Race" "swifts" "[I", .fieldLink RX5 27 "UnlikeBoats$Race" "told" "I", .fieldLink RX5 31 "UnlikeBoats$Race" "day" "I", .fieldLink RX5 34 "UnlikeBoats$Race" "miles" "I", .fieldLink RX5 37 "UnlikeBoats$Race" "way" "I", .fieldLink RX5 40 "UnlikeBoats$Race" "wind" "I", .fieldLink RX5 43 "UnlikeBoats$Race" "x" "I", .fieldLink RX5 46 "UnlikeBoats$Race" "y" "I", .methodLink RX5 49 yJ7_fill_53178, .static yJ7_fill_53178, .initialized RJ7, .code yJ7_fill_53178 cJ7_fill_53178 4 none, .code yJx4a65c_add_9ea2d cJx4a65c_add_9ea2d 2 (some .boolean), .sameField "java/util/ArrayList" "java/util/AbstractList" "modCount" "I", .fieldLink RJx4a65c 63 "java/util/ArrayList" "modCount" "I", .fieldLink RJx4a65c 9 "java/util/ArrayList" "elementData" "[Ljava/lang/Object;", .methodLink RJx4a65c 131 yJx4a65c_add_72be8, .instanceMethod yJx4a65c_add_72be8, .selects RJx4a65c yJx4a65c_add_72be8 yJx4a65c_add_72be8, .code yJx4a65c_add_72be8 cJx4a65c_add_72be8 4 none, .methodLink RJx4a65c 129 yJx4a65c_grow_d5877, .instanceMethod yJx4a65c_grow_d5877, .selects RJx4a65c yJx4a65c_grow_d5877 yJx4a65c_grow_d5877, .code yJx4a65c_grow_d5877 cJx4a65c_grow_d5877 1 (some (.array (.object "java/lang/Object"))), .methodLink RJx4a65c 69 yJx4a65c_grow_92f84, .instanceMethod yJx4a65c_grow_92f84, .selects RJx4a65c yJx4a65c_grow_92f84 yJx4a65c_grow_92f84, .code yJx4a65c_grow_92f84 cJx4a65c_grow_92f84 4 (some (.array (.object "java/lang/Object"))), .fieldLink RJx4a65c 39 "java/util/ArrayList" "DEFAULTCAPACITY_EMPTY_ELEMENTDATA" "[Ljava/lang/Object;", .methodLink RJx4a65c 79 Lib.Math.max.name, .static Lib.Math.max.name, .initialized "java/lang/Math", .code Lib.Math.max.name Lib.Math.max.code 2 (some .int), .classLink RJx4a65c 7 "java/lang/Object"]
def v_c_race : List Cond := .code yX12_race cX12_race 7 (some .int) :: (A_c_race ++ wsX120 ++ wsX00 ++ wsJx4a65c0 ++ wsX50)
theorem iw_c_race_X12 : ∀ w ∈ wsX120, w ∈ v_c_race := fun _ h => List.mem_cons_of_mem _ (List.mem_append_left _ (List.mem_append_left _ (List.mem_append_left _ (List.mem_append_right _ (h)))))
theorem iw_c_race_X0 : ∀ w ∈ wsX00, w ∈ v_c_race := fun _ h => List.mem_cons_of_mem _ (List.mem_append_left _ (List.mem_append_left _ (List.mem_append_right _ (h))))
theorem iw_c_race_Jx4a65c : ∀ w ∈ wsJx4a65c0, w ∈ v_c_race := fun _ h => List.mem_cons_of_mem _ (List.mem_append_left _ (List.mem_append_right _ (h)))
theorem iw_c_race_X5 : ∀ w ∈ wsX50, w ∈ v_c_race := fun _ h => List.mem_cons_of_mem _ (List.mem_append_right _ (h))
theorem gb_c_race_c_within0 : GoodIn v_c_race (.code yX12_within cX12_within 3 (some .boolean) :: A_c_within) := (List.forall_mem_cons.mpr ⟨⟨List.mem_of_getElem? (i := 19) rfl, good_of_word rfl⟩, (fun _ h => nomatch h)⟩)
theorem gb_c_race_c_within : GoodIn v_c_race v_c_within := gb_c_race_c_within0
theorem g_c_race_c_within_59 : GoodIn v_c_race (va_wsS RX12 59 yX12_within v_c_within) := goodIn_app (List.forall_mem_cons.mpr ⟨⟨List.mem_of_getElem? (i := 3) rfl, good_of_word rfl⟩, (List.forall_mem_cons.mpr ⟨⟨List.mem_of_getElem? (i := 4) rfl, good_of_word rfl⟩, (List.forall_mem_cons.mpr ⟨⟨List.mem_of_getElem? (i := 5) rfl, good_of_word rfl⟩, (fun _ h => nomatch h)⟩)⟩)⟩) gb_c_race_c_within
theorem gb_c_race_c_size0 : GoodIn v_c_race (.code yJx4a65c_size_8abf5 cJx4a65c_size_8abf5 1 (some .int) :: A_c_size) := (List.forall_mem_cons.mpr ⟨⟨List.mem_of_getElem? (i := 20) rfl, good_of_word rfl⟩, (List.forall_mem_cons.mpr ⟨⟨List.mem_of_getElem? (i := 21) rfl, good_of_word rfl⟩, (fun _ h => nomatch h)⟩)⟩)
theorem gb_c_race_c_size : GoodIn v_c_race v_c_size := (goodIn_ca gb_c_race_c_size0 (goodIn_sub iw_c_race_Jx4a65c gw_Jx4a65c))
theorem g_c_race_c_size_77 : GoodIn v_c_race (wsV RX12 77 RJx4a65c yJx4a65c_size_8abf5 v_c_size) := goodIn_app (List.forall_mem_cons.mpr ⟨⟨List.mem_of_getElem? (i := 7) rfl, good_of_word rfl⟩, (List.forall_mem_cons.mpr ⟨⟨List.mem_of_getElem? (i := 8) rfl, good_of_word rfl⟩, (List.forall_mem_cons.mpr ⟨⟨List.mem_of_getElem? (i := 9) rfl, good_of_word rfl⟩, (List.forall_mem_cons.mpr ⟨⟨List.mem_of_getElem? (i := 10) rfl, good_of_word rfl⟩, (fun _ h => nomatch h)⟩)⟩)⟩)⟩) gb_c_race_c_size
theorem gb_c_race_c_Race0 : GoodIn v_c_race (.code yX5_init cX5_init 8 none :: A_c_Race) := (List.forall_mem_cons.mpr ⟨⟨List.mem_of_getElem? (i := 22) rfl, good_of_word rfl⟩, (List.forall_mem_cons.mpr ⟨⟨List.mem_of_getElem? (i := 23) rfl, good_of_word rfl⟩, (List.forall_mem_cons.mpr ⟨⟨List.mem_of_getElem? (i := 24) rfl, good_of_word rfl⟩, (List.forall_mem_cons.mpr ⟨⟨List.mem_of_getElem? (i := 25) rfl, good_of_word rfl⟩, (List.forall_mem_cons.mpr ⟨⟨List.mem_of_getElem? (i := 26) rfl, good_of_word rfl⟩, (List.forall_mem_cons.mpr ⟨⟨List.mem_of_getElem? (i := 27) rfl, good_of_word rfl⟩, (List.forall_mem_cons.mpr ⟨⟨List.mem_of_getElem? (i := 28) rfl, good_of_word rfl⟩, (List.forall_mem_cons.mpr ⟨⟨List.mem_of_getElem? (i := 29) rfl, good_of_word rfl⟩, (List.forall_mem_cons.mpr ⟨⟨List.mem_of_getElem? (i := 30) rfl, good_of_word rfl⟩, (List.forall_mem_cons.mpr ⟨⟨List.mem_of_getElem? (i := 31) rfl, good_of_word rfl⟩, (List.forall_mem_cons.mpr ⟨⟨List.mem_of_getElem? (i := 32) rfl, good_of_word rfl⟩, (List.forall_mem_cons.mpr ⟨⟨List.mem_of_getElem? (i := 33) rfl, good_of_word rfl⟩, (List.forall_mem_cons.mpr ⟨⟨List.mem_of_getElem? (i := 34) rfl, good_of_word rfl⟩, (List.forall_mem_cons.mpr ⟨⟨List.mem_of_getElem? (i := 35) rfl, good_of_word rfl⟩, (List.forall_mem_cons.mpr ⟨⟨List.mem_of_getElem? (i := 36) rfl, good_of_word rfl⟩, (List.forall_mem_cons.mpr ⟨⟨List.mem_of_getElem? (i := 37) rfl, good_of_word rfl⟩, (List.forall_mem_cons.mpr ⟨⟨List.mem_of_getElem? (i := 38) rfl, good_of_word rfl⟩, (List.forall_mem_cons.mpr ⟨⟨List.mem_of_getElem? (i := 39) rfl, good_of_word rfl⟩, (List.forall_mem_cons.mpr ⟨⟨List.mem_of_getElem? (i := 40) rfl, good_of_word rfl⟩, (List.forall_mem_cons.mpr ⟨⟨List.mem_of_getElem? (i := 41) rfl, good_of_word rfl⟩, (List.forall_mem_cons.mpr ⟨⟨List.mem_of_getElem? (i := 42) rfl, good_of_word rfl⟩, (fun _ h => nomatch h)⟩)⟩)⟩)⟩)⟩)⟩)⟩)⟩)⟩)⟩)⟩)⟩)⟩)⟩)⟩)⟩)⟩)⟩)⟩)⟩)⟩)
theorem gb_c_race_c_Race : GoodIn v_c_race v_c_Race := (goodIn_ca gb_c_race_c_Race0 (goodIn_sub iw_c_race_X5 gw_X5))
theorem g_c_race_c_Race : GoodIn v_c_race (v_c_Race) := gb_c_race_c_Race
theorem gb_c_race_c_add0 : GoodIn v_c_race (.code yJx4a65c_add_9ea2d cJx4a65c_add_9ea2d 2 (some .boolean) :: A_c_add) := (List.forall_mem_cons.mpr ⟨⟨List.mem_of_getElem? (i := 43) rfl, good_of_word rfl⟩, (List.forall_mem_cons.mpr ⟨⟨List.mem_of_getElem? (i := 44) rfl, good_of_word rfl⟩, (List.forall_mem_cons.mpr ⟨⟨List.mem_of_getElem? (i := 45) rfl, good_of_word rfl⟩, (List.forall_mem_cons.mpr ⟨⟨List.mem_of_getElem? (i := 46) rfl, good_of_word rfl⟩, (List.forall_mem_cons.mpr ⟨⟨List.mem_of_getElem? (i := 21) rfl, good_of_word rfl⟩, (List.forall_mem_cons.mpr ⟨⟨List.mem_of_getElem? (i := 47) rfl, good_of_word rfl⟩, (List.forall_mem_cons.mpr ⟨⟨List.mem_of_getElem? (i := 48) rfl, good_of_word rfl⟩, (List.forall_mem_cons.mpr ⟨⟨List.mem_of_getElem? (i := 49) rfl, good_of_word rfl⟩, (List.forall_mem_cons.mpr ⟨⟨List.mem_of_getElem? (i := 10) rfl, good_of_word rfl⟩, (List.forall_mem_cons.mpr ⟨⟨List.mem_of_getElem? (i := 50) rfl, good_of_word rfl⟩, (List.forall_mem_cons.mpr ⟨⟨List.mem_of_getElem? (i := 51) rfl, good_of_word rfl⟩, (List.forall_mem_cons.mpr ⟨⟨List.mem_of_getElem? (i := 52) rfl, good_of_word rfl⟩, (List.forall_mem_cons.mpr ⟨⟨List.mem_of_getElem? (i := 53) rfl, good_of_word rfl⟩, (List.forall_mem_cons.mpr ⟨⟨List.mem_of_getElem? (i := 54) rfl, good_of_word rfl⟩, (List.forall_mem_cons.mpr ⟨⟨List.mem_of_getElem? (i := 55) rfl, good_of_word rfl⟩, (List.forall_mem_cons.mpr ⟨⟨List.mem_of_getElem? (i := 56) rfl, good_of_word rfl⟩, (List.forall_mem_cons.mpr ⟨⟨List.mem_of_getElem? (i := 57) rfl, good_of_word rfl⟩, (List.forall_mem_cons.mpr ⟨⟨List.mem_of_getElem? (i := 58) rfl, good_of_word rfl⟩, (List.forall_mem_cons.mpr ⟨⟨List.mem_of_getElem? (i := 59) rfl, good_of_word rfl⟩, (List.forall_mem_cons.mpr ⟨⟨List.mem_of_getElem? (i := 60) rfl, good_of_word rfl⟩, (List.forall_mem_cons.mpr ⟨⟨List.mem_of_getElem? (i := 61) rfl, good_of_word rfl⟩, (List.forall_mem_cons.mpr ⟨⟨List.mem_of_getElem? (i := 62) rfl, good_of_word rfl⟩, (List.forall_mem_cons.mpr ⟨⟨List.mem_of_getElem? (i := 63) rfl, good_of_word rfl⟩, (List.forall_mem_cons.mpr ⟨⟨List.mem_of_getElem? (i := 64) rfl, good_of_word rfl⟩, (fun _ h => nomatch h)⟩)⟩)⟩)⟩)⟩)⟩)⟩)⟩)⟩)⟩)⟩)⟩)⟩)⟩)⟩)⟩)⟩)⟩)⟩)⟩)⟩)⟩)⟩)⟩)
theorem gb_c_race_c_add : GoodIn v_c_race v_c_add := (goodIn_ca gb_c_race_c_add0 (goodIn_sub iw_c_race_Jx4a65c gw_Jx4a65c))
theorem g_c_race_c_add_88 : GoodIn v_c_race (wsV RX12 88 RJx4a65c yJx4a65c_add_9ea2d v_c_add) := goodIn_app (List.forall_mem_cons.mpr ⟨⟨List.mem_of_getElem? (i := 16) rfl, good_of_word rfl⟩, (List.forall_mem_cons.mpr ⟨⟨List.mem_of_getElem? (i := 17) rfl, good_of_word rfl⟩, (List.forall_mem_cons.mpr ⟨⟨List.mem_of_getElem? (i := 18) rfl, good_of_word rfl⟩, (List.forall_mem_cons.mpr ⟨⟨List.mem_of_getElem? (i := 10) rfl, good_of_word rfl⟩, (fun _ h => nomatch h)⟩)⟩)⟩)⟩) gb_c_race_c_add
set_option maxHeartbeats 4000000 in
set_option maxRecDepth 100000 in
theorem c_race (l : Launch) (dC : Nat → ClassId) (dI : Nat → Nat → Nat) (x : Nat) (bk : Nat) (tp : Nat) (sh : Nat) (sc : Nat) (he : Nat) (of : Nat) (lc : Nat) (lr : Nat) (la : Nat) (le : Nat) (lw : Nat) (lp : Nat) (ltr : Nat) (stk : Nat) (ed : Nat) (a0 : Int32) (a1 : Int32) (a2 : Int32) (a3 : Int32) (a4 : Int32) (a5 : Int32) (sz : Nat)  : Met l yX12_race v_c_race ({ frames := 5, cells := 7, slots := 487, locals := 200 }) (va_Pc [.ref x, .int a0, .int a1, .int a2, .int a3, .int a4, .int a5] (fun U => U.heap.size = sz ∧ va_P (dC, dI) vwCl [(x, .inr (13, [.ref bk, .ref tp, .ref sh, .ref sc, .ref he, .ref of])), (bk, .inr (1, [.int 0, .int 0, .int 0, .ref lc, .ref lr, .ref la, .ref le, .ref lw, .ref lp, .ref ltr, .ref stk])), (la, .inr (0, [.int 0, .ref ed, .int 0]))] U.heap ∧ va_K (dC, dI) vwCl [] U ∧ va_D (fun _ => True) [(x, .inr (13, [.ref bk, .ref tp, .ref sh, .ref sc, .ref he, .ref of])), (bk, .inr (1, [.int 0, .int 0, .int 0, .ref lc, .ref lr, .ref la, .ref le, .ref lw, .ref lp, .ref ltr, .ref stk])), (la, .inr (0, [.int 0, .ref ed, .int 0]))] ∧ ub_NX U ∧ ub_ZE ed (va_A [(x, .inr (13, [.ref bk, .ref tp, .ref sh, .ref sc, .ref he, .ref of])), (bk, .inr (1, [.int 0, .int 0, .int 0, .ref lc, .ref lr, .ref la, .ref le, .ref lw, .ref lp, .ref ltr, .ref stk])), (la, .inr (0, [.int 0, .ref ed, .int 0]))] sz) U U.heap ∧ ub_KO U)) (va_Qi (S := Unit) (fun r _ => r = if a0 < 0 ∨ 0 < a0 then -1 else if a1 < 1 ∨ 1000 < a1 then -1 else if a2 < 0 ∨ 1 < a2 then -1 else if a3 < 0 ∨ 7 < a3 then -1 else if a4 < 0 ∨ 99 < a4 then -1 else if a5 < 0 ∨ 99 < a5 then -1 else 0) (fun _ _ => True) (va_A [(x, .inr (13, [.ref bk, .ref tp, .ref sh, .ref sc, .ref he, .ref of])), (bk, .inr (1, [.int 0, .int 0, .int 0, .ref lc, .ref lr, .ref la, .ref le, .ref lw, .ref lp, .ref ltr, .ref stk])), (la, .inr (0, [.int 0, .ref ed, .int 0]))] sz)) 7 487 (va_A [(x, .inr (13, [.ref bk, .ref tp, .ref sh, .ref sc, .ref he, .ref of])), (bk, .inr (1, [.int 0, .int 0, .int 0, .ref lc, .ref lr, .ref la, .ref le, .ref lw, .ref lp, .ref ltr, .ref stk])), (la, .inr (0, [.int 0, .ref ed, .int 0]))] sz) := by
  refine Met.ofW (cc := cX12_race) (maxL := 7) (ret := (some .int)) (by decide) rfl ?_
  intro p e s m args below meth c s₁ B hml hv
  obtain ⟨rfl, hsz, hP, hK, hD0, hN, hZ, hKO⟩ := hv
  have hx := B.exec
  have hb := B.bytes
  have hr := B.returns
  have hts := atoms_spec (ws := v_c_race) B.pre
  have hown : s.vm.findClass RX12 = some m.cls := findClass_of_methodNamed B.named
  have hlocks := B.notSynchronized
  subst hsz
  have hD := hD0.self (sz := s.heap.size)
  generalize hAe : va_A [(x, .inr (13, [.ref bk, .ref tp, .ref sh, .ref sc, .ref he, .ref of])), (bk, .inr (1, [.int 0, .int 0, .int 0, .ref lc, .ref lr, .ref la, .ref le, .ref lw, .ref lp, .ref ltr, .ref stk])), (la, .inr (0, [.int 0, .ref ed, .int 0]))] s.heap.size = A at hD ⊢
  have hA : ∀ q : Nat, s.heap.size ≤ q → A q := fun q h => by rw [← hAe]; exact Or.inr h
  try rw [hAe] at hZ
  try rw [hAe] at hKO
  have hS : va_S A s.heap s.heap [] := va_S.rf
  have hP : va_P (dC, dI) vwCl [(x, .inr (13, [.ref bk, .ref tp, .ref sh, .ref sc, .ref he, .ref of])), (bk, .inr (1, [.int 0, .int 0, .int 0, .ref lc, .ref lr, .ref la, .ref le, .ref lw, .ref lp, .ref ltr, .ref stk])), (la, .inr (0, [.int 0, .ref ed, .int 0]))] s.heap := hP
  have hl := lv_entry ([.ref x, .int a0, .int a1, .int a2, .int a3, .int a4, .int a5]) (n := 7) (Nat.le_of_ble_eq_true rfl)
  rw [lg_entry_eq]
  generalize (lg_sl ([.ref x, .int a0, .int a1, .int a2, .int a3, .int a4, .int a5]) ++ List.replicate (7 - (lg_sl ([.ref x, .int a0, .int a1, .int a2, .int a3, .int a4, .int a5])).length) Slot.unset).toArray = ls at hl ⊢
  have hl : lv_has ls 7 [(0, .ref x), (1, .int a0), (2, .int a1), (3, .int a2), (4, .int a3), (5, .int a4), (6, .int a5)] := hl
  refine lv_iload_n hx hb dX12_race_0 rfl (lv_at hl 1 rfl) ?_
  refine lv_iconst (v := 0) hx hb dX12_race_1 (by decide) ?_
  refine lv_aload_n hx hb dX12_race_2 rfl (lv_at hl 0 rfl) ?_
  refine va_get (D := (dC, dI)) (ci := 13) (v := .ref bk) (C := RX12) (T := TX12) (N := 6) hx hb hts iw_c_race_X12 hown hK hP 0 rfl rfl 0 (by decide) (hts (.fieldLink RX12 10 "UnlikeBoats" "book" "LUnlikeBoats$Book;") (List.mem_of_getElem? (i := 1) rfl)) (fun _ h9 => h9) rfl dX12_race_3 ?_
  refine va_get (D := (dC, dI)) (ci := 1) (v := .int 0) (C := RX0) (T := TX0) (N := 11) hx hb hts iw_c_race_X0 hown hK hP 1 rfl rfl 0 (by decide) (hts (.fieldLink RX12 55 "UnlikeBoats$Book" "now" "I") (List.mem_of_getElem? (i := 2) rfl)) (fun _ h9 => h9) rfl dX12_race_6 ?_
  refine va_calli (va_runS (As := [.int a0, .int 0, .int 0]) (rest := []) ⟨hx, hb, hml, hown, hts⟩ (c_within l a0 (0) (0)) (va_cwS 3 hts g_c_race_c_within_59 rfl rfl rfl (by decide +kernel) ⟨Nat.le_of_ble_eq_true rfl, Nat.le_of_ble_eq_true rfl⟩) ⟨fun _ _ _ _ q => q, fun _ _ _ => ⟨rfl, trivial⟩⟩ rfl rfl hl.1 rfl (lv_room (Nat.le_of_ble_eq_true rfl)) dX12_race_9 ⟨Nat.le_of_ble_eq_true rfl, Nat.le_of_ble_eq_true rfl⟩) hS (fun _ _ h => h.elim) (fun _ h => h.elim) (fun r1 u2 t H1 locs ht hvm hw hB hz1 hk1 hS => ?_)
  have hP := ub_keep hP hk1
  generalize H1 = H at hP hS ⊢
  rcases hw with ⟨rfl, hw1, hw2⟩ | ⟨rfl, hw1⟩
  · --in
    have d3a := hw1
    have d3b := hw2
    refine lv_if_eq (tgt := 26) hx hb dX12_race_12 (by decide) (fun c4 => by first | exact absurd c4 (by decide) | exact absurd (by decide) c4) (fun c4 => ?_)
    refine lv_iload_n hx hb dX12_race_15 rfl (lv_at hl 2 rfl) ?_
    refine lv_iconst (v := 1) hx hb dX12_race_16 (by decide) ?_
    refine lv_sipush (v := 1000) hx hb dX12_race_17 (by decide) ?_
    refine va_calli (va_runS (As := [.int a1, .int 1, .int 1000]) (rest := []) ⟨hx, hb, hml, hown, hts⟩ (c_within l a1 (1) (1000)) (va_cwS 3 hts g_c_race_c_within_59 rfl rfl rfl (by decide +kernel) ⟨Nat.le_of_ble_eq_true rfl, Nat.le_of_ble_eq_true rfl⟩) ⟨fun _ _ _ _ q => q, fun _ _ _ => ⟨rfl, trivial⟩⟩ rfl rfl hl.1 rfl (lv_room (Nat.le_of_ble_eq_true rfl)) dX12_race_20 ⟨Nat.le_of_ble_eq_true rfl, Nat.le_of_ble_eq_true rfl⟩) hS (fun _ _ h => h.elim) (fun _ h => h.elim) (fun r5 u6 t H1 locs ht hvm hw hB hz1 hk1 hS => ?_)
    have hP := ub_keep hP hk1
    generalize H1 = H at hP hS ⊢
    rcases hw with ⟨rfl, hw1, hw2⟩ | ⟨rfl, hw1⟩
    · --in
      have d7a := hw1
      have d7b := hw2
      refine lv_if_ne (tgt := 28) hx hb dX12_race_23 (by decide) (fun c8 => ?_) (fun c8 => by first | exact absurd c8 (by decide) | exact absurd (by decide) c8)
      refine lv_iload_n hx hb dX12_race_28 rfl (lv_at hl 3 rfl) ?_
      refine lv_iconst (v := 0) hx hb dX12_race_29 (by decide) ?_
      refine lv_iconst (v := 1) hx hb dX12_race_30 (by decide) ?_
      refine va_calli (va_runS (As := [.int a2, .int 0, .int 1]) (rest := []) ⟨hx, hb, hml, hown, hts⟩ (c_within l a2 (0) (1)) (va_cwS 3 hts g_c_race_c_within_59 rfl rfl rfl (by decide +kernel) ⟨Nat.le_of_ble_eq_true rfl, Nat.le_of_ble_eq_true rfl⟩) ⟨fun _ _ _ _ q => q, fun _ _ _ => ⟨rfl, trivial⟩⟩ rfl rfl hl.1 rfl (lv_room (Nat.le_of_ble_eq_true rfl)) dX12_race_31 ⟨Nat.le_of_ble_eq_true rfl, Nat.le_of_ble_eq_true rfl⟩) hS (fun _ _ h => h.elim) (fun _ h => h.elim) (fun r9 u10 t H1 locs ht hvm hw hB hz1 hk1 hS => ?_)
      have hP := ub_keep hP hk1
      generalize H1 = H at hP hS ⊢
      rcases hw with ⟨rfl, hw1, hw2⟩ | ⟨rfl, hw1⟩
      · --in
        have d11a := hw1
        have d11b := hw2
        refine lv_if_eq (tgt := 48) hx hb dX12_race_34 (by decide) (fun c12 => by first | exact absurd c12 (by decide) | exact absurd (by decide) c12) (fun c12 => ?_)
        refine lv_iload hx hb dX12_race_37 (lv_at hl 4 rfl) ?_
        refine lv_iconst (v := 0) hx hb dX12_race_39 (by decide) ?_
        refine lv_bipush (v := 7) hx hb dX12_race_40 (by decide) ?_
        refine va_calli (va_runS (As := [.int a3, .int 0, .int 7]) (rest := []) ⟨hx, hb, hml, hown, hts⟩ (c_within l a3 (0) (7)) (va_cwS 3 hts g_c_race_c_within_59 rfl rfl rfl (by decide +kernel) ⟨Nat.le_of_ble_eq_true rfl, Nat.le_of_ble_eq_true rfl⟩) ⟨fun _ _ _ _ q => q, fun _ _ _ => ⟨rfl, trivial⟩⟩ rfl rfl hl.1 rfl (lv_room (Nat.le_of_ble_eq_true rfl)) dX12_race_42 ⟨Nat.le_of_ble_eq_true rfl, Nat.le_of_ble_eq_true rfl⟩) hS (fun _ _ h => h.elim) (fun _ h => h.elim) (fun r13 u14 t H1 locs ht hvm hw hB hz1 hk1 hS => ?_)
        have hP := ub_keep hP hk1
        generalize H1 = H at hP hS ⊢
        rcases hw with ⟨rfl, hw1, hw2⟩ | ⟨rfl, hw1⟩
        · --in
          have d15a := hw1
          have d15b := hw2
          refine lv_if_ne (tgt := 50) hx hb dX12_race_45 (by decide) (fun c16 => ?_) (fun c16 => by first | exact absurd c16 (by decide) | exact absurd (by decide) c16)
          refine lv_iload hx hb dX12_race_50 (lv_at hl 5 rfl) ?_
          refine lv_iconst (v := 0) hx hb dX12_race_52 (by decide) ?_
          refine lv_bipush (v := 99) hx hb dX12_race_53 (by decide) ?_
          refine va_calli (va_runS (As := [.int a4, .int 0, .int 99]) (rest := []) ⟨hx, hb, hml, hown, hts⟩ (c_within l a4 (0) (99)) (va_cwS 3 hts g_c_race_c_within_59 rfl rfl rfl (by decide +kernel) ⟨Nat.le_of_ble_eq_true rfl, Nat.le_of_ble_eq_true rfl⟩) ⟨fun _ _ _ _ q => q, fun _ _ _ => ⟨rfl, trivial⟩⟩ rfl rfl hl.1 rfl (lv_room (Nat.le_of_ble_eq_true rfl)) dX12_race_55 ⟨Nat.le_of_ble_eq_true rfl, Nat.le_of_ble_eq_true rfl⟩) hS (fun _ _ h => h.elim) (fun _ h => h.elim) (fun r17 u18 t H1 locs ht hvm hw hB hz1 hk1 hS => ?_)
          have hP := ub_keep hP hk1
          generalize H1 = H at hP hS ⊢
          rcases hw with ⟨rfl, hw1, hw2⟩ | ⟨rfl, hw1⟩
          · --in
            have d19a := hw1
            have d19b := hw2
            refine lv_if_eq (tgt := 72) hx hb dX12_race_58 (by decide) (fun c20 => by first | exact absurd c20 (by decide) | exact absurd (by decide) c20) (fun c20 => ?_)
            refine lv_iload hx hb dX12_race_61 (lv_at hl 6 rfl) ?_
            refine lv_iconst (v := 0) hx hb dX12_race_63 (by decide) ?_
            refine lv_bipush (v := 99) hx hb dX12_race_64 (by decide) ?_
            refine va_calli (va_runS (As := [.int a5, .int 0, .int 99]) (rest := []) ⟨hx, hb, hml, hown, hts⟩ (c_within l a5 (0) (99)) (va_cwS 3 hts g_c_race_c_within_59 rfl rfl rfl (by decide +kernel) ⟨Nat.le_of_ble_eq_true rfl, Nat.le_of_ble_eq_true rfl⟩) ⟨fun _ _ _ _ q => q, fun _ _ _ => ⟨rfl, trivial⟩⟩ rfl rfl hl.1 rfl (lv_room (Nat.le_of_ble_eq_true rfl)) dX12_race_66 ⟨Nat.le_of_ble_eq_true rfl, Nat.le_of_ble_eq_true rfl⟩) hS (fun _ _ h => h.elim) (fun _ h => h.elim) (fun r21 u22 t H1 locs ht hvm hw hB hz1 hk1 hS => ?_)
            have hP := ub_keep hP hk1
            generalize H1 = H at hP hS ⊢
            rcases hw with ⟨rfl, hw1, hw2⟩ | ⟨rfl, hw1⟩
            · --in
              have d23a := hw1
              have d23b := hw2
              refine lv_if_ne (tgt := 74) hx hb dX12_race_69 (by decide) (fun c24 => ?_) (fun c24 => by first | exact absurd c24 (by decide) | exact absurd (by decide) c24)
              refine lv_aload_n hx hb dX12_race_74 rfl (lv_at hl 0 rfl) ?_
              refine va_get (D := (dC, dI)) (ci := 13) (v := .ref bk) (C := RX12) (T := TX12) (N := 6) hx hb hts iw_c_race_X12 hown hK hP 0 rfl rfl 0 (by decide) (hts (.fieldLink RX12 10 "UnlikeBoats" "book" "LUnlikeBoats$Book;") (List.mem_of_getElem? (i := 1) rfl)) (fun _ h9 => h9) rfl dX12_race_75 ?_
              refine va_get (D := (dC, dI)) (ci := 1) (v := .ref la) (C := RX0) (T := TX0) (N := 11) hx hb hts iw_c_race_X0 hown hK hP 1 rfl rfl 5 (by decide) (hts (.fieldLink RX12 127 "UnlikeBoats$Book" "races" "Ljava/util/ArrayList;") (List.mem_of_getElem? (i := 6) rfl)) (fun _ h9 => h9) rfl dX12_race_78 ?_
              have hPc := hP.sub (ws' := [(la, .inr (0, [.int 0, .ref ed, .int 0]))]) [2] rfl
              have hKc := hK.sub (tys' := []) [] rfl
              refine va_calli (va_runV (As := []) (rest := []) ⟨hx, hb, hml, hown, hts⟩ (c_size l dC dI la (0) ed (0)) (cwV 0 hts g_c_race_c_size_77 rfl rfl rfl (by decide +kernel) ⟨Nat.le_of_ble_eq_true rfl, Nat.le_of_ble_eq_true rfl⟩) ⟨fun a U g mk q => by obtain ⟨e0, qP, qK⟩ := q; exact ⟨e0, qP, va_K.moved (u := U) (U := U.calling g mk a) (Vm.Alike.refl U.vm) qK⟩, va_recv hK hP (ci := 0) (q0 := 2) rfl rfl, fun U hU hW => ⟨rfl, by rw [hU]; exact hPc, va_K.moved hW.alike hKc⟩⟩ rfl rfl hl.1 rfl (lv_room (Nat.le_of_ble_eq_true rfl)) dX12_race_81 ⟨Nat.le_of_ble_eq_true rfl, Nat.le_of_ble_eq_true rfl⟩) hS (fun _ _ h => h.elim) (fun _ h => h.elim) (fun r25 u26 t H1 locs ht hvm hw hB hz1 hk1 hS => ?_)
              have hP := ub_keep hP hk1
              generalize H1 = H at hP hS ⊢
              obtain rfl : (0 : Int32) = r25 := hw.symm
              refine lv_bipush (v := 20) hx hb dX12_race_84 (by decide) ?_
              refine lv_icmp_lt (tgt := 91) hx hb dX12_race_86 (by decide) (fun c27 => ?_) (fun c27 => by first | exact absurd c27 (by decide) | exact absurd (by decide) c27)
              refine lv_aload_n hx hb dX12_race_91 rfl (lv_at hl 0 rfl) ?_
              refine va_get (D := (dC, dI)) (ci := 13) (v := .ref bk) (C := RX12) (T := TX12) (N := 6) hx hb hts iw_c_race_X12 hown hK hP 0 rfl rfl 0 (by decide) (hts (.fieldLink RX12 10 "UnlikeBoats" "book" "LUnlikeBoats$Book;") (List.mem_of_getElem? (i := 1) rfl)) (fun _ h9 => h9) rfl dX12_race_92 ?_
              refine va_get (D := (dC, dI)) (ci := 1) (v := .ref la) (C := RX0) (T := TX0) (N := 11) hx hb hts iw_c_race_X0 hown hK hP 1 rfl rfl 5 (by decide) (hts (.fieldLink RX12 127 "UnlikeBoats$Book" "races" "Ljava/util/ArrayList;") (List.mem_of_getElem? (i := 6) rfl)) (fun _ h9 => h9) rfl dX12_race_95 ?_
              refine va_new (ci := 6) (fs := [.int 0, .int 0, .int 0, .int 0, .int 0, .int 0, .int 0, .null, .null, .null, .null, .null]) (C := RX5) (T := TX5) (N := 12) hx hb hts iw_c_race_X5 tyX5 tyX5_ok hown (hts (.classLink RX12 130 RX5) (List.mem_of_getElem? (i := 11) rfl)) (hts (.instantiable RX5 12) (List.mem_of_getElem? (i := 12) rfl)) (hts (.initialized RX5) (List.mem_of_getElem? (i := 13) rfl)) hK hP hD hS hA rfl (fun j hj => by rcases (show j = 0 ∨ j = 1 ∨ j = 2 ∨ j = 3 ∨ j = 4 ∨ j = 5 ∨ j = 6 ∨ j = 7 ∨ j = 8 ∨ j = 9 ∨ j = 10 ∨ j = 11 by omega) with rfl | rfl | rfl | rfl | rfl | rfl | rfl | rfl | rfl | rfl | rfl | rfl <;> rfl) (Nat.le_of_ble_eq_true rfl) (Nat.le_of_ble_eq_true rfl) dX12_race_98 (fun q28 H hP hD hS => ?_)
              have hP : va_P (dC, dI) vwCl [(x, .inr (13, [.ref bk, .ref tp, .ref sh, .ref sc, .ref he, .ref of])), (bk, .inr (1, [.int 0, .int 0, .int 0, .ref lc, .ref lr, .ref la, .ref le, .ref lw, .ref lp, .ref ltr, .ref stk])), (la, .inr (0, [.int 0, .ref ed, .int 0])), (q28, .inr (6, [.int 0, .int 0, .int 0, .int 0, .int 0, .int 0, .int 0, .null, .null, .null, .null, .null]))] H := hP
              have hD : va_D A [(x, .inr (13, [.ref bk, .ref tp, .ref sh, .ref sc, .ref he, .ref of])), (bk, .inr (1, [.int 0, .int 0, .int 0, .ref lc, .ref lr, .ref la, .ref le, .ref lw, .ref lp, .ref ltr, .ref stk])), (la, .inr (0, [.int 0, .ref ed, .int 0])), (q28, .inr (6, [.int 0, .int 0, .int 0, .int 0, .int 0, .int 0, .int 0, .null, .null, .null, .null, .null]))] := hD
              refine W.widen (k := 1) (n := 12) (by omega) (by omega) ?_
              refine lv_dup hx hb dX12_race_101 rfl ?_
              refine lv_aload_n hx hb dX12_race_102 rfl (lv_at hl 0 rfl) ?_
              refine va_get (D := (dC, dI)) (ci := 13) (v := .ref bk) (C := RX12) (T := TX12) (N := 6) hx hb hts iw_c_race_X12 hown hK hP 0 rfl rfl 0 (by decide) (hts (.fieldLink RX12 10 "UnlikeBoats" "book" "LUnlikeBoats$Book;") (List.mem_of_getElem? (i := 1) rfl)) (fun _ h9 => h9) rfl dX12_race_103 ?_
              refine va_get (D := (dC, dI)) (ci := 1) (v := .int 0) (C := RX0) (T := TX0) (N := 11) hx hb hts iw_c_race_X0 hown hK hP 1 rfl rfl 0 (by decide) (hts (.fieldLink RX12 55 "UnlikeBoats$Book" "now" "I") (List.mem_of_getElem? (i := 2) rfl)) (fun _ h9 => h9) rfl dX12_race_106 ?_
              refine lv_iload_n hx hb dX12_race_109 rfl (lv_at hl 1 rfl) ?_
              refine lv_iload_n hx hb dX12_race_110 rfl (lv_at hl 2 rfl) ?_
              refine lv_iload_n hx hb dX12_race_111 rfl (lv_at hl 3 rfl) ?_
              refine lv_iload hx hb dX12_race_112 (lv_at hl 4 rfl) ?_
              refine lv_iload hx hb dX12_race_114 (lv_at hl 5 rfl) ?_
              refine lv_iload hx hb dX12_race_116 (lv_at hl 6 rfl) ?_
              have hPc := hP.sub (ws' := [(q28, .inr (6, [.int 0, .int 0, .int 0, .int 0, .int 0, .int 0, .int 0, .null, .null, .null, .null, .null]))]) [3] rfl
              have hKc := hK.sub (tys' := []) [] rfl
              have hDc := hD.sub (ws' := [(q28, .inr (6, [.int 0, .int 0, .int 0, .int 0, .int 0, .int 0, .int 0, .null, .null, .null, .null, .null]))]) [3] (by decide) rfl
              have hFc := va_free (wc := [(q28, .inr (6, [.int 0, .int 0, .int 0, .int 0, .int 0, .int 0, .int 0, .null, .null, .null, .null, .null]))]) hD hS hA [3] rfl
              refine va_callv (va_runI (As := [.int 0, .int a0, .int a1, .int a2, .int a3, .int a4, .int a5]) (rest := [.ref q28, .ref la]) ⟨hx, hb, hml, hown, hts⟩ (c_Race l dC dI q28 (0) a0 a1 a2 a3 a4 a5 H.size) (cwI 7 hts g_c_race_c_Race rfl rfl rfl (hts (.initialized RX5) (List.mem_of_getElem? (i := 13) rfl)) (hts (.methodLink RX12 132 yX5_init) (List.mem_of_getElem? (i := 14) rfl)) (hts (.instanceMethod yX5_init) (List.mem_of_getElem? (i := 15) rfl)) rfl (by decide +kernel) ⟨Nat.le_of_ble_eq_true rfl, Nat.le_of_ble_eq_true rfl⟩) ⟨fun a U g mk q => by obtain ⟨e0, e1, qP, qK, qD⟩ := q; exact ⟨e0, e1, qP, va_K.moved (u := U) (U := U.calling g mk a) (Vm.Alike.refl U.vm) qK, qD⟩, fun U hU hW => ⟨rfl, by rw [hU], by rw [hU]; exact hPc, va_K.moved hW.alike hKc, hDc.weaken (fun _ _ _ _ => trivial)⟩⟩ rfl rfl hl.1 rfl (lv_room (Nat.le_of_ble_eq_true rfl)) dX12_race_118 ⟨Nat.le_of_ble_eq_true rfl, Nat.le_of_ble_eq_true rfl⟩) hS (fun q _ h => hFc q h) hFc (fun u30 t H1 locs ht hvm hw hB hz1 hk1 hS => ?_)
              obtain ⟨y031, y132, y233, y334, y435⟩ := u30
              obtain ⟨hP1, hK1, hD1⟩ := hB
              rw [ht] at hP1
              obtain ⟨hP, hD⟩ := va_join (wr := [(x, .inr (13, [.ref bk, .ref tp, .ref sh, .ref sc, .ref he, .ref of])), (bk, .inr (1, [.int 0, .int 0, .int 0, .ref lc, .ref lr, .ref la, .ref le, .ref lw, .ref lp, .ref ltr, .ref stk])), (la, .inr (0, [.int 0, .ref ed, .int 0]))]) (w1 := [(q28, .inr (6, [.int 0, .int a0, .int a1, .int a2, .int a3, .int a4, .int a5, .ref y031, .ref y132, .ref y233, .ref y334, .ref y435]))]) hP hD [3] [0, 1, 2] rfl rfl (by decide) (by decide) hk1 hFc hP1 hD1
              generalize H1 = H at hP hS ⊢
              have hP : va_P (dC, dI) vwCl [(x, .inr (13, [.ref bk, .ref tp, .ref sh, .ref sc, .ref he, .ref of])), (bk, .inr (1, [.int 0, .int 0, .int 0, .ref lc, .ref lr, .ref la, .ref le, .ref lw, .ref lp, .ref ltr, .ref stk])), (la, .inr (0, [.int 0, .ref ed, .int 0])), (q28, .inr (6, [.int 0, .int a0, .int a1, .int a2, .int a3, .int a4, .int a5, .ref y031, .ref y132, .ref y233, .ref y334, .ref y435]))] H := hP
              have hD : va_D A [(x, .inr (13, [.ref bk, .ref tp, .ref sh, .ref sc, .ref he, .ref of])), (bk, .inr (1, [.int 0, .int 0, .int 0, .ref lc, .ref lr, .ref la, .ref le, .ref lw, .ref lp, .ref ltr, .ref stk])), (la, .inr (0, [.int 0, .ref ed, .int 0])), (q28, .inr (6, [.int 0, .int a0, .int a1, .int a2, .int a3, .int a4, .int a5, .ref y031, .ref y132, .ref y233, .ref y334, .ref y435]))] := hD
              refine W.widen (k := 6) (n := 477) (by omega) (by omega) ?_
              have hPc := hP.sub (ws' := [(la, .inr (0, [.int 0, .ref ed, .int 0])), (q28, .inr (6, [.int 0, .int a0, .int a1, .int a2, .int a3, .int a4, .int a5, .ref y031, .ref y132, .ref y233, .ref y334, .ref y435]))]) [2, 3] rfl
              have hKc := hK.sub (tys' := []) [] rfl
              have hDc := hD.sub (ws' := [(la, .inr (0, [.int 0, .ref ed, .int 0])), (q28, .inr (6, [.int 0, .int a0, .int a1, .int a2, .int a3, .int a4, .int a5, .ref y031, .ref y132, .ref y233, .ref y334, .ref y435]))]) [2, 3] (by decide) rfl
              have hFc := va_free (wc := [(la, .inr (0, [.int 0, .ref ed, .int 0])), (q28, .inr (6, [.int 0, .int a0, .int a1, .int a2, .int a3, .int a4, .int a5, .ref y031, .ref y132, .ref y233, .ref y334, .ref y435]))]) hD hS hA [2, 3] rfl
              refine va_calli (va_runV (As := [.ref q28]) (rest := []) ⟨hx, hb, hml, hown, hts⟩ (c_add l dC dI la ed q28 (.int 0) (.int a0) (.int a1) (.int a2) (.int a3) (.int a4) (.int a5) (.ref y031) (.ref y132) (.ref y233) (.ref y334) (.ref y435) H.size) (cwV 1 hts g_c_race_c_add_88 rfl rfl rfl (by decide +kernel) ⟨Nat.le_of_ble_eq_true rfl, Nat.le_of_ble_eq_true rfl⟩) ⟨fun a U g mk q => by obtain ⟨e0, e1, qP, qK, qD, qZ, qKO⟩ := q; exact ⟨e0, e1, qP, va_K.moved (u := U) (U := U.calling g mk a) (Vm.Alike.refl U.vm) qK, qD, ub_Z_c qZ, ub_KO_c qKO⟩, va_recv hK hP (ci := 0) (q0 := 2) rfl rfl, fun U hU hW => ⟨rfl, by rw [hU], by rw [hU]; exact hPc, va_K.moved hW.alike hKc, hDc.weaken (fun _ _ _ _ => trivial), ub_Z_w hU hW hS hFc hZ, ub_KO_w hU hW hS hFc hKO⟩⟩ rfl rfl hl.1 rfl (lv_room (Nat.le_of_ble_eq_true rfl)) dX12_race_121 ⟨Nat.le_of_ble_eq_true rfl, Nat.le_of_ble_eq_true rfl⟩) hS (fun q _ h => hFc q h) hFc (fun r36 u37 t H1 locs ht hvm hw hB hz1 hk1 hS => ?_)
              obtain ⟨el38, rfl⟩ : ∃ z9, z9 = u37 := ⟨_, rfl⟩
              obtain ⟨hP1, hK1, hD1⟩ := hB
              rw [ht] at hP1
              obtain ⟨hP, hD⟩ := va_join (wr := [(x, .inr (13, [.ref bk, .ref tp, .ref sh, .ref sc, .ref he, .ref of])), (bk, .inr (1, [.int 0, .int 0, .int 0, .ref lc, .ref lr, .ref la, .ref le, .ref lw, .ref lp, .ref ltr, .ref stk]))]) (w1 := [(la, .inr (0, [.int 1, .ref el38, .int 1]))]) hP hD [2, 3] [0, 1] rfl rfl (by decide) (by decide) hk1 hFc hP1 hD1
              generalize H1 = H at hP hS ⊢
              have hP : va_P (dC, dI) vwCl [(x, .inr (13, [.ref bk, .ref tp, .ref sh, .ref sc, .ref he, .ref of])), (bk, .inr (1, [.int 0, .int 0, .int 0, .ref lc, .ref lr, .ref la, .ref le, .ref lw, .ref lp, .ref ltr, .ref stk])), (la, .inr (0, [.int 1, .ref el38, .int 1]))] H := hP
              have hD : va_D A [(x, .inr (13, [.ref bk, .ref tp, .ref sh, .ref sc, .ref he, .ref of])), (bk, .inr (1, [.int 0, .int 0, .int 0, .ref lc, .ref lr, .ref la, .ref le, .ref lw, .ref lp, .ref ltr, .ref stk])), (la, .inr (0, [.int 1, .ref el38, .int 1]))] := hD
              refine W.widen (k := 7) (n := 487) (by omega) (by omega) ?_
              obtain rfl : (1 : Int32) = r36 := hw.symm
              refine lv_pop hx hb dX12_race_124 rfl ?_
              refine lv_aload_n hx hb dX12_race_125 rfl (lv_at hl 0 rfl) ?_
              refine va_get (D := (dC, dI)) (ci := 13) (v := .ref bk) (C := RX12) (T := TX12) (N := 6) hx hb hts iw_c_race_X12 hown hK hP 0 rfl rfl 0 (by decide) (hts (.fieldLink RX12 10 "UnlikeBoats" "book" "LUnlikeBoats$Book;") (List.mem_of_getElem? (i := 1) rfl)) (fun _ h9 => h9) rfl dX12_race_126 ?_
              refine va_get (D := (dC, dI)) (ci := 1) (v := .ref la) (C := RX0) (T := TX0) (N := 11) hx hb hts iw_c_race_X0 hown hK hP 1 rfl rfl 5 (by decide) (hts (.fieldLink RX12 127 "UnlikeBoats$Book" "races" "Ljava/util/ArrayList;") (List.mem_of_getElem? (i := 6) rfl)) (fun _ h9 => h9) rfl dX12_race_129 ?_
              have hPc := hP.sub (ws' := [(la, .inr (0, [.int 1, .ref el38, .int 1]))]) [2] rfl
              have hKc := hK.sub (tys' := []) [] rfl
              refine va_calli (va_runV (As := []) (rest := []) ⟨hx, hb, hml, hown, hts⟩ (c_size l dC dI la (1) el38 (1)) (cwV 0 hts g_c_race_c_size_77 rfl rfl rfl (by decide +kernel) ⟨Nat.le_of_ble_eq_true rfl, Nat.le_of_ble_eq_true rfl⟩) ⟨fun a U g mk q => by obtain ⟨e0, qP, qK⟩ := q; exact ⟨e0, qP, va_K.moved (u := U) (U := U.calling g mk a) (Vm.Alike.refl U.vm) qK⟩, va_recv hK hP (ci := 0) (q0 := 2) rfl rfl, fun U hU hW => ⟨rfl, by rw [hU]; exact hPc, va_K.moved hW.alike hKc⟩⟩ rfl rfl hl.1 rfl (lv_room (Nat.le_of_ble_eq_true rfl)) dX12_race_132 ⟨Nat.le_of_ble_eq_true rfl, Nat.le_of_ble_eq_true rfl⟩) hS (fun _ _ h => h.elim) (fun _ h => h.elim) (fun r39 u40 t H1 locs ht hvm hw hB hz1 hk1 hS => ?_)
              have hP := ub_keep hP hk1
              generalize H1 = H at hP hS ⊢
              obtain rfl : (1 : Int32) = r39 := hw.symm
              refine lv_iconst (v := 1) hx hb dX12_race_135 (by decide) ?_
              refine lv_isub hx hb dX12_race_136 ?_
              refine lv_topi (fun y41 ey41 => ?_)
              obtain rfl : (0 : Int32) = y41 := (ey41.trans (by decide)).symm
              exact W.iret (v := (0)) hx hb hr (fun t ht hW => ⟨⟨(0), (), rfl, by rw [if_neg (fun hh => hh.elim d3a d3b), if_neg (fun hh => hh.elim d7a d7b), if_neg (fun hh => hh.elim d11a d11b), if_neg (fun hh => hh.elim d15a d15b), if_neg (fun hh => hh.elim d19a d19b), if_neg (fun hh => hh.elim d23a d23b)], trivial⟩, hS.F ht⟩) hS.2.2 dX12_race_137
            · --out
              have d42 := hw1
              refine lv_if_ne (tgt := 74) hx hb dX12_race_69 (by decide) (fun c43 => by first | exact absurd c43 (by decide) | exact absurd (by decide) c43) (fun c43 => ?_)
              refine lv_iconst (v := -1) hx hb dX12_race_72 (by decide) ?_
              refine W.widen (k := 7) (n := 487) (by omega) (by omega) ?_
              exact W.iret (v := (-1)) hx hb hr (fun t ht hW => ⟨⟨(-1), (), rfl, by rw [if_neg (fun hh => hh.elim d3a d3b), if_neg (fun hh => hh.elim d7a d7b), if_neg (fun hh => hh.elim d11a d11b), if_neg (fun hh => hh.elim d15a d15b), if_neg (fun hh => hh.elim d19a d19b), if_pos d42], trivial⟩, hS.F ht⟩) hS.2.2 dX12_race_73
          · --out
            have d44 := hw1
            refine lv_if_eq (tgt := 72) hx hb dX12_race_58 (by decide) (fun c45 => ?_) (fun c45 => by first | exact absurd c45 (by decide) | exact absurd (by decide) c45)
            refine lv_iconst (v := -1) hx hb dX12_race_72 (by decide) ?_
            refine W.widen (k := 7) (n := 487) (by omega) (by omega) ?_
            exact W.iret (v := (-1)) hx hb hr (fun t ht hW => ⟨⟨(-1), (), rfl, by rw [if_neg (fun hh => hh.elim d3a d3b), if_neg (fun hh => hh.elim d7a d7b), if_neg (fun hh => hh.elim d11a d11b), if_neg (fun hh => hh.elim d15a d15b), if_pos d44], trivial⟩, hS.F ht⟩) hS.2.2 dX12_race_73
        · --out
          have d46 := hw1
          refine lv_if_ne (tgt := 50) hx hb dX12_race_45 (by decide) (fun c47 => by first | exact absurd c47 (by decide) | exact absurd (by decide) c47) (fun c47 => ?_)
          refine lv_iconst (v := -1) hx hb dX12_race_48 (by decide) ?_
          refine W.widen (k := 7) (n := 487) (by omega) (by omega) ?_
          exact W.iret (v := (-1)) hx hb hr (fun t ht hW => ⟨⟨(-1), (), rfl, by rw [if_neg (fun hh => hh.elim d3a d3b), if_neg (fun hh => hh.elim d7a d7b), if_neg (fun hh => hh.elim d11a d11b), if_pos d46], trivial⟩, hS.F ht⟩) hS.2.2 dX12_race_49
      · --out
        have d48 := hw1
        refine lv_if_eq (tgt := 48) hx hb dX12_race_34 (by decide) (fun c49 => ?_) (fun c49 => by first | exact absurd c49 (by decide) | exact absurd (by decide) c49)
        refine lv_iconst (v := -1) hx hb dX12_race_48 (by decide) ?_
        refine W.widen (k := 7) (n := 487) (by omega) (by omega) ?_
        exact W.iret (v := (-1)) hx hb hr (fun t ht hW => ⟨⟨(-1), (), rfl, by rw [if_neg (fun hh => hh.elim d3a d3b), if_neg (fun hh => hh.elim d7a d7b), if_pos d48], trivial⟩, hS.F ht⟩) hS.2.2 dX12_race_49
    · --out
      have d50 := hw1
      refine lv_if_ne (tgt := 28) hx hb dX12_race_23 (by decide) (fun c51 => by first | exact absurd c51 (by decide) | exact absurd (by decide) c51) (fun c51 => ?_)
      refine lv_iconst (v := -1) hx hb dX12_race_26 (by decide) ?_
      refine W.widen (k := 7) (n := 487) (by omega) (by omega) ?_
      exact W.iret (v := (-1)) hx hb hr (fun t ht hW => ⟨⟨(-1), (), rfl, by rw [if_neg (fun hh => hh.elim d3a d3b), if_pos d50], trivial⟩, hS.F ht⟩) hS.2.2 dX12_race_27
  · --out
    have d52 := hw1
    refine lv_if_eq (tgt := 26) hx hb dX12_race_12 (by decide) (fun c53 => ?_) (fun c53 => by first | exact absurd c53 (by decide) | exact absurd (by decide) c53)
    refine lv_iconst (v := -1) hx hb dX12_race_26 (by decide) ?_
    refine W.widen (k := 7) (n := 487) (by omega) (by omega) ?_
    exact W.iret (v := (-1)) hx hb hr (fun t ht hW => ⟨⟨(-1), (), rfl, by rw [if_pos d52], trivial⟩, hS.F ht⟩) hS.2.2 dX12_race_27
