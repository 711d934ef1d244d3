def tyX13 : Nat → FieldType := fun k => match k with
  | 0 => .int
  | 1 => .int
  | 2 => .array .int
  | 3 => .array .int
  | 4 => .array .int
  | 5 => .array .int
  | 6 => .array .int
  | 7 => .array .int
  | 8 => .int
  | 9 => .int
  | 10 => .array .byte
  | 11 => .array .byte
  | 12 => .array .int
  | 13 => .array .int
  | 14 => .array .int
  | 15 => .array .int
  | 16 => .int
  | 17 => .int
  | 18 => .array .byte
  | 19 => .int
  | 20 => .int
  | 21 => .int
  | 22 => .int
  | 23 => .int
  | 24 => .int
  | 25 => .int
  | 26 => .boolean
  | 27 => .array .int
  | 28 => .array .int
  | 29 => .array .int
  | 30 => .array .int
  | 31 => .array .int
  | 32 => .array .int
  | 33 => .array .int
  | 34 => .array .int
  | 35 => .array .int
  | 36 => .array .int
  | 37 => .array .int
  | 38 => .array .int
  | 39 => .array .int
  | 40 => .array .int
  | 41 => .array .int
  | 42 => .array .int
  | 43 => .array .int
  | 44 => .array .int
  | 45 => .array .int
  | 46 => .int
  | 47 => .int
  | 48 => .int
  | 49 => .array .int
  | 50 => .array .int
  | 51 => .array .int
  | 52 => .array .int
  | 53 => .array .boolean
  | 54 => .array .boolean
  | 55 => .int
  | 56 => .array .int
  | 57 => .array .int
  | 58 => .array .int
  | 59 => .array .int
  | 60 => .array .int
  | 61 => .array .int
  | 62 => .array .int
  | 63 => .array .int
  | 64 => .array .int
  | 65 => .array .int
  | 66 => .array .int
  | 67 => .array .int
  | 68 => .array .int
  | 69 => .array .int
  | 70 => .array .int
  | 71 => .array .int
  | 72 => .array .int
  | 73 => .array .boolean
  | 74 => .int
  | 75 => .int
  | 76 => .array .int
  | 77 => .array .int
  | 78 => .array .int
  | 79 => .array .int
  | 80 => .array .int
  | 81 => .array .int
  | 82 => .array .int
  | 83 => .array .int
  | 84 => .array .int
  | 85 => .array .int
  | 86 => .int
  | 87 => .int
  | 88 => .int
  | 89 => .int
  | 90 => .array .int
  | 91 => .array .int
  | 92 => .array .int
  | 93 => .array .int
  | 94 => .array .int
  | 95 => .int
  | _ => .array .int
theorem nmX13 : ∀ a, a < 97 → ∀ b, b < 97 → a ≠ b → (TX13 a).2.1 ≠ (TX13 b).2.1 := by decide +kernel
theorem tyX13_ok : ∀ k, k < 97 → parseFieldDescriptor (TX13 k).2.2.1 = some (tyX13 k) := by decide +kernel
abbrev cX13_isIn : ByteArray := prog_15_method_3_code
def yX13_isIn : MethodName := ⟨RX13, "isIn", "(III)Z"⟩
abbrev cX13_isKnown : ByteArray := prog_15_method_4_code
def yX13_isKnown : MethodName := ⟨RX13, "isKnown", "(I)Z"⟩
abbrev cX13_isDay : ByteArray := prog_15_method_5_code
def yX13_isDay : MethodName := ⟨RX13, "isDay", "(I)Z"⟩
abbrev cX13_days : ByteArray := prog_15_method_6_code
def yX13_days : MethodName := ⟨RX13, "days", "(I)I"⟩
abbrev cX13_isBoat : ByteArray := prog_15_method_7_code
def yX13_isBoat : MethodName := ⟨RX13, "isBoat", "(I)Z"⟩
abbrev cX13_boat : ByteArray := prog_15_method_8_code
def yX13_boat : MethodName := ⟨RX13, "boat", "()I"⟩
abbrev cX13_end : ByteArray := prog_15_method_15_code
def yX13_end : MethodName := ⟨RX13, "end", "(I)Z"⟩
abbrev cX13_isRace : ByteArray := prog_15_method_40_code
def yX13_isRace : MethodName := ⟨RX13, "isRace", "(I)Z"⟩
theorem dX13_isIn_0 : decode cX13_isIn 0 = .ok (.iload_n 0, 1) := by decide +kernel
theorem dX13_isIn_1 : decode cX13_isIn 1 = .ok (.iload_n 1, 1) := by decide +kernel
theorem dX13_isIn_2 : decode cX13_isIn 2 = .ok (.if_icmp .lt 12, 3) := by decide +kernel
theorem dX13_isIn_5 : decode cX13_isIn 5 = .ok (.iload_n 0, 1) := by decide +kernel
theorem dX13_isIn_6 : decode cX13_isIn 6 = .ok (.iload_n 2, 1) := by decide +kernel
theorem dX13_isIn_7 : decode cX13_isIn 7 = .ok (.if_icmp .gt 7, 3) := by decide +kernel
theorem dX13_isIn_10 : decode cX13_isIn 10 = .ok (.iconst 1, 1) := by decide +kernel
theorem dX13_isIn_11 : decode cX13_isIn 11 = .ok (.goto 4, 3) := by decide +kernel
theorem dX13_isIn_14 : decode cX13_isIn 14 = .ok (.iconst 0, 1) := by decide +kernel
theorem dX13_isIn_15 : decode cX13_isIn 15 = .ok (.ireturn, 1) := by decide +kernel
theorem dX13_isKnown_0 : decode cX13_isKnown 0 = .ok (.iload_n 1, 1) := by decide +kernel
theorem dX13_isKnown_1 : decode cX13_isKnown 1 = .ok (.iconst 0, 1) := by decide +kernel
theorem dX13_isKnown_2 : decode cX13_isKnown 2 = .ok (.aload_n 0, 1) := by decide +kernel
theorem dX13_isKnown_3 : decode cX13_isKnown 3 = .ok (.getfield 232, 3) := by decide +kernel
theorem dX13_isKnown_6 : decode cX13_isKnown 6 = .ok (.invokestatic 235, 3) := by decide +kernel
theorem dX13_isKnown_9 : decode cX13_isKnown 9 = .ok (.ireturn, 1) := by decide +kernel
theorem dX13_isDay_0 : decode cX13_isDay 0 = .ok (.iload_n 0, 1) := by decide +kernel
theorem dX13_isDay_1 : decode cX13_isDay 1 = .ok (.iconst 0, 1) := by decide +kernel
theorem dX13_isDay_2 : decode cX13_isDay 2 = .ok (.sipush 400, 3) := by decide +kernel
theorem dX13_isDay_5 : decode cX13_isDay 5 = .ok (.invokestatic 235, 3) := by decide +kernel
theorem dX13_isDay_8 : decode cX13_isDay 8 = .ok (.ireturn, 1) := by decide +kernel
theorem dX13_days_0 : decode cX13_days 0 = .ok (.aload_n 0, 1) := by decide +kernel
theorem dX13_days_1 : decode cX13_days 1 = .ok (.iconst 0, 1) := by decide +kernel
theorem dX13_days_2 : decode cX13_days 2 = .ok (.putfield 228, 3) := by decide +kernel
theorem dX13_days_5 : decode cX13_days 5 = .ok (.iload_n 1, 1) := by decide +kernel
theorem dX13_days_6 : decode cX13_days 6 = .ok (.iconst 0, 1) := by decide +kernel
theorem dX13_days_7 : decode cX13_days 7 = .ok (.sipush 400, 3) := by decide +kernel
theorem dX13_days_10 : decode cX13_days 10 = .ok (.invokestatic 235, 3) := by decide +kernel
theorem dX13_days_13 : decode cX13_days 13 = .ok (.ifCond .eq 15, 3) := by decide +kernel
theorem dX13_days_16 : decode cX13_days 16 = .ok (.aload_n 0, 1) := by decide +kernel
theorem dX13_days_17 : decode cX13_days 17 = .ok (.getfield 232, 3) := by decide +kernel
theorem dX13_days_20 : decode cX13_days 20 = .ok (.iload_n 1, 1) := by decide +kernel
theorem dX13_days_21 : decode cX13_days 21 = .ok (.iadd, 1) := by decide +kernel
theorem dX13_days_22 : decode cX13_days 22 = .ok (.sipush 400, 3) := by decide +kernel
theorem dX13_days_25 : decode cX13_days 25 = .ok (.if_icmp .le 5, 3) := by decide +kernel
theorem dX13_days_28 : decode cX13_days 28 = .ok (.iconst (-1), 1) := by decide +kernel
theorem dX13_days_29 : decode cX13_days 29 = .ok (.ireturn, 1) := by decide +kernel
theorem dX13_days_30 : decode cX13_days 30 = .ok (.aload_n 0, 1) := by decide +kernel
theorem dX13_days_31 : decode cX13_days 31 = .ok (.dup, 1) := by decide +kernel
theorem dX13_days_32 : decode cX13_days 32 = .ok (.getfield 232, 3) := by decide +kernel
theorem dX13_days_35 : decode cX13_days 35 = .ok (.iload_n 1, 1) := by decide +kernel
theorem dX13_days_36 : decode cX13_days 36 = .ok (.iadd, 1) := by decide +kernel
theorem dX13_days_37 : decode cX13_days 37 = .ok (.putfield 232, 3) := by decide +kernel
theorem dX13_days_40 : decode cX13_days 40 = .ok (.aload_n 0, 1) := by decide +kernel
theorem dX13_days_41 : decode cX13_days 41 = .ok (.getfield 232, 3) := by decide +kernel
theorem dX13_days_44 : decode cX13_days 44 = .ok (.ireturn, 1) := by decide +kernel
theorem dX13_isBoat_0 : decode cX13_isBoat 0 = .ok (.iload_n 1, 1) := by decide +kernel
theorem dX13_isBoat_1 : decode cX13_isBoat 1 = .ok (.ifCond .lt 15, 3) := by decide +kernel
theorem dX13_isBoat_4 : decode cX13_isBoat 4 = .ok (.iload_n 1, 1) := by decide +kernel
theorem dX13_isBoat_5 : decode cX13_isBoat 5 = .ok (.aload_n 0, 1) := by decide +kernel
theorem dX13_isBoat_6 : decode cX13_isBoat 6 = .ok (.getfield 239, 3) := by decide +kernel
theorem dX13_isBoat_9 : decode cX13_isBoat 9 = .ok (.if_icmp .ge 7, 3) := by decide +kernel
theorem dX13_isBoat_12 : decode cX13_isBoat 12 = .ok (.iconst 1, 1) := by decide +kernel
theorem dX13_isBoat_13 : decode cX13_isBoat 13 = .ok (.goto 4, 3) := by decide +kernel
theorem dX13_isBoat_16 : decode cX13_isBoat 16 = .ok (.iconst 0, 1) := by decide +kernel
theorem dX13_isBoat_17 : decode cX13_isBoat 17 = .ok (.ireturn, 1) := by decide +kernel
theorem dX13_boat_0 : decode cX13_boat 0 = .ok (.aload_n 0, 1) := by decide +kernel
theorem dX13_boat_1 : decode cX13_boat 1 = .ok (.iconst 0, 1) := by decide +kernel
theorem dX13_boat_2 : decode cX13_boat 2 = .ok (.putfield 228, 3) := by decide +kernel
theorem dX13_boat_5 : decode cX13_boat 5 = .ok (.aload_n 0, 1) := by decide +kernel
theorem dX13_boat_6 : decode cX13_boat 6 = .ok (.getfield 239, 3) := by decide +kernel
theorem dX13_boat_9 : decode cX13_boat 9 = .ok (.bipush 16, 2) := by decide +kernel
theorem dX13_boat_11 : decode cX13_boat 11 = .ok (.if_icmp .ne 5, 3) := by decide +kernel
theorem dX13_boat_14 : decode cX13_boat 14 = .ok (.iconst (-1), 1) := by decide +kernel
theorem dX13_boat_15 : decode cX13_boat 15 = .ok (.ireturn, 1) := by decide +kernel
theorem dX13_boat_16 : decode cX13_boat 16 = .ok (.aload_n 0, 1) := by decide +kernel
theorem dX13_boat_17 : decode cX13_boat 17 = .ok (.dup, 1) := by decide +kernel
theorem dX13_boat_18 : decode cX13_boat 18 = .ok (.getfield 239, 3) := by decide +kernel
theorem dX13_boat_21 : decode cX13_boat 21 = .ok (.iconst 1, 1) := by decide +kernel
theorem dX13_boat_22 : decode cX13_boat 22 = .ok (.iadd, 1) := by decide +kernel
theorem dX13_boat_23 : decode cX13_boat 23 = .ok (.putfield 239, 3) := by decide +kernel
theorem dX13_boat_26 : decode cX13_boat 26 = .ok (.aload_n 0, 1) := by decide +kernel
theorem dX13_boat_27 : decode cX13_boat 27 = .ok (.getfield 239, 3) := by decide +kernel
theorem dX13_boat_30 : decode cX13_boat 30 = .ok (.iconst 1, 1) := by decide +kernel
theorem dX13_boat_31 : decode cX13_boat 31 = .ok (.isub, 1) := by decide +kernel
theorem dX13_boat_32 : decode cX13_boat 32 = .ok (.ireturn, 1) := by decide +kernel
theorem dX13_end_0 : decode cX13_end 0 = .ok (.aload_n 0, 1) := by decide +kernel
theorem dX13_end_1 : decode cX13_end 1 = .ok (.iconst 0, 1) := by decide +kernel
theorem dX13_end_2 : decode cX13_end 2 = .ok (.putfield 228, 3) := by decide +kernel
theorem dX13_end_5 : decode cX13_end 5 = .ok (.iload_n 1, 1) := by decide +kernel
theorem dX13_end_6 : decode cX13_end 6 = .ok (.ifCond .lt 11, 3) := by decide +kernel
theorem dX13_end_9 : decode cX13_end 9 = .ok (.iload_n 1, 1) := by decide +kernel
theorem dX13_end_10 : decode cX13_end 10 = .ok (.aload_n 0, 1) := by decide +kernel
theorem dX13_end_11 : decode cX13_end 11 = .ok (.getfield 259, 3) := by decide +kernel
theorem dX13_end_14 : decode cX13_end 14 = .ok (.if_icmp .le 5, 3) := by decide +kernel
theorem dX13_end_17 : decode cX13_end 17 = .ok (.iconst 0, 1) := by decide +kernel
theorem dX13_end_18 : decode cX13_end 18 = .ok (.ireturn, 1) := by decide +kernel
theorem dX13_end_19 : decode cX13_end 19 = .ok (.aload_n 0, 1) := by decide +kernel
theorem dX13_end_20 : decode cX13_end 20 = .ok (.iload_n 1, 1) := by decide +kernel
theorem dX13_end_21 : decode cX13_end 21 = .ok (.putfield 259, 3) := by decide +kernel
theorem dX13_end_24 : decode cX13_end 24 = .ok (.iconst 1, 1) := by decide +kernel
theorem dX13_end_25 : decode cX13_end 25 = .ok (.ireturn, 1) := by decide +kernel
theorem dX13_isRace_0 : decode cX13_isRace 0 = .ok (.iload_n 1, 1) := by decide +kernel
theorem dX13_isRace_1 : decode cX13_isRace 1 = .ok (.ifCond .lt 15, 3) := by decide +kernel
theorem dX13_isRace_4 : decode cX13_isRace 4 = .ok (.iload_n 1, 1) := by decide +kernel
theorem dX13_isRace_5 : decode cX13_isRace 5 = .ok (.aload_n 0, 1) := by decide +kernel
theorem dX13_isRace_6 : decode cX13_isRace 6 = .ok (.getfield 390, 3) := by decide +kernel
theorem dX13_isRace_9 : decode cX13_isRace 9 = .ok (.if_icmp .ge 7, 3) := by decide +kernel
theorem dX13_isRace_12 : decode cX13_isRace 12 = .ok (.iconst 1, 1) := by decide +kernel
theorem dX13_isRace_13 : decode cX13_isRace 13 = .ok (.goto 4, 3) := by decide +kernel
theorem dX13_isRace_16 : decode cX13_isRace 16 = .ok (.iconst 0, 1) := by decide +kernel
theorem dX13_isRace_17 : decode cX13_isRace 17 = .ok (.ireturn, 1) := by decide +kernel
def A_tm_isIn : List Cond := []
def v_tm_isIn : List Cond := .code yX13_isIn cX13_isIn 3 (some .boolean) :: (A_tm_isIn)
set_option maxHeartbeats 4000000 in
set_option maxRecDepth 100000 in
theorem tm_isIn (l : Launch) (n : Int32) (lo : Int32) (hi : Int32)  : Met l yX13_isIn v_tm_isIn ({ frames := 0, cells := 0, slots := 0, locals := 0 }) (va_Pc [.int n, .int lo, .int hi] (fun _ => True)) (va_Qi (S := Unit) (fun r _ => (r = 1 ∧ ¬ n < lo ∧ ¬ hi < n) ∨ (r = 0 ∧ (n < lo ∨ hi < n))) (fun _ _ => True) (fun _ => False)) 0 0 (fun _ => False) := by
  refine Met.ofW (cc := cX13_isIn) (maxL := 3) (ret := (some .boolean)) (by decide) rfl ?_
  intro p e s m args below meth c s₁ B hml hv
  obtain ⟨rfl, -⟩ := hv
  have hx := B.exec
  have hb := B.bytes
  have hr := B.returns
  have hts := atoms_spec (ws := v_tm_isIn) B.pre
  have hown : s.vm.findClass RX13 = some m.cls := findClass_of_methodNamed B.named
  have hlocks := B.notSynchronized
  have hS : va_S (fun _ : Nat => False) s.heap s.heap [] := va_S.rf
  have hl := lv_entry ([.int n, .int lo, .int hi]) (n := 3) (Nat.le_of_ble_eq_true rfl)
  rw [lg_entry_eq]
  generalize (lg_sl ([.int n, .int lo, .int hi]) ++ List.replicate (3 - (lg_sl ([.int n, .int lo, .int hi])).length) Slot.unset).toArray = ls at hl ⊢
  have hl : lv_has ls 3 [(0, .int n), (1, .int lo), (2, .int hi)] := hl
  refine lv_iload_n hx hb dX13_isIn_0 rfl (lv_at hl 0 rfl) ?_
  refine lv_iload_n hx hb dX13_isIn_1 rfl (lv_at hl 1 rfl) ?_
  refine lv_icmp_lt (tgt := 14) hx hb dX13_isIn_2 (by decide) (fun c1 => ?_) (fun c1 => ?_)
  · --n < lo
    refine lv_iconst (v := 0) hx hb dX13_isIn_14 (by decide) ?_
    exact W.zret (v := (0)) hx hb hr rfl (fun t ht hW => ⟨⟨(0), (), rfl, Or.inr ⟨rfl, Or.inl c1⟩, trivial⟩, hS.F ht⟩) hS.2.2 dX13_isIn_15
  · --¬ n < lo
    refine lv_iload_n hx hb dX13_isIn_5 rfl (lv_at hl 0 rfl) ?_
    refine lv_iload_n hx hb dX13_isIn_6 rfl (lv_at hl 2 rfl) ?_
    refine lv_icmp_gt (tgt := 14) hx hb dX13_isIn_7 (by decide) (fun c2 => ?_) (fun c2 => ?_)
    · --hi < n
      refine lv_iconst (v := 0) hx hb dX13_isIn_14 (by decide) ?_
      exact W.zret (v := (0)) hx hb hr rfl (fun t ht hW => ⟨⟨(0), (), rfl, Or.inr ⟨rfl, Or.inr c2⟩, trivial⟩, hS.F ht⟩) hS.2.2 dX13_isIn_15
    · --¬ hi < n
      refine lv_iconst (v := 1) hx hb dX13_isIn_10 (by decide) ?_
      refine lv_goto (tgt := 15) hx hb dX13_isIn_11 (by decide) ?_
      exact W.zret (v := (1)) hx hb hr rfl (fun t ht hW => ⟨⟨(1), (), rfl, Or.inl ⟨rfl, c1, c2⟩, trivial⟩, hS.F ht⟩) hS.2.2 dX13_isIn_15
def A_tm_isDay : List Cond := [.methodLink RX13 235 yX13_isIn, .static yX13_isIn, .initialized RX13, .code yX13_isIn cX13_isIn 3 (some .boolean)]
def v_tm_isDay : List Cond := .code yX13_isDay cX13_isDay 1 (some .boolean) :: (A_tm_isDay)
theorem gb_tm_isDay_tm_isIn0 : GoodIn v_tm_isDay (.code yX13_isIn cX13_isIn 3 (some .boolean) :: A_tm_isIn) := (List.forall_mem_cons.mpr ⟨⟨List.mem_of_getElem? (i := 4) rfl, good_of_word rfl⟩, (fun _ h => nomatch h)⟩)
theorem gb_tm_isDay_tm_isIn : GoodIn v_tm_isDay v_tm_isIn := gb_tm_isDay_tm_isIn0
theorem g_tm_isDay_tm_isIn_235 : GoodIn v_tm_isDay (va_wsS RX13 235 yX13_isIn v_tm_isIn) := goodIn_app (List.forall_mem_cons.mpr ⟨⟨List.mem_of_getElem? (i := 1) rfl, good_of_word rfl⟩, (List.forall_mem_cons.mpr ⟨⟨List.mem_of_getElem? (i := 2) rfl, good_of_word rfl⟩, (List.forall_mem_cons.mpr ⟨⟨List.mem_of_getElem? (i := 3) rfl, good_of_word rfl⟩, (fun _ h => nomatch h)⟩)⟩)⟩) gb_tm_isDay_tm_isIn
set_option maxHeartbeats 4000000 in
set_option maxRecDepth 100000 in
theorem tm_isDay (l : Launch) (n : Int32)  : Met l yX13_isDay v_tm_isDay ({ frames := 1, cells := 0, slots := 0, locals := 40 }) (va_Pc [.int n] (fun _ => True)) (va_Qi (S := Unit) (fun r _ => (r = 1 ∧ ¬ n < 0 ∧ ¬ 400 < n) ∨ (r = 0 ∧ (n < 0 ∨ 400 < n))) (fun _ _ => True) (fun _ => False)) 0 0 (fun _ => False) := by
  refine Met.ofW (cc := cX13_isDay) (maxL := 1) (ret := (some .boolean)) (by decide) rfl ?_
  intro p e s m args below meth c s₁ B hml hv
  obtain ⟨rfl, -⟩ := hv
  have hx := B.exec
  have hb := B.bytes
  have hr := B.returns
  have hts := atoms_spec (ws := v_tm_isDay) B.pre
  have hown : s.vm.findClass RX13 = some m.cls := findClass_of_methodNamed B.named
  have hlocks := B.notSynchronized
  have hS : va_S (fun _ : Nat => False) s.heap s.heap [] := va_S.rf
  have hl := lv_entry ([.int n]) (n := 1) (Nat.le_of_ble_eq_true rfl)
  rw [lg_entry_eq]
  generalize (lg_sl ([.int n]) ++ List.replicate (1 - (lg_sl ([.int n])).length) Slot.unset).toArray = ls at hl ⊢
  have hl : lv_has ls 1 [(0, .int n)] := hl
  refine lv_iload_n hx hb dX13_isDay_0 rfl (lv_at hl 0 rfl) ?_
  refine lv_iconst (v := 0) hx hb dX13_isDay_1 (by decide) ?_
  refine lv_sipush (v := 400) hx hb dX13_isDay_2 (by decide) ?_
  refine va_calli (va_runS (As := [.int n, .int 0, .int 400]) (rest := []) ⟨hx, hb, hml, hown, hts⟩ (tm_isIn l n (0) (400)) (va_cwS 3 hts g_tm_isDay_tm_isIn_235 rfl rfl rfl (by decide +kernel) ⟨Nat.le_of_ble_eq_true rfl, Nat.le_of_ble_eq_true rfl⟩) ⟨fun _ _ _ _ q => q, fun _ _ _ => ⟨rfl, trivial⟩⟩ rfl rfl hl.1 rfl (lv_room (Nat.le_of_ble_eq_true rfl)) dX13_isDay_5 ⟨Nat.le_of_ble_eq_true rfl, Nat.le_of_ble_eq_true rfl⟩) hS (fun _ _ h => h.elim) (fun _ h => h.elim) (fun r1 u2 t H1 locs ht hvm hw hB hz1 hk1 hS => ?_)
  generalize H1 = H at hS ⊢
  rcases hw with ⟨rfl, hw1, hw2⟩ | ⟨rfl, hw1⟩
  · --in
    have d3a := hw1
    have d3b := hw2
    exact W.zret (v := (1)) hx hb hr rfl (fun t ht hW => ⟨⟨(1), (), rfl, Or.inl ⟨rfl, d3a, d3b⟩, trivial⟩, hS.F ht⟩) hS.2.2 dX13_isDay_8
  · --out
    have d4 := hw1
    exact W.zret (v := (0)) hx hb hr rfl (fun t ht hW => ⟨⟨(0), (), rfl, Or.inr ⟨rfl, d4⟩, trivial⟩, hS.F ht⟩) hS.2.2 dX13_isDay_8
def A_tm_isKnown : List Cond := [.fieldLink RX13 232 "UnlikeBoatsModel" "now" "I", .methodLink RX13 235 yX13_isIn, .static yX13_isIn, .initialized RX13, .code yX13_isIn cX13_isIn 3 (some .boolean)]
def v_tm_isKnown : List Cond := .code yX13_isKnown cX13_isKnown 2 (some .boolean) :: (A_tm_isKnown ++ wsX130)
theorem iw_tm_isKnown_X13 : ∀ w ∈ wsX130, w ∈ v_tm_isKnown := fun _ h => List.mem_cons_of_mem _ (List.mem_append_right _ (h))
theorem gb_tm_isKnown_tm_isIn0 : GoodIn v_tm_isKnown (.code yX13_isIn cX13_isIn 3 (some .boolean) :: A_tm_isIn) := (List.forall_mem_cons.mpr ⟨⟨List.mem_of_getElem? (i := 5) rfl, good_of_word rfl⟩, (fun _ h => nomatch h)⟩)
theorem gb_tm_isKnown_tm_isIn : GoodIn v_tm_isKnown v_tm_isIn := gb_tm_isKnown_tm_isIn0
theorem g_tm_isKnown_tm_isIn_235 : GoodIn v_tm_isKnown (va_wsS RX13 235 yX13_isIn v_tm_isIn) := goodIn_app (List.forall_mem_cons.mpr ⟨⟨List.mem_of_getElem? (i := 2) rfl, good_of_word rfl⟩, (List.forall_mem_cons.mpr ⟨⟨List.mem_of_getElem? (i := 3) rfl, good_of_word rfl⟩, (List.forall_mem_cons.mpr ⟨⟨List.mem_of_getElem? (i := 4) rfl, good_of_word rfl⟩, (fun _ h => nomatch h)⟩)⟩)⟩) gb_tm_isKnown_tm_isIn
set_option maxHeartbeats 4000000 in
set_option maxRecDepth 100000 in
theorem tm_isKnown (l : Launch) (dC : Nat → ClassId) (dI : Nat → Nat → Nat) (h : Nat) (f : Nat → Value) (now : Int32) (a0 : Int32) (hf_now : f 1 = .int now) : Met l yX13_isKnown v_tm_isKnown ({ frames := 1, cells := 0, slots := 0, locals := 40 }) (va_Pc [.ref h, .int a0] (fun U => va_P (dC, dI) vwCl [(h, .inr (14, mL f))] U.heap ∧ va_K (dC, dI) vwCl [] U)) (va_Qi (S := Unit) (fun r _ => (r = 1 ∧ ¬ a0 < 0 ∧ ¬ now < a0) ∨ (r = 0 ∧ (a0 < 0 ∨ now < a0))) (fun _ _ => True) (fun _ => False)) 0 0 (fun _ => False) := by
  refine Met.ofW (cc := cX13_isKnown) (maxL := 2) (ret := (some .boolean)) (by decide) rfl ?_
  intro p e s m args below meth c s₁ B hml hv
  obtain ⟨rfl, hP, hK⟩ := hv
  have hx := B.exec
  have hb := B.bytes
  have hr := B.returns
  have hts := atoms_spec (ws := v_tm_isKnown) B.pre
  have hown : s.vm.findClass RX13 = some m.cls := findClass_of_methodNamed B.named
  have hlocks := B.notSynchronized
  have hS : va_S (fun _ : Nat => False) s.heap s.heap [] := va_S.rf
  have hl := lv_entry ([.ref h, .int a0]) (n := 2) (Nat.le_of_ble_eq_true rfl)
  rw [lg_entry_eq]
  generalize (lg_sl ([.ref h, .int a0]) ++ List.replicate (2 - (lg_sl ([.ref h, .int a0])).length) Slot.unset).toArray = ls at hl ⊢
  have hl : lv_has ls 2 [(0, .ref h), (1, .int a0)] := hl
  refine lv_iload_n hx hb dX13_isKnown_0 rfl (lv_at hl 1 rfl) ?_
  refine lv_iconst (v := 0) hx hb dX13_isKnown_1 (by decide) ?_
  refine lv_aload_n hx hb dX13_isKnown_2 rfl (lv_at hl 0 rfl) ?_
  refine va_get (D := (dC, dI)) (ci := 14) (v := .int now) (C := RX13) (T := TX13) (N := 97) hx hb hts iw_tm_isKnown_X13 hown hK hP 0 rfl rfl 1 (by decide) (hts (.fieldLink RX13 232 "UnlikeBoatsModel" "now" "I") (List.mem_of_getElem? (i := 1) rfl)) (fun _ h9 => h9) (mL_some (Nat.le_of_ble_eq_true rfl) hf_now) dX13_isKnown_3 ?_
  refine va_calli (va_runS (As := [.int a0, .int 0, .int now]) (rest := []) ⟨hx, hb, hml, hown, hts⟩ (tm_isIn l a0 (0) now) (va_cwS 3 hts g_tm_isKnown_tm_isIn_235 rfl rfl rfl (by decide +kernel) ⟨Nat.le_of_ble_eq_true rfl, Nat.le_of_ble_eq_true rfl⟩) ⟨fun _ _ _ _ q => q, fun _ _ _ => ⟨rfl, trivial⟩⟩ rfl rfl hl.1 rfl (lv_room (Nat.le_of_ble_eq_true rfl)) dX13_isKnown_6 ⟨Nat.le_of_ble_eq_true rfl, Nat.le_of_ble_eq_true rfl⟩) hS (fun _ _ h => h.elim) (fun _ h => h.elim) (fun r1 u2 t H1 locs ht hvm hw hB hz1 hk1 hS => ?_)
  have hP := ub_keep hP hk1
  generalize H1 = H at hP hS ⊢
  rcases hw with ⟨rfl, hw1, hw2⟩ | ⟨rfl, hw1⟩
  · --in
    have d3a := hw1
    have d3b := hw2
    exact W.zret (v := (1)) hx hb hr rfl (fun t ht hW => ⟨⟨(1), (), rfl, Or.inl ⟨rfl, d3a, d3b⟩, trivial⟩, hS.F ht⟩) hS.2.2 dX13_isKnown_9
  · --out
    have d4 := hw1
    exact W.zret (v := (0)) hx hb hr rfl (fun t ht hW => ⟨⟨(0), (), rfl, Or.inr ⟨rfl, d4⟩, trivial⟩, hS.F ht⟩) hS.2.2 dX13_isKnown_9
def A_tm_isBoat : List Cond := [.fieldLink RX13 239 "UnlikeBoatsModel" "boats" "I"]
def v_tm_isBoat : List Cond := .code yX13_isBoat cX13_isBoat 2 (some .boolean) :: (A_tm_isBoat ++ wsX130)
theorem iw_tm_isBoat_X13 : ∀ w ∈ wsX130, w ∈ v_tm_isBoat := fun _ h => List.mem_cons_of_mem _ (List.mem_append_right _ (h))
set_option maxHeartbeats 4000000 in
set_option maxRecDepth 100000 in
theorem tm_isBoat (l : Launch) (dC : Nat → ClassId) (dI : Nat → Nat → Nat) (h : Nat) (f : Nat → Value) (nb : Nat) (a0 : Int32) (hf_boats : f 8 = .int (nI nb)) (hB : nb < 2 ^ 31) : Met l yX13_isBoat v_tm_isBoat ({ frames := 0, cells := 0, slots := 0, locals := 0 }) (va_Pc [.ref h, .int a0] (fun U => va_P (dC, dI) vwCl [(h, .inr (14, mL f))] U.heap ∧ va_K (dC, dI) vwCl [] U)) (va_Qi (S := Unit) (fun r _ => (r = 1 ∧ ∃ k : Nat, a0 = nI k ∧ k < nb) ∨ r = 0) (fun _ _ => True) (fun _ => False)) 0 0 (fun _ => False) := by
  refine Met.ofW (cc := cX13_isBoat) (maxL := 2) (ret := (some .boolean)) (by decide) rfl ?_
  intro p e s m args below meth c s₁ B hml hv
  obtain ⟨rfl, hP, hK⟩ := hv
  have hx := B.exec
  have hb := B.bytes
  have hr := B.returns
  have hts := atoms_spec (ws := v_tm_isBoat) B.pre
  have hown : s.vm.findClass RX13 = some m.cls := findClass_of_methodNamed B.named
  have hlocks := B.notSynchronized
  have hS : va_S (fun _ : Nat => False) s.heap s.heap [] := va_S.rf
  have hl := lv_entry ([.ref h, .int a0]) (n := 2) (Nat.le_of_ble_eq_true rfl)
  rw [lg_entry_eq]
  generalize (lg_sl ([.ref h, .int a0]) ++ List.replicate (2 - (lg_sl ([.ref h, .int a0])).length) Slot.unset).toArray = ls at hl ⊢
  have hl : lv_has ls 2 [(0, .ref h), (1, .int a0)] := hl
  refine lv_iload_n hx hb dX13_isBoat_0 rfl (lv_at hl 1 rfl) ?_
  refine lv_if_lt (tgt := 16) hx hb dX13_isBoat_1 (by decide) (fun c1 => ?_) (fun c1 => ?_)
  · --a0 < 0
    refine lv_iconst (v := 0) hx hb dX13_isBoat_16 (by decide) ?_
    exact W.zret (v := (0)) hx hb hr rfl (fun t ht hW => ⟨⟨(0), (), rfl, Or.inr rfl, trivial⟩, hS.F ht⟩) hS.2.2 dX13_isBoat_17
  · --¬ a0 < 0
    refine lv_iload_n hx hb dX13_isBoat_4 rfl (lv_at hl 1 rfl) ?_
    refine lv_aload_n hx hb dX13_isBoat_5 rfl (lv_at hl 0 rfl) ?_
    refine va_get (D := (dC, dI)) (ci := 14) (v := .int (nI nb)) (C := RX13) (T := TX13) (N := 97) hx hb hts iw_tm_isBoat_X13 hown hK hP 0 rfl rfl 8 (by decide) (hts (.fieldLink RX13 239 "UnlikeBoatsModel" "boats" "I") (List.mem_of_getElem? (i := 1) rfl)) (fun _ h9 => h9) (mL_some (Nat.le_of_ble_eq_true rfl) hf_boats) dX13_isBoat_6 ?_
    refine lv_icmp_ge (tgt := 16) hx hb dX13_isBoat_9 (by decide) (fun c2 => ?_) (fun c2 => ?_)
    · --nI nb ≤ a0
      refine lv_iconst (v := 0) hx hb dX13_isBoat_16 (by decide) ?_
      exact W.zret (v := (0)) hx hb hr rfl (fun t ht hW => ⟨⟨(0), (), rfl, Or.inr rfl, trivial⟩, hS.F ht⟩) hS.2.2 dX13_isBoat_17
    · --¬ nI nb ≤ a0
      refine lv_iconst (v := 1) hx hb dX13_isBoat_12 (by decide) ?_
      refine lv_goto (tgt := 17) hx hb dX13_isBoat_13 (by decide) ?_
      exact W.zret (v := (1)) hx hb hr rfl (fun t ht hW => ⟨⟨(1), (), rfl, Or.inl ⟨rfl, tb_idx c1 (ub_lt c2) hB⟩, trivial⟩, hS.F ht⟩) hS.2.2 dX13_isBoat_17
def A_tm_isRace : List Cond := [.fieldLink RX13 390 "UnlikeBoatsModel" "races" "I"]
def v_tm_isRace : List Cond := .code yX13_isRace cX13_isRace 2 (some .boolean) :: (A_tm_isRace ++ wsX130)
theorem iw_tm_isRace_X13 : ∀ w ∈ wsX130, w ∈ v_tm_isRace := fun _ h => List.mem_cons_of_mem _ (List.mem_append_right _ (h))
set_option maxHeartbeats 4000000 in
set_option maxRecDepth 100000 in
theorem tm_isRace (l : Launch) (dC : Nat → ClassId) (dI : Nat → Nat → Nat) (h : Nat) (f : Nat → Value) (nb : Nat) (a0 : Int32) (hf_races : f 46 = .int (nI nb)) (hB : nb < 2 ^ 31) : Met l yX13_isRace v_tm_isRace ({ frames := 0, cells := 0, slots := 0, locals := 0 }) (va_Pc [.ref h, .int a0] (fun U => va_P (dC, dI) vwCl [(h, .inr (14, mL f))] U.heap ∧ va_K (dC, dI) vwCl [] U)) (va_Qi (S := Unit) (fun r _ => (r = 1 ∧ ∃ k : Nat, a0 = nI k ∧ k < nb) ∨ r = 0) (fun _ _ => True) (fun _ => False)) 0 0 (fun _ => False) := by
  refine Met.ofW (cc := cX13_isRace) (maxL := 2) (ret := (some .boolean)) (by decide) rfl ?_
  intro p e s m args below meth c s₁ B hml hv
  obtain ⟨rfl, hP, hK⟩ := hv
  have hx := B.exec
  have hb := B.bytes
  have hr := B.returns
  have hts := atoms_spec (ws := v_tm_isRace) B.pre
  have hown : s.vm.findClass RX13 = some m.cls := findClass_of_methodNamed B.named
  have hlocks := B.notSynchronized
  have hS : va_S (fun _ : Nat => False) s.heap s.heap [] := va_S.rf
  have hl := lv_entry ([.ref h, .int a0]) (n := 2) (Nat.le_of_ble_eq_true rfl)
  rw [lg_entry_eq]
  generalize (lg_sl ([.ref h, .int a0]) ++ List.replicate (2 - (lg_sl ([.ref h, .int a0])).length) Slot.unset).toArray = ls at hl ⊢
  have hl : lv_has ls 2 [(0, .ref h), (1, .int a0)] := hl
  refine lv_iload_n hx hb dX13_isRace_0 rfl (lv_at hl 1 rfl) ?_
  refine lv_if_lt (tgt := 16) hx hb dX13_isRace_1 (by decide) (fun c1 => ?_) (fun c1 => ?_)
  · --a0 < 0
    refine lv_iconst (v := 0) hx hb dX13_isRace_16 (by decide) ?_
    exact W.zret (v := (0)) hx hb hr rfl (fun t ht hW => ⟨⟨(0), (), rfl, Or.inr rfl, trivial⟩, hS.F ht⟩) hS.2.2 dX13_isRace_17
  · --¬ a0 < 0
    refine lv_iload_n hx hb dX13_isRace_4 rfl (lv_at hl 1 rfl) ?_
    refine lv_aload_n hx hb dX13_isRace_5 rfl (lv_at hl 0 rfl) ?_
    refine va_get (D := (dC, dI)) (ci := 14) (v := .int (nI nb)) (C := RX13) (T := TX13) (N := 97) hx hb hts iw_tm_isRace_X13 hown hK hP 0 rfl rfl 46 (by decide) (hts (.fieldLink RX13 390 "UnlikeBoatsModel" "races" "I") (List.mem_of_getElem? (i := 1) rfl)) (fun _ h9 => h9) (mL_some (Nat.le_of_ble_eq_true rfl) hf_races) dX13_isRace_6 ?_
    refine lv_icmp_ge (tgt := 16) hx hb dX13_isRace_9 (by decide) (fun c2 => ?_) (fun c2 => ?_)
    · --nI nb ≤ a0
      refine lv_iconst (v := 0) hx hb dX13_isRace_16 (by decide) ?_
      exact W.zret (v := (0)) hx hb hr rfl (fun t ht hW => ⟨⟨(0), (), rfl, Or.inr rfl, trivial⟩, hS.F ht⟩) hS.2.2 dX13_isRace_17
    · --¬ nI nb ≤ a0
      refine lv_iconst (v := 1) hx hb dX13_isRace_12 (by decide) ?_
      refine lv_goto (tgt := 17) hx hb dX13_isRace_13 (by decide) ?_
      exact W.zret (v := (1)) hx hb hr rfl (fun t ht hW => ⟨⟨(1), (), rfl, Or.inl ⟨rfl, tb_idx c1 (ub_lt c2) hB⟩, trivial⟩, hS.F ht⟩) hS.2.2 dX13_isRace_17
def A_tm_boat : List Cond := [.fieldLink RX13 228 "UnlikeBoatsModel" "thrown" "I", .fieldLink RX13 239 "UnlikeBoatsModel" "boats" "I"]
def v_tm_boat : List Cond := .code yX13_boat cX13_boat 1 (some .int) :: (A_tm_boat ++ wsX130)
theorem iw_tm_boat_X13 : ∀ w ∈ wsX130, w ∈ v_tm_boat := fun _ h => List.mem_cons_of_mem _ (List.mem_append_right _ (h))
set_option maxHeartbeats 4000000 in
set_option maxRecDepth 100000 in
theorem tm_boat (l : Launch) (dC : Nat → ClassId) (dI : Nat → Nat → Nat) (h : Nat) (f : Nat → Value) (nb : Nat) (sz : Nat) (hf_boats : f 8 = .int (nI nb)) (hB : nb ≤ 16) : Met l yX13_boat v_tm_boat ({ frames := 0, cells := 0, slots := 0, locals := 0 }) (va_Pc [.ref h] (fun U => U.heap.size = sz ∧ va_P (dC, dI) vwCl [(h, .inr (14, mL f))] U.heap ∧ va_K (dC, dI) vwCl [] U ∧ va_D (fun _ => True) [(h, .inr (14, mL f))])) (va_Qi (S := Nat → Value) (fun r u => (r = -1 ∧ u = va_up f 0 (.int 0)) ∨ (nb < 16 ∧ r = nI nb ∧ u = va_up (va_up f 0 (.int 0)) 8 (.int (nI (nb + 1))))) (fun u t => va_P (dC, dI) vwCl [(h, .inr (14, mL u))] t.heap ∧ va_K (dC, dI) vwCl [] t ∧ va_D (va_A [(h, .inr (14, mL f))] sz) [(h, .inr (14, mL u))]) (va_A [(h, .inr (14, mL f))] sz)) 0 0 (va_A [(h, .inr (14, mL f))] sz) := by
  refine Met.ofW (cc := cX13_boat) (maxL := 1) (ret := (some .int)) (by decide) rfl ?_
  intro p e s m args below meth c s₁ B hml hv
  obtain ⟨rfl, hsz, hP, hK, hD0⟩ := hv
  have hx := B.exec
  have hb := B.bytes
  have hr := B.returns
  have hts := atoms_spec (ws := v_tm_boat) B.pre
  have hown : s.vm.findClass RX13 = some m.cls := findClass_of_methodNamed B.named
  have hlocks := B.notSynchronized
  subst hsz
  have hD := hD0.self (sz := s.heap.size)
  generalize hAe : va_A [(h, .inr (14, mL f))] s.heap.size = A at hD ⊢
  have hA : ∀ q : Nat, s.heap.size ≤ q → A q := fun q h => by rw [← hAe]; exact Or.inr h
  have hS : va_S A s.heap s.heap [] := va_S.rf
  have hP : va_P (dC, dI) vwCl [(h, .inr (14, mL f))] s.heap := hP
  have hl := lv_entry ([.ref h]) (n := 1) (Nat.le_of_ble_eq_true rfl)
  rw [lg_entry_eq]
  generalize (lg_sl ([.ref h]) ++ List.replicate (1 - (lg_sl ([.ref h])).length) Slot.unset).toArray = ls at hl ⊢
  have hl : lv_has ls 1 [(0, .ref h)] := hl
  refine lv_aload_n hx hb dX13_boat_0 rfl (lv_at hl 0 rfl) ?_
  refine lv_iconst (v := 0) hx hb dX13_boat_1 (by decide) ?_
  refine va_put (D := (dC, dI)) (ci := 14) (v := .int 0) (ty := .int) (C := RX13) (T := TX13) (N := 97) hx hb hts iw_tm_boat_X13 tyX13 tyX13_ok nmX13 hown hK hP hD hS 0 rfl rfl 0 (by decide) (hts (.fieldLink RX13 228 "UnlikeBoatsModel" "thrown" "I") (List.mem_of_getElem? (i := 1) rfl)) (fun _ h9 => h9) rfl (by decide +kernel) rfl rfl (mL_lt (Nat.le_of_ble_eq_true rfl)) dX13_boat_2 (fun H locs hP hD hS => ?_)
  have hP : va_P (dC, dI) vwCl [(h, .inr (14, (mL f).set 0 (.int 0)))] H := hP
  have hD : va_D A [(h, .inr (14, (mL f).set 0 (.int 0)))] := hD
  obtain ⟨g1, eg1⟩ : ∃ z9, z9 = va_up f 0 (.int 0) := ⟨_, rfl⟩
  rw [mL_upd, ← eg1] at hP hD
  have hg1_8 : g1 8 = .int (nI nb) := by rw [eg1]; exact (va_up_ne _ _ (by decide)).trans hf_boats
  have hg1_0 : g1 0 = .int 0 := by rw [eg1]; exact va_up_self _ _ _
  refine lv_aload_n hx hb dX13_boat_5 rfl (lv_at hl 0 rfl) ?_
  refine va_get (D := (dC, dI)) (ci := 14) (v := .int (nI nb)) (C := RX13) (T := TX13) (N := 97) hx hb hts iw_tm_boat_X13 hown hK hP 0 rfl rfl 8 (by decide) (hts (.fieldLink RX13 239 "UnlikeBoatsModel" "boats" "I") (List.mem_of_getElem? (i := 2) rfl)) (fun _ h9 => h9) (mL_some (Nat.le_of_ble_eq_true rfl) hg1_8) dX13_boat_6 ?_
  refine lv_bipush (v := 16) hx hb dX13_boat_9 (by decide) ?_
  refine lv_icmp_ne (tgt := 16) hx hb dX13_boat_11 (by decide) (fun c2 => ?_) (fun c2 => ?_)
  · --¬ nI nb = 16
    refine lv_aload_n hx hb dX13_boat_16 rfl (lv_at hl 0 rfl) ?_
    refine lv_dup hx hb dX13_boat_17 rfl ?_
    refine va_get (D := (dC, dI)) (ci := 14) (v := .int (nI nb)) (C := RX13) (T := TX13) (N := 97) hx hb hts iw_tm_boat_X13 hown hK hP 0 rfl rfl 8 (by decide) (hts (.fieldLink RX13 239 "UnlikeBoatsModel" "boats" "I") (List.mem_of_getElem? (i := 2) rfl)) (fun _ h9 => h9) (mL_some (Nat.le_of_ble_eq_true rfl) hg1_8) dX13_boat_18 ?_
    refine lv_iconst (v := 1) hx hb dX13_boat_21 (by decide) ?_
    refine lv_iadd hx hb dX13_boat_22 ?_
    refine lv_topi (fun y3 ey3 => ?_)
    obtain rfl : (nI (nb + 1) : Int32) = y3 := (ey3.trans (nI_1 _)).symm
    refine va_put (D := (dC, dI)) (ci := 14) (v := .int (nI (nb + 1))) (ty := .int) (C := RX13) (T := TX13) (N := 97) hx hb hts iw_tm_boat_X13 tyX13 tyX13_ok nmX13 hown hK hP hD hS 0 rfl rfl 8 (by decide) (hts (.fieldLink RX13 239 "UnlikeBoatsModel" "boats" "I") (List.mem_of_getElem? (i := 2) rfl)) (fun _ h9 => h9) rfl (by decide +kernel) rfl rfl (mL_lt (Nat.le_of_ble_eq_true rfl)) dX13_boat_23 (fun H locs hP hD hS => ?_)
    have hP : va_P (dC, dI) vwCl [(h, .inr (14, (mL g1).set 8 (.int (nI (nb + 1)))))] H := hP
    have hD : va_D A [(h, .inr (14, (mL g1).set 8 (.int (nI (nb + 1)))))] := hD
    obtain ⟨g4, eg4⟩ : ∃ z9, z9 = va_up g1 8 (.int (nI (nb + 1))) := ⟨_, rfl⟩
    rw [mL_upd, ← eg4] at hP hD
    have hg4_0 : g4 0 = .int 0 := by rw [eg4]; exact (va_up_ne _ _ (by decide)).trans hg1_0
    have hg4_8 : g4 8 = .int (nI (nb + 1)) := by rw [eg4]; exact va_up_self _ _ _
    refine lv_aload_n hx hb dX13_boat_26 rfl (lv_at hl 0 rfl) ?_
    refine va_get (D := (dC, dI)) (ci := 14) (v := .int (nI (nb + 1))) (C := RX13) (T := TX13) (N := 97) hx hb hts iw_tm_boat_X13 hown hK hP 0 rfl rfl 8 (by decide) (hts (.fieldLink RX13 239 "UnlikeBoatsModel" "boats" "I") (List.mem_of_getElem? (i := 2) rfl)) (fun _ h9 => h9) (mL_some (Nat.le_of_ble_eq_true rfl) hg4_8) dX13_boat_27 ?_
    refine lv_iconst (v := 1) hx hb dX13_boat_30 (by decide) ?_
    refine lv_isub hx hb dX13_boat_31 ?_
    have hP9 := hP.sub (ws' := [(h, .inr (14, mL g4))]) [0] rfl
    have hD9 := hD.sub (ws' := [(h, .inr (14, mL g4))]) [0] (by decide) rfl
    have hK9 := hK.sub (tys' := []) [] rfl
    exact W.iret (v := (nI (nb + 1)) - (1 : Int32)) hx hb hr (fun t ht hW => ⟨⟨(nI (nb + 1)) - (1 : Int32), g4, rfl, Or.inr ⟨tb_ne c2 hB, tb_pred nb, by subst_vars; rfl⟩, (by rw [ht]; exact hP9), va_K.moved hW.alike hK9, hD9⟩, hS.F ht⟩) hS.2.2 dX13_boat_32
  · --nI nb = 16
    refine lv_iconst (v := -1) hx hb dX13_boat_14 (by decide) ?_
    have hP9 := hP.sub (ws' := [(h, .inr (14, mL g1))]) [0] rfl
    have hD9 := hD.sub (ws' := [(h, .inr (14, mL g1))]) [0] (by decide) rfl
    have hK9 := hK.sub (tys' := []) [] rfl
    exact W.iret (v := (-1)) hx hb hr (fun t ht hW => ⟨⟨(-1), g1, rfl, Or.inl ⟨rfl, by subst_vars; rfl⟩, (by rw [ht]; exact hP9), va_K.moved hW.alike hK9, hD9⟩, hS.F ht⟩) hS.2.2 dX13_boat_15
def A_tm_days : List Cond := [.fieldLink RX13 228 "UnlikeBoatsModel" "thrown" "I", .methodLink RX13 235 yX13_isIn, .static yX13_isIn, .initialized RX13, .fieldLink RX13 232 "UnlikeBoatsModel" "now" "I", .code yX13_isIn cX13_isIn 3 (some .boolean)]
def v_tm_days : List Cond := .code yX13_days cX13_days 2 (some .int) :: (A_tm_days ++ wsX130)
theorem iw_tm_days_X13 : ∀ w ∈ wsX130, w ∈ v_tm_days := fun _ h => List.mem_cons_of_mem _ (List.mem_append_right _ (h))
theorem gb_tm_days_tm_isIn0 : GoodIn v_tm_days (.code yX13_isIn cX13_isIn 3 (some .boolean) :: A_tm_isIn) := (List.forall_mem_cons.mpr ⟨⟨List.mem_of_getElem? (i := 6) rfl, good_of_word rfl⟩, (fun _ h => nomatch h)⟩)
theorem gb_tm_days_tm_isIn : GoodIn v_tm_days v_tm_isIn := gb_tm_days_tm_isIn0
theorem g_tm_days_tm_isIn_235 : GoodIn v_tm_days (va_wsS RX13 235 yX13_isIn v_tm_isIn) := goodIn_app (List.forall_mem_cons.mpr ⟨⟨List.mem_of_getElem? (i := 2) rfl, good_of_word rfl⟩, (List.forall_mem_cons.mpr ⟨⟨List.mem_of_getElem? (i := 3) rfl, good_of_word rfl⟩, (List.forall_mem_cons.mpr ⟨⟨List.mem_of_getElem? (i := 4) rfl, good_of_word rfl⟩, (fun _ h => nomatch h)⟩)⟩)⟩) gb_tm_days_tm_isIn
set_option maxHeartbeats 4000000 in
set_option maxRecDepth 100000 in
theorem tm_days (l : Launch) (dC : Nat → ClassId) (dI : Nat → Nat → Nat) (h : Nat) (f : Nat → Value) (nw : Nat) (a0 : Int32) (sz : Nat) (hf_now : f 1 = .int (nI nw)) (hB : nw ≤ 400) : Met l yX13_days v_tm_days ({ frames := 1, cells := 0, slots := 0, locals := 40 }) (va_Pc [.ref h, .int a0] (fun U => U.heap.size = sz ∧ va_P (dC, dI) vwCl [(h, .inr (14, mL f))] U.heap ∧ va_K (dC, dI) vwCl [] U ∧ va_D (fun _ => True) [(h, .inr (14, mL f))])) (va_Qi (S := Nat → Value) (fun r u => (r = -1 ∧ u = va_up f 0 (.int 0)) ∨ (∃ k : Nat, a0 = nI k ∧ nw + k ≤ 400 ∧ r = nI (nw + k) ∧ u = va_up (va_up f 0 (.int 0)) 1 (.int (nI (nw + k))))) (fun u t => va_P (dC, dI) vwCl [(h, .inr (14, mL u))] t.heap ∧ va_K (dC, dI) vwCl [] t ∧ va_D (va_A [(h, .inr (14, mL f))] sz) [(h, .inr (14, mL u))]) (va_A [(h, .inr (14, mL f))] sz)) 0 0 (va_A [(h, .inr (14, mL f))] sz) := by
  refine Met.ofW (cc := cX13_days) (maxL := 2) (ret := (some .int)) (by decide) rfl ?_
  intro p e s m args below meth c s₁ B hml hv
  obtain ⟨rfl, hsz, hP, hK, hD0⟩ := hv
  have hx := B.exec
  have hb := B.bytes
  have hr := B.returns
  have hts := atoms_spec (ws := v_tm_days) B.pre
  have hown : s.vm.findClass RX13 = some m.cls := findClass_of_methodNamed B.named
  have hlocks := B.notSynchronized
  subst hsz
  have hD := hD0.self (sz := s.heap.size)
  generalize hAe : va_A [(h, .inr (14, mL f))] s.heap.size = A at hD ⊢
  have hA : ∀ q : Nat, s.heap.size ≤ q → A q := fun q h => by rw [← hAe]; exact Or.inr h
  have hS : va_S A s.heap s.heap [] := va_S.rf
  have hP : va_P (dC, dI) vwCl [(h, .inr (14, mL f))] s.heap := hP
  have hl := lv_entry ([.ref h, .int a0]) (n := 2) (Nat.le_of_ble_eq_true rfl)
  rw [lg_entry_eq]
  generalize (lg_sl ([.ref h, .int a0]) ++ List.replicate (2 - (lg_sl ([.ref h, .int a0])).length) Slot.unset).toArray = ls at hl ⊢
  have hl : lv_has ls 2 [(0, .ref h), (1, .int a0)] := hl
  refine lv_aload_n hx hb dX13_days_0 rfl (lv_at hl 0 rfl) ?_
  refine lv_iconst (v := 0) hx hb dX13_days_1 (by decide) ?_
  refine va_put (D := (dC, dI)) (ci := 14) (v := .int 0) (ty := .int) (C := RX13) (T := TX13) (N := 97) hx hb hts iw_tm_days_X13 tyX13 tyX13_ok nmX13 hown hK hP hD hS 0 rfl rfl 0 (by decide) (hts (.fieldLink RX13 228 "UnlikeBoatsModel" "thrown" "I") (List.mem_of_getElem? (i := 1) rfl)) (fun _ h9 => h9) rfl (by decide +kernel) rfl rfl (mL_lt (Nat.le_of_ble_eq_true rfl)) dX13_days_2 (fun H locs hP hD hS => ?_)
  have hP : va_P (dC, dI) vwCl [(h, .inr (14, (mL f).set 0 (.int 0)))] H := hP
  have hD : va_D A [(h, .inr (14, (mL f).set 0 (.int 0)))] := hD
  obtain ⟨g1, eg1⟩ : ∃ z9, z9 = va_up f 0 (.int 0) := ⟨_, rfl⟩
  rw [mL_upd, ← eg1] at hP hD
  have hg1_1 : g1 1 = .int (nI nw) := by rw [eg1]; exact (va_up_ne _ _ (by decide)).trans hf_now
  have hg1_0 : g1 0 = .int 0 := by rw [eg1]; exact va_up_self _ _ _
  refine lv_iload_n hx hb dX13_days_5 rfl (lv_at hl 1 rfl) ?_
  refine lv_iconst (v := 0) hx hb dX13_days_6 (by decide) ?_
  refine lv_sipush (v := 400) hx hb dX13_days_7 (by decide) ?_
  refine va_calli (va_runS (As := [.int a0, .int 0, .int 400]) (rest := []) ⟨hx, hb, hml, hown, hts⟩ (tm_isIn l a0 (0) (400)) (va_cwS 3 hts g_tm_days_tm_isIn_235 rfl rfl rfl (by decide +kernel) ⟨Nat.le_of_ble_eq_true rfl, Nat.le_of_ble_eq_true rfl⟩) ⟨fun _ _ _ _ q => q, fun _ _ _ => ⟨rfl, trivial⟩⟩ rfl rfl hl.1 rfl (lv_room (Nat.le_of_ble_eq_true rfl)) dX13_days_10 ⟨Nat.le_of_ble_eq_true rfl, Nat.le_of_ble_eq_true rfl⟩) hS (fun _ _ h => h.elim) (fun _ h => h.elim) (fun r2 u3 t H1 locs ht hvm hw hB hz1 hk1 hS => ?_)
  have hP := ub_keep hP hk1
  generalize H1 = H at hP hS ⊢
  rcases hw with ⟨rfl, hw1, hw2⟩ | ⟨rfl, hw1⟩
  · --in
    have d4a := hw1
    have d4b := hw2
    refine lv_if_eq (tgt := 28) hx hb dX13_days_13 (by decide) (fun c5 => by first | exact absurd c5 (by decide) | exact absurd (by decide) c5) (fun c5 => ?_)
    obtain ⟨k6, ek6, hk6⟩ := tb_rng (a := a0) (hi := 400) d4a d4b (by omega)
    rw [ek6] at hl
    refine lv_aload_n hx hb dX13_days_16 rfl (lv_at hl 0 rfl) ?_
    refine va_get (D := (dC, dI)) (ci := 14) (v := .int (nI nw)) (C := RX13) (T := TX13) (N := 97) hx hb hts iw_tm_days_X13 hown hK hP 0 rfl rfl 1 (by decide) (hts (.fieldLink RX13 232 "UnlikeBoatsModel" "now" "I") (List.mem_of_getElem? (i := 5) rfl)) (fun _ h9 => h9) (mL_some (Nat.le_of_ble_eq_true rfl) hg1_1) dX13_days_17 ?_
    refine lv_iload_n hx hb dX13_days_20 rfl (lv_at hl 1 rfl) ?_
    refine lv_iadd hx hb dX13_days_21 ?_
    refine lv_topi (fun y7 ey7 => ?_)
    obtain rfl : (nI (nw + k6) : Int32) = y7 := (ey7.trans (nI_add _ _)).symm
    refine lv_sipush (v := 400) hx hb dX13_days_22 (by decide) ?_
    refine lv_icmp_le (tgt := 30) hx hb dX13_days_25 (by decide) (fun c8 => ?_) (fun c8 => ?_)
    · --nI (nw + k6) ≤ 400
      refine lv_aload_n hx hb dX13_days_30 rfl (lv_at hl 0 rfl) ?_
      refine lv_dup hx hb dX13_days_31 rfl ?_
      refine va_get (D := (dC, dI)) (ci := 14) (v := .int (nI nw)) (C := RX13) (T := TX13) (N := 97) hx hb hts iw_tm_days_X13 hown hK hP 0 rfl rfl 1 (by decide) (hts (.fieldLink RX13 232 "UnlikeBoatsModel" "now" "I") (List.mem_of_getElem? (i := 5) rfl)) (fun _ h9 => h9) (mL_some (Nat.le_of_ble_eq_true rfl) hg1_1) dX13_days_32 ?_
      refine lv_iload_n hx hb dX13_days_35 rfl (lv_at hl 1 rfl) ?_
      refine lv_iadd hx hb dX13_days_36 ?_
      refine lv_topi (fun y9 ey9 => ?_)
      obtain rfl : (nI (nw + k6) : Int32) = y9 := (ey9.trans (nI_add _ _)).symm
      refine va_put (D := (dC, dI)) (ci := 14) (v := .int (nI (nw + k6))) (ty := .int) (C := RX13) (T := TX13) (N := 97) hx hb hts iw_tm_days_X13 tyX13 tyX13_ok nmX13 hown hK hP hD hS 0 rfl rfl 1 (by decide) (hts (.fieldLink RX13 232 "UnlikeBoatsModel" "now" "I") (List.mem_of_getElem? (i := 5) rfl)) (fun _ h9 => h9) rfl (by decide +kernel) rfl rfl (mL_lt (Nat.le_of_ble_eq_true rfl)) dX13_days_37 (fun H locs hP hD hS => ?_)
      have hP : va_P (dC, dI) vwCl [(h, .inr (14, (mL g1).set 1 (.int (nI (nw + k6)))))] H := hP
      have hD : va_D A [(h, .inr (14, (mL g1).set 1 (.int (nI (nw + k6)))))] := hD
      obtain ⟨g10, eg10⟩ : ∃ z9, z9 = va_up g1 1 (.int (nI (nw + k6))) := ⟨_, rfl⟩
      rw [mL_upd, ← eg10] at hP hD
      have hg10_0 : g10 0 = .int 0 := by rw [eg10]; exact (va_up_ne _ _ (by decide)).trans hg1_0
      have hg10_1 : g10 1 = .int (nI (nw + k6)) := by rw [eg10]; exact va_up_self _ _ _
      refine lv_aload_n hx hb dX13_days_40 rfl (lv_at hl 0 rfl) ?_
      refine va_get (D := (dC, dI)) (ci := 14) (v := .int (nI (nw + k6))) (C := RX13) (T := TX13) (N := 97) hx hb hts iw_tm_days_X13 hown hK hP 0 rfl rfl 1 (by decide) (hts (.fieldLink RX13 232 "UnlikeBoatsModel" "now" "I") (List.mem_of_getElem? (i := 5) rfl)) (fun _ h9 => h9) (mL_some (Nat.le_of_ble_eq_true rfl) hg10_1) dX13_days_41 ?_
      have hP9 := hP.sub (ws' := [(h, .inr (14, mL g10))]) [0] rfl
      have hD9 := hD.sub (ws' := [(h, .inr (14, mL g10))]) [0] (by decide) rfl
      have hK9 := hK.sub (tys' := []) [] rfl
      exact W.iret (v := nI (nw + k6)) hx hb hr (fun t ht hW => ⟨⟨nI (nw + k6), g10, rfl, Or.inr ⟨k6, ek6, tb_le (c := 400) c8 (by omega) (by omega), rfl, by subst eg1; exact eg10⟩, (by rw [ht]; exact hP9), va_K.moved hW.alike hK9, hD9⟩, hS.F ht⟩) hS.2.2 dX13_days_44
    · --¬ nI (nw + k6) ≤ 400
      refine lv_iconst (v := -1) hx hb dX13_days_28 (by decide) ?_
      have hP9 := hP.sub (ws' := [(h, .inr (14, mL g1))]) [0] rfl
      have hD9 := hD.sub (ws' := [(h, .inr (14, mL g1))]) [0] (by decide) rfl
      have hK9 := hK.sub (tys' := []) [] rfl
      exact W.iret (v := (-1)) hx hb hr (fun t ht hW => ⟨⟨(-1), g1, rfl, Or.inl ⟨rfl, by subst_vars; rfl⟩, (by rw [ht]; exact hP9), va_K.moved hW.alike hK9, hD9⟩, hS.F ht⟩) hS.2.2 dX13_days_29
  · --out
    have d11 := hw1
    refine lv_if_eq (tgt := 28) hx hb dX13_days_13 (by decide) (fun c12 => ?_) (fun c12 => by first | exact absurd c12 (by decide) | exact absurd (by decide) c12)
    refine lv_iconst (v := -1) hx hb dX13_days_28 (by decide) ?_
    have hP9 := hP.sub (ws' := [(h, .inr (14, mL g1))]) [0] rfl
    have hD9 := hD.sub (ws' := [(h, .inr (14, mL g1))]) [0] (by decide) rfl
    have hK9 := hK.sub (tys' := []) [] rfl
    exact W.iret (v := (-1)) hx hb hr (fun t ht hW => ⟨⟨(-1), g1, rfl, Or.inl ⟨rfl, by subst_vars; rfl⟩, (by rw [ht]; exact hP9), va_K.moved hW.alike hK9, hD9⟩, hS.F ht⟩) hS.2.2 dX13_days_29
def A_tm_end : List Cond := [.fieldLink RX13 228 "UnlikeBoatsModel" "thrown" "I", .fieldLink RX13 259 "UnlikeBoatsModel" "length" "I"]
def v_tm_end : List Cond := .code yX13_end cX13_end 2 (some .boolean) :: (A_tm_end ++ wsX130)
theorem iw_tm_end_X13 : ∀ w ∈ wsX130, w ∈ v_tm_end := fun _ h => List.mem_cons_of_mem _ (List.mem_append_right _ (h))
set_option maxHeartbeats 4000000 in
set_option maxRecDepth 100000 in
theorem tm_end (l : Launch) (dC : Nat → ClassId) (dI : Nat → Nat → Nat) (h : Nat) (f : Nat → Value) (ln : Nat) (a0 : Int32) (sz : Nat) (hf_length : f 16 = .int (nI ln)) (hB : ln ≤ 200) : Met l yX13_end v_tm_end ({ frames := 0, cells := 0, slots := 0, locals := 0 }) (va_Pc [.ref h, .int a0] (fun U => U.heap.size = sz ∧ va_P (dC, dI) vwCl [(h, .inr (14, mL f))] U.heap ∧ va_K (dC, dI) vwCl [] U ∧ va_D (fun _ => True) [(h, .inr (14, mL f))])) (va_Qi (S := Nat → Value) (fun r u => (r = 0 ∧ u = va_up f 0 (.int 0)) ∨ (∃ k : Nat, a0 = nI k ∧ k ≤ ln ∧ r = 1 ∧ u = va_up (va_up f 0 (.int 0)) 16 (.int (nI k)))) (fun u t => va_P (dC, dI) vwCl [(h, .inr (14, mL u))] t.heap ∧ va_K (dC, dI) vwCl [] t ∧ va_D (va_A [(h, .inr (14, mL f))] sz) [(h, .inr (14, mL u))]) (va_A [(h, .inr (14, mL f))] sz)) 0 0 (va_A [(h, .inr (14, mL f))] sz) := by
  refine Met.ofW (cc := cX13_end) (maxL := 2) (ret := (some .boolean)) (by decide) rfl ?_
  intro p e s m args below meth c s₁ B hml hv
  obtain ⟨rfl, hsz, hP, hK, hD0⟩ := hv
  have hx := B.exec
  have hb := B.bytes
  have hr := B.returns
  have hts := atoms_spec (ws := v_tm_end) B.pre
  have hown : s.vm.findClass RX13 = some m.cls := findClass_of_methodNamed B.named
  have hlocks := B.notSynchronized
  subst hsz
  have hD := hD0.self (sz := s.heap.size)
  generalize hAe : va_A [(h, .inr (14, mL f))] s.heap.size = A at hD ⊢
  have hA : ∀ q : Nat, s.heap.size ≤ q → A q := fun q h => by rw [← hAe]; exact Or.inr h
  have hS : va_S A s.heap s.heap [] := va_S.rf
  have hP : va_P (dC, dI) vwCl [(h, .inr (14, mL f))] s.heap := hP
  have hl := lv_entry ([.ref h, .int a0]) (n := 2) (Nat.le_of_ble_eq_true rfl)
  rw [lg_entry_eq]
  generalize (lg_sl ([.ref h, .int a0]) ++ List.replicate (2 - (lg_sl ([.ref h, .int a0])).length) Slot.unset).toArray = ls at hl ⊢
  have hl : lv_has ls 2 [(0, .ref h), (1, .int a0)] := hl
  refine lv_aload_n hx hb dX13_end_0 rfl (lv_at hl 0 rfl) ?_
  refine lv_iconst (v := 0) hx hb dX13_end_1 (by decide) ?_
  refine va_put (D := (dC, dI)) (ci := 14) (v := .int 0) (ty := .int) (C := RX13) (T := TX13) (N := 97) hx hb hts iw_tm_end_X13 tyX13 tyX13_ok nmX13 hown hK hP hD hS 0 rfl rfl 0 (by decide) (hts (.fieldLink RX13 228 "UnlikeBoatsModel" "thrown" "I") (List.mem_of_getElem? (i := 1) rfl)) (fun _ h9 => h9) rfl (by decide +kernel) rfl rfl (mL_lt (Nat.le_of_ble_eq_true rfl)) dX13_end_2 (fun H locs hP hD hS => ?_)
  have hP : va_P (dC, dI) vwCl [(h, .inr (14, (mL f).set 0 (.int 0)))] H := hP
  have hD : va_D A [(h, .inr (14, (mL f).set 0 (.int 0)))] := hD
  obtain ⟨g1, eg1⟩ : ∃ z9, z9 = va_up f 0 (.int 0) := ⟨_, rfl⟩
  rw [mL_upd, ← eg1] at hP hD
  have hg1_16 : g1 16 = .int (nI ln) := by rw [eg1]; exact (va_up_ne _ _ (by decide)).trans hf_length
  have hg1_0 : g1 0 = .int 0 := by rw [eg1]; exact va_up_self _ _ _
  refine lv_iload_n hx hb dX13_end_5 rfl (lv_at hl 1 rfl) ?_
  refine lv_if_lt (tgt := 17) hx hb dX13_end_6 (by decide) (fun c2 => ?_) (fun c2 => ?_)
  · --a0 < 0
    refine lv_iconst (v := 0) hx hb dX13_end_17 (by decide) ?_
    have hP9 := hP.sub (ws' := [(h, .inr (14, mL g1))]) [0] rfl
    have hD9 := hD.sub (ws' := [(h, .inr (14, mL g1))]) [0] (by decide) rfl
    have hK9 := hK.sub (tys' := []) [] rfl
    exact W.zret (v := (0)) hx hb hr rfl (fun t ht hW => ⟨⟨(0), g1, rfl, Or.inl ⟨rfl, by subst_vars; rfl⟩, (by rw [ht]; exact hP9), va_K.moved hW.alike hK9, hD9⟩, hS.F ht⟩) hS.2.2 dX13_end_18
  · --¬ a0 < 0
    refine lv_iload_n hx hb dX13_end_9 rfl (lv_at hl 1 rfl) ?_
    refine lv_aload_n hx hb dX13_end_10 rfl (lv_at hl 0 rfl) ?_
    refine va_get (D := (dC, dI)) (ci := 14) (v := .int (nI ln)) (C := RX13) (T := TX13) (N := 97) hx hb hts iw_tm_end_X13 hown hK hP 0 rfl rfl 16 (by decide) (hts (.fieldLink RX13 259 "UnlikeBoatsModel" "length" "I") (List.mem_of_getElem? (i := 2) rfl)) (fun _ h9 => h9) (mL_some (Nat.le_of_ble_eq_true rfl) hg1_16) dX13_end_11 ?_
    refine lv_icmp_le (tgt := 19) hx hb dX13_end_14 (by decide) (fun c3 => ?_) (fun c3 => ?_)
    · --a0 ≤ nI ln
      obtain ⟨k4, ek4, hk4⟩ := tb_rng (a := a0) (hi := ln) c2 (ub_nlt c3) (by omega)
      rw [ek4] at hl
      refine lv_aload_n hx hb dX13_end_19 rfl (lv_at hl 0 rfl) ?_
      refine lv_iload_n hx hb dX13_end_20 rfl (lv_at hl 1 rfl) ?_
      refine va_put (D := (dC, dI)) (ci := 14) (v := .int (nI k4)) (ty := .int) (C := RX13) (T := TX13) (N := 97) hx hb hts iw_tm_end_X13 tyX13 tyX13_ok nmX13 hown hK hP hD hS 0 rfl rfl 16 (by decide) (hts (.fieldLink RX13 259 "UnlikeBoatsModel" "length" "I") (List.mem_of_getElem? (i := 2) rfl)) (fun _ h9 => h9) rfl (by decide +kernel) rfl rfl (mL_lt (Nat.le_of_ble_eq_true rfl)) dX13_end_21 (fun H locs hP hD hS => ?_)
      have hP : va_P (dC, dI) vwCl [(h, .inr (14, (mL g1).set 16 (.int (nI k4))))] H := hP
      have hD : va_D A [(h, .inr (14, (mL g1).set 16 (.int (nI k4))))] := hD
      obtain ⟨g5, eg5⟩ : ∃ z9, z9 = va_up g1 16 (.int (nI k4)) := ⟨_, rfl⟩
      rw [mL_upd, ← eg5] at hP hD
      have hg5_0 : g5 0 = .int 0 := by rw [eg5]; exact (va_up_ne _ _ (by decide)).trans hg1_0
      have hg5_16 : g5 16 = .int (nI k4) := by rw [eg5]; exact va_up_self _ _ _
      refine lv_iconst (v := 1) hx hb dX13_end_24 (by decide) ?_
      have hP9 := hP.sub (ws' := [(h, .inr (14, mL g5))]) [0] rfl
      have hD9 := hD.sub (ws' := [(h, .inr (14, mL g5))]) [0] (by decide) rfl
      have hK9 := hK.sub (tys' := []) [] rfl
      exact W.zret (v := (1)) hx hb hr rfl (fun t ht hW => ⟨⟨(1), g5, rfl, Or.inr ⟨k4, ek4, hk4, rfl, by subst eg1; exact eg5⟩, (by rw [ht]; exact hP9), va_K.moved hW.alike hK9, hD9⟩, hS.F ht⟩) hS.2.2 dX13_end_25
    · --¬ a0 ≤ nI ln
      refine lv_iconst (v := 0) hx hb dX13_end_17 (by decide) ?_
      have hP9 := hP.sub (ws' := [(h, .inr (14, mL g1))]) [0] rfl
      have hD9 := hD.sub (ws' := [(h, .inr (14, mL g1))]) [0] (by decide) rfl
      have hK9 := hK.sub (tys' := []) [] rfl
      exact W.zret (v := (0)) hx hb hr rfl (fun t ht hW => ⟨⟨(0), g1, rfl, Or.inl ⟨rfl, by subst_vars; rfl⟩, (by rw [ht]; exact hP9), va_K.moved hW.alike hK9, hD9⟩, hS.F ht⟩) hS.2.2 dX13_end_18
