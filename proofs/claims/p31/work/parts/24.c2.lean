set_option maxRecDepth 100000 in
theorem zh_dJx4a65c_size_8abf5_0_0 : zc cJx4a65c_size_8abf5 0 [42, 180, 0, 48, 172] = true := by decide +kernel
set_option maxRecDepth 100000 in
theorem zh_dJx4a65c_elementData_915e3_0_0 : zc cJx4a65c_elementData_915e3 0 [42, 180, 0, 9, 27, 50, 176] = true := by decide +kernel
set_option maxRecDepth 100000 in
theorem zh_dJx4a65c_get_915e3_0_0 : zc cJx4a65c_get_915e3 0 [27, 42, 180, 0, 48, 184, 0, 118, 87, 42, 27, 182, 0, 123, 176] = true := by decide +kernel
set_option maxRecDepth 100000 in
theorem zh_dJ7_fill_53178_0_0 : zc cJ7_fill_53178 0 [3, 61, 42, 190, 62, 28, 29, 162, 0, 13, 42, 28, 27, 79, 132, 2] = true := by decide +kernel
set_option maxRecDepth 100000 in
theorem zh_dJ7_fill_53178_14_16 : zc cJ7_fill_53178 16 [1, 167, 255, 244, 177] = true := by decide +kernel
set_option maxRecDepth 100000 in
theorem zh_dJ15_checkIndex_7cf53_0_0 : zc cJ15_checkIndex_7cf53 0 [26, 27, 1, 184, 0, 105, 172] = true := by decide +kernel
set_option maxRecDepth 100000 in
theorem zh_dJ3_checkIndex_8e157_0_0 : zc cJ3_checkIndex_8e157 0 [26, 155, 0, 8, 26, 27, 161, 0, 10, 44, 26, 27, 184, 0, 95, 191] = true := by decide +kernel
set_option maxRecDepth 100000 in
theorem zh_dJ3_checkIndex_8e157_16_16 : zc cJ3_checkIndex_8e157 16 [26, 172] = true := by decide +kernel
theorem dJx4a65c_size_8abf5_0 : decode cJx4a65c_size_8abf5 0 = .ok (.aload_n 0, 1) := zo_42 (zi_at zh_dJx4a65c_size_8abf5_0_0 0 rfl)
theorem dJx4a65c_size_8abf5_1 : decode cJx4a65c_size_8abf5 1 = .ok (.getfield 48, 3) := zo_180 (zi_at zh_dJx4a65c_size_8abf5_0_0 1 rfl) (zi_at zh_dJx4a65c_size_8abf5_0_0 2 rfl) (zi_at zh_dJx4a65c_size_8abf5_0_0 3 rfl) rfl
theorem dJx4a65c_size_8abf5_4 : decode cJx4a65c_size_8abf5 4 = .ok (.ireturn, 1) := zo_172 (zi_at zh_dJx4a65c_size_8abf5_0_0 4 rfl)
theorem dJx4a65c_elementData_915e3_0 : decode cJx4a65c_elementData_915e3 0 = .ok (.aload_n 0, 1) := zo_42 (zi_at zh_dJx4a65c_elementData_915e3_0_0 0 rfl)
theorem dJx4a65c_elementData_915e3_1 : decode cJx4a65c_elementData_915e3 1 = .ok (.getfield 9, 3) := zo_180 (zi_at zh_dJx4a65c_elementData_915e3_0_0 1 rfl) (zi_at zh_dJx4a65c_elementData_915e3_0_0 2 rfl) (zi_at zh_dJx4a65c_elementData_915e3_0_0 3 rfl) rfl
theorem dJx4a65c_elementData_915e3_4 : decode cJx4a65c_elementData_915e3 4 = .ok (.iload_n 1, 1) := zo_27 (zi_at zh_dJx4a65c_elementData_915e3_0_0 4 rfl)
theorem dJx4a65c_elementData_915e3_5 : decode cJx4a65c_elementData_915e3 5 = .ok (.aaload, 1) := zo_50 (zi_at zh_dJx4a65c_elementData_915e3_0_0 5 rfl)
theorem dJx4a65c_elementData_915e3_6 : decode cJx4a65c_elementData_915e3 6 = .ok (.areturn, 1) := zo_176 (zi_at zh_dJx4a65c_elementData_915e3_0_0 6 rfl)
theorem dJx4a65c_get_915e3_0 : decode cJx4a65c_get_915e3 0 = .ok (.iload_n 1, 1) := zo_27 (zi_at zh_dJx4a65c_get_915e3_0_0 0 rfl)
theorem dJx4a65c_get_915e3_1 : decode cJx4a65c_get_915e3 1 = .ok (.aload_n 0, 1) := zo_42 (zi_at zh_dJx4a65c_get_915e3_0_0 1 rfl)
theorem dJx4a65c_get_915e3_2 : decode cJx4a65c_get_915e3 2 = .ok (.getfield 48, 3) := zo_180 (zi_at zh_dJx4a65c_get_915e3_0_0 2 rfl) (zi_at zh_dJx4a65c_get_915e3_0_0 3 rfl) (zi_at zh_dJx4a65c_get_915e3_0_0 4 rfl) rfl
theorem dJx4a65c_get_915e3_5 : decode cJx4a65c_get_915e3 5 = .ok (.invokestatic 118, 3) := zo_184 (zi_at zh_dJx4a65c_get_915e3_0_0 5 rfl) (zi_at zh_dJx4a65c_get_915e3_0_0 6 rfl) (zi_at zh_dJx4a65c_get_915e3_0_0 7 rfl) rfl
theorem dJx4a65c_get_915e3_8 : decode cJx4a65c_get_915e3 8 = .ok (.pop, 1) := zo_87 (zi_at zh_dJx4a65c_get_915e3_0_0 8 rfl)
theorem dJx4a65c_get_915e3_9 : decode cJx4a65c_get_915e3 9 = .ok (.aload_n 0, 1) := zo_42 (zi_at zh_dJx4a65c_get_915e3_0_0 9 rfl)
theorem dJx4a65c_get_915e3_10 : decode cJx4a65c_get_915e3 10 = .ok (.iload_n 1, 1) := zo_27 (zi_at zh_dJx4a65c_get_915e3_0_0 10 rfl)
theorem dJx4a65c_get_915e3_11 : decode cJx4a65c_get_915e3 11 = .ok (.invokevirtual 123, 3) := zo_182 (zi_at zh_dJx4a65c_get_915e3_0_0 11 rfl) (zi_at zh_dJx4a65c_get_915e3_0_0 12 rfl) (zi_at zh_dJx4a65c_get_915e3_0_0 13 rfl) rfl
theorem dJx4a65c_get_915e3_14 : decode cJx4a65c_get_915e3 14 = .ok (.areturn, 1) := zo_176 (zi_at zh_dJx4a65c_get_915e3_0_0 14 rfl)
theorem dJ7_fill_53178_0 : decode cJ7_fill_53178 0 = .ok (.iconst 0, 1) := zo_3 (zi_at zh_dJ7_fill_53178_0_0 0 rfl)
theorem dJ7_fill_53178_1 : decode cJ7_fill_53178 1 = .ok (.istore_n 2, 1) := zo_61 (zi_at zh_dJ7_fill_53178_0_0 1 rfl)
theorem dJ7_fill_53178_2 : decode cJ7_fill_53178 2 = .ok (.aload_n 0, 1) := zo_42 (zi_at zh_dJ7_fill_53178_0_0 2 rfl)
theorem dJ7_fill_53178_3 : decode cJ7_fill_53178 3 = .ok (.arraylength, 1) := zo_190 (zi_at zh_dJ7_fill_53178_0_0 3 rfl)
theorem dJ7_fill_53178_4 : decode cJ7_fill_53178 4 = .ok (.istore_n 3, 1) := zo_62 (zi_at zh_dJ7_fill_53178_0_0 4 rfl)
theorem dJ7_fill_53178_5 : decode cJ7_fill_53178 5 = .ok (.iload_n 2, 1) := zo_28 (zi_at zh_dJ7_fill_53178_0_0 5 rfl)
theorem dJ7_fill_53178_6 : decode cJ7_fill_53178 6 = .ok (.iload_n 3, 1) := zo_29 (zi_at zh_dJ7_fill_53178_0_0 6 rfl)
theorem dJ7_fill_53178_7 : decode cJ7_fill_53178 7 = .ok (.if_icmp .ge 13, 3) := zo_162 (zi_at zh_dJ7_fill_53178_0_0 7 rfl) (zi_at zh_dJ7_fill_53178_0_0 8 rfl) (zi_at zh_dJ7_fill_53178_0_0 9 rfl) rfl
theorem dJ7_fill_53178_10 : decode cJ7_fill_53178 10 = .ok (.aload_n 0, 1) := zo_42 (zi_at zh_dJ7_fill_53178_0_0 10 rfl)
theorem dJ7_fill_53178_11 : decode cJ7_fill_53178 11 = .ok (.iload_n 2, 1) := zo_28 (zi_at zh_dJ7_fill_53178_0_0 11 rfl)
theorem dJ7_fill_53178_12 : decode cJ7_fill_53178 12 = .ok (.iload_n 1, 1) := zo_27 (zi_at zh_dJ7_fill_53178_0_0 12 rfl)
theorem dJ7_fill_53178_13 : decode cJ7_fill_53178 13 = .ok (.iastore, 1) := zo_79 (zi_at zh_dJ7_fill_53178_0_0 13 rfl)
theorem dJ7_fill_53178_14 : decode cJ7_fill_53178 14 = .ok (.iinc 2 1, 3) := zo_132 (zi_at zh_dJ7_fill_53178_0_0 14 rfl) (zi_at zh_dJ7_fill_53178_0_0 15 rfl) (zi_at zh_dJ7_fill_53178_14_16 0 rfl) rfl
theorem dJ7_fill_53178_17 : decode cJ7_fill_53178 17 = .ok (.goto (-12), 3) := zo_167 (zi_at zh_dJ7_fill_53178_14_16 1 rfl) (zi_at zh_dJ7_fill_53178_14_16 2 rfl) (zi_at zh_dJ7_fill_53178_14_16 3 rfl) rfl
theorem dJ7_fill_53178_20 : decode cJ7_fill_53178 20 = .ok (.return_, 1) := zo_177 (zi_at zh_dJ7_fill_53178_14_16 4 rfl)
theorem dJ15_checkIndex_7cf53_0 : decode cJ15_checkIndex_7cf53 0 = .ok (.iload_n 0, 1) := zo_26 (zi_at zh_dJ15_checkIndex_7cf53_0_0 0 rfl)
theorem dJ15_checkIndex_7cf53_1 : decode cJ15_checkIndex_7cf53 1 = .ok (.iload_n 1, 1) := zo_27 (zi_at zh_dJ15_checkIndex_7cf53_0_0 1 rfl)
theorem dJ15_checkIndex_7cf53_2 : decode cJ15_checkIndex_7cf53 2 = .ok (.aconst_null, 1) := zo_1 (zi_at zh_dJ15_checkIndex_7cf53_0_0 2 rfl)
theorem dJ15_checkIndex_7cf53_3 : decode cJ15_checkIndex_7cf53 3 = .ok (.invokestatic 105, 3) := zo_184 (zi_at zh_dJ15_checkIndex_7cf53_0_0 3 rfl) (zi_at zh_dJ15_checkIndex_7cf53_0_0 4 rfl) (zi_at zh_dJ15_checkIndex_7cf53_0_0 5 rfl) rfl
theorem dJ15_checkIndex_7cf53_6 : decode cJ15_checkIndex_7cf53 6 = .ok (.ireturn, 1) := zo_172 (zi_at zh_dJ15_checkIndex_7cf53_0_0 6 rfl)
theorem dJ3_checkIndex_8e157_0 : decode cJ3_checkIndex_8e157 0 = .ok (.iload_n 0, 1) := zo_26 (zi_at zh_dJ3_checkIndex_8e157_0_0 0 rfl)
theorem dJ3_checkIndex_8e157_1 : decode cJ3_checkIndex_8e157 1 = .ok (.ifCond .lt 8, 3) := zo_155 (zi_at zh_dJ3_checkIndex_8e157_0_0 1 rfl) (zi_at zh_dJ3_checkIndex_8e157_0_0 2 rfl) (zi_at zh_dJ3_checkIndex_8e157_0_0 3 rfl) rfl
theorem dJ3_checkIndex_8e157_4 : decode cJ3_checkIndex_8e157 4 = .ok (.iload_n 0, 1) := zo_26 (zi_at zh_dJ3_checkIndex_8e157_0_0 4 rfl)
theorem dJ3_checkIndex_8e157_5 : decode cJ3_checkIndex_8e157 5 = .ok (.iload_n 1, 1) := zo_27 (zi_at zh_dJ3_checkIndex_8e157_0_0 5 rfl)
theorem dJ3_checkIndex_8e157_6 : decode cJ3_checkIndex_8e157 6 = .ok (.if_icmp .lt 10, 3) := zo_161 (zi_at zh_dJ3_checkIndex_8e157_0_0 6 rfl) (zi_at zh_dJ3_checkIndex_8e157_0_0 7 rfl) (zi_at zh_dJ3_checkIndex_8e157_0_0 8 rfl) rfl
theorem dJ3_checkIndex_8e157_16 : decode cJ3_checkIndex_8e157 16 = .ok (.iload_n 0, 1) := zo_26 (zi_at zh_dJ3_checkIndex_8e157_16_16 0 rfl)
theorem dJ3_checkIndex_8e157_17 : decode cJ3_checkIndex_8e157 17 = .ok (.ireturn, 1) := zo_172 (zi_at zh_dJ3_checkIndex_8e157_16_16 1 rfl)
theorem hz_yJ3_checkIndex_8e157_3 : yJ3_checkIndex_8e157.cls ≠ "java/lang/invoke/MethodHandle" ∧ yJ3_checkIndex_8e157.cls ≠ "java/lang/invoke/VarHandle" ∧ (parseMethodDescriptor yJ3_checkIndex_8e157.desc).map (fun d => d.parameters.length) = some 3 := by decide +kernel
theorem hz_yJ15_checkIndex_7cf53_2 : yJ15_checkIndex_7cf53.cls ≠ "java/lang/invoke/MethodHandle" ∧ yJ15_checkIndex_7cf53.cls ≠ "java/lang/invoke/VarHandle" ∧ (parseMethodDescriptor yJ15_checkIndex_7cf53.desc).map (fun d => d.parameters.length) = some 2 := by decide +kernel
theorem hz_yJx4a65c_elementData_915e3_1 : yJx4a65c_elementData_915e3.cls ≠ "java/lang/invoke/MethodHandle" ∧ yJx4a65c_elementData_915e3.cls ≠ "java/lang/invoke/VarHandle" ∧ (parseMethodDescriptor yJx4a65c_elementData_915e3.desc).map (fun d => d.parameters.length) = some 1 := by decide +kernel
def v_chk3 : List Cond := .code yJ3_checkIndex_8e157 cJ3_checkIndex_8e157 3 (some .int) :: vA
abbrev rm_chk3 : Room := { frames := 0, cells := 0, slots := 0, locals := 0 }
set_option maxHeartbeats 4000000 in
set_option maxRecDepth 100000 in
theorem q_chk3 (l : Launch) (a0 : Int32) (a1 : Int32) (hh0 : 0 ≤ a0.toInt ∧ a0.toInt < a1.toInt) : Met l yJ3_checkIndex_8e157 v_chk3 rm_chk3 (va_Pc [.int a0, .int a1, .null] (fun _ => True)) (va_Qi (S := Unit) (fun r _ => True) (fun _ _ => True) (fun _ => False)) 0 0 (fun _ => False) := by
  refine Met.ofW (cc := cJ3_checkIndex_8e157) (maxL := 3) (ret := (some .int)) (by decide) rfl ?_
  intro p e s m args below meth c s₁ B hml hv
  obtain ⟨hargs, -⟩ := hv
  have hx := B.exec
  have hb := B.bytes
  have hr := B.returns
  have hts := atoms_spec (ws := v_chk3) B.pre
  have hown : s.vm.findClass RJ3 = some m.cls := findClass_of_methodNamed B.named
  have hlocks := B.notSynchronized
  have hS : va_S (fun _ : Nat => False) s.heap s.heap [] := va_S.rf
  have hl := lv_entry ([.int a0, .int a1, .null]) (n := 3) (Nat.le_of_ble_eq_true rfl)
  obtain ⟨Q, hQ⟩ : ∃ Q, Q = MQ below (va_Qi (S := Unit) (fun r _ => True) (fun _ _ => True) (fun _ => False)) args s 0 0 (fun _ => False) := ⟨_, rfl⟩
  rw [← hQ, show entryFrame m args 3 = _ from (congrArg (fun z => entryFrame m z 3) hargs).trans (lg_entry_eq _ _ _)]
  generalize (lg_sl ([.int a0, .int a1, .null]) ++ List.replicate (3 - (lg_sl ([.int a0, .int a1, .null])).length) Slot.unset).toArray = ls at hl ⊢
  have hl : lv_has ls 3 [(0, .int a0), (1, .int a1), (2, .null)] := hl
  refine lv_iload_n hx hb dJ3_checkIndex_8e157_0 rfl (lv_at hl 0 rfl) ?_
  refine lv_if_lt (tgt := 9) hx hb dJ3_checkIndex_8e157_1 (by decide) (fun c1 => ?_) (fun c1 => ?_)
  · --1 taken
    have t2 : a0.toInt < 0 := ti_lt c1
    have i3 : -2147483648 ≤ a0.toInt ∧ a0.toInt ≤ -1 := iv_lt_l t2 (iv_all _) (il_ 0) (by decide)
    exfalso; omega
  · --1 not
    have t4 : (0 : Int) ≤ a0.toInt := ti_nlt c1
    have i5 : 0 ≤ a0.toInt ∧ a0.toInt ≤ 2147483647 := iv_le_r t4 (il_ 0) (iv_all _) (by decide)
    refine lv_iload_n hx hb dJ3_checkIndex_8e157_4 rfl (lv_at hl 0 rfl) ?_
    refine lv_iload_n hx hb dJ3_checkIndex_8e157_5 rfl (lv_at hl 1 rfl) ?_
    refine lv_icmp_lt (tgt := 16) hx hb dJ3_checkIndex_8e157_6 (by decide) (fun c6 => ?_) (fun c6 => ?_)
    · --6 taken
      have t7 : a0.toInt < a1.toInt := ti_lt c6
      have i8 : 0 ≤ a0.toInt ∧ a0.toInt ≤ 2147483646 := iv_lt_l t7 i5 (iv_all _) (by decide)
      have i9 : 1 ≤ a1.toInt ∧ a1.toInt ≤ 2147483647 := iv_lt_r t7 i5 (iv_all _) (by decide)
      refine lv_iload_n hx hb dJ3_checkIndex_8e157_16 rfl (lv_at hl 0 rfl) ?_
      rw [hQ]
      exact W.iret (v := a0) hx hb hr (fun t ht hW => ⟨⟨a0, (), rfl, trivial, trivial⟩, hS.F ht⟩) hS.2.2 dJ3_checkIndex_8e157_17
    · --6 not
      have t10 : a1.toInt ≤ a0.toInt := ti_nlt c6
      exfalso; omega
def v_chk15 : List Cond := .code yJ15_checkIndex_7cf53 cJ15_checkIndex_7cf53 2 (some .int) :: vA
abbrev rm_chk15 : Room := { frames := 1, cells := 0, slots := 0, locals := 40 }
set_option maxHeartbeats 4000000 in
set_option maxRecDepth 100000 in
theorem q_chk15 (l : Launch) (a0 : Int32) (a1 : Int32) (hh0 : 0 ≤ a0.toInt ∧ a0.toInt < a1.toInt) : Met l yJ15_checkIndex_7cf53 v_chk15 rm_chk15 (va_Pc [.int a0, .int a1] (fun _ => True)) (va_Qi (S := Unit) (fun r _ => True) (fun _ _ => True) (fun _ => False)) 0 0 (fun _ => False) := by
  refine Met.ofW (cc := cJ15_checkIndex_7cf53) (maxL := 2) (ret := (some .int)) (by decide) rfl ?_
  intro p e s m args below meth c s₁ B hml hv
  obtain ⟨hargs, -⟩ := hv
  have hx := B.exec
  have hb := B.bytes
  have hr := B.returns
  have hts := atoms_spec (ws := v_chk15) B.pre
  have hown : s.vm.findClass RJ15 = some m.cls := findClass_of_methodNamed B.named
  have hlocks := B.notSynchronized
  have hS : va_S (fun _ : Nat => False) s.heap s.heap [] := va_S.rf
  have hl := lv_entry ([.int a0, .int a1]) (n := 2) (Nat.le_of_ble_eq_true rfl)
  obtain ⟨Q, hQ⟩ : ∃ Q, Q = MQ below (va_Qi (S := Unit) (fun r _ => True) (fun _ _ => True) (fun _ => False)) args s 0 0 (fun _ => False) := ⟨_, rfl⟩
  rw [← hQ, show entryFrame m args 2 = _ from (congrArg (fun z => entryFrame m z 2) hargs).trans (lg_entry_eq _ _ _)]
  generalize (lg_sl ([.int a0, .int a1]) ++ List.replicate (2 - (lg_sl ([.int a0, .int a1])).length) Slot.unset).toArray = ls at hl ⊢
  have hl : lv_has ls 2 [(0, .int a0), (1, .int a1)] := hl
  refine lv_iload_n hx hb dJ15_checkIndex_7cf53_0 rfl (lv_at hl 0 rfl) ?_
  refine lv_iload_n hx hb dJ15_checkIndex_7cf53_1 rfl (lv_at hl 1 rfl) ?_
  refine lv_null hx hb dJ15_checkIndex_7cf53_2 ?_
  refine th_pi (va_runS (As := [.int a0, .int a1, .null]) (rest := []) ⟨hx, hb, hml, hown, hts⟩ (q_chk3 l a0 a1 (by omega)) (va_cwS 3 hts (gi_S (in_2 _ (zs4 (zs1 (zs1 (zs1 (zs0)))))) (in_2 _ (zs4 (zs4 (zs0)))) (in_0 _ (zs4 (zs0))) (in_2 _ (zs4 (zs4 (zs1 (zs0)))))) rfl rfl rfl hz_yJ3_checkIndex_8e157_3 ⟨Nat.le_of_ble_eq_true rfl, Nat.le_of_ble_eq_true rfl⟩) ⟨fun _ _ _ _ q => q, fun _ _ _ => ⟨rfl, trivial⟩⟩ rfl rfl hl.1 rfl (lv_room (Nat.le_of_ble_eq_true rfl)) dJ15_checkIndex_7cf53_3 ⟨Nat.le_of_ble_eq_true rfl, Nat.le_of_ble_eq_true rfl⟩) hS (fun r1 H1 locs1 hw hk1 hS => ?_)
  generalize H1 = H at hS ⊢
  generalize locs1 = locs at hS ⊢
  rw [hQ]
  exact W.iret (v := r1) hx hb hr (fun t ht hW => ⟨⟨r1, (), rfl, trivial, trivial⟩, hS.F ht⟩) hS.2.2 dJ15_checkIndex_7cf53_6
def v_eld0 : List Cond := .code yJx4a65c_elementData_915e3 cJx4a65c_elementData_915e3 2 (some (.object "java/lang/Object")) :: vA
abbrev rm_eld0 : Room := { frames := 0, cells := 0, slots := 0, locals := 0 }
set_option maxHeartbeats 4000000 in
set_option maxRecDepth 100000 in
theorem q_eld0 (l : Launch) (dC : Nat → ClassId) (dI : Nat → Nat → Nat) (cT : Nat → ClassId) (cf : Nat → Nat) (hC : CF cf) (ad : Nat → Nat) (E : Nat → va_E) (sz : Nat) (a0 : Int32) (hI0 : IXL cT (shC cf) (spC cf) (LC cf) ad E) (hh0 : (0 ≤ a0.toInt ∧ a0.toInt < ((cf 0 : Nat) : Int))) : Met l yJx4a65c_elementData_915e3 v_eld0 rm_eld0 (va_Pc [.ref (ad 7), .int a0] (HWL dC dI (TYC cT) cf ad E sz)) (va_Qr (S := Unit) (fun _ => True) (fun u a' _ => (fun a' _ => a' = ad (64 * (a0.toNatClampNeg + 1) + 0)) a' u) (fun _ => False)) 0 0 (fun _ => False) := by
  obtain ⟨⟨hc0, hc1, hc2, hc3, hc4, hc5⟩, hcr⟩ := id hC
  refine Met.ofW (cc := cJx4a65c_elementData_915e3) (maxL := 2) (ret := (some (.object "java/lang/Object"))) (by decide) rfl ?_
  intro p e s m args below meth c s₁ B hml hv
  obtain ⟨hargs, hsz, hP, hK, hD0, hEV⟩ := hv
  subst hsz
  have hx := B.exec
  have hb := B.bytes
  have hr := B.returns
  have hts := atoms_spec (ws := v_eld0) B.pre
  have hown : s.vm.findClass RJx4a65c = some m.cls := findClass_of_methodNamed B.named
  have hlocks := B.notSynchronized
  have hinJx4a65c : ∀ w ∈ u_ws RJx4a65c TJx4a65c 3, w ∈ v_eld0 := fun w h => vA_in _ w (in_Jx4a65c w h)
  have hS : va_S (fun _ : Nat => False) s.heap s.heap [] := va_S.rf
  have hD := hD0
  have hI := hI0
  have hKp : Kp (wl [] []) E E := Kp.rf
  have hl := lv_entry ([.ref (ad 7), .int a0]) (n := 2) (Nat.le_of_ble_eq_true rfl)
  obtain ⟨Q, hQ⟩ : ∃ Q, Q = MQ below (va_Qr (S := Unit) (fun _ => True) (fun u a' _ => (fun a' _ => a' = ad (64 * (a0.toNatClampNeg + 1) + 0)) a' u) (fun _ => False)) args s 0 0 (fun _ => False) := ⟨_, rfl⟩
  rw [← hQ, show entryFrame m args 2 = _ from (congrArg (fun z => entryFrame m z 2) hargs).trans (lg_entry_eq _ _ _)]
  generalize (lg_sl ([.ref (ad 7), .int a0]) ++ List.replicate (2 - (lg_sl ([.ref (ad 7), .int a0])).length) Slot.unset).toArray = ls at hl ⊢
  have hl : lv_has ls 2 [(0, .ref (ad 7)), (1, .int a0)] := hl
  refine lv_aload_n hx hb dJx4a65c_elementData_915e3_0 rfl (lv_at hl 0 rfl) ?_
  refine th_getL (ci := 0) (C := RJx4a65c) (T := TJx4a65c) (N := 3) (v := .ref (ad 13)) hx hb hts hinJx4a65c hown hK hP hI 7 (mF 7 rfl) rfl rfl 1 (Nat.le_of_ble_eq_true rfl) (hts _ (vA_in _ _ (in_3 _ (zs16 (zs4 (zs4 (zs0))))))) (fun _ h9 => h9) (hI.fr 7 (mF 7 rfl) rfl (Nat.le_of_ble_eq_true rfl) 13 (by show (bif Nat.blt 0 (cf 0) then _ else _) = _; rw [blt_t (show 0 < cf 0 by omega)]; rfl)) dJx4a65c_elementData_915e3_1 ?_
  refine lv_iload_n hx hb dJx4a65c_elementData_915e3_4 rfl (lv_at hl 1 rfl) ?_
  refine th_aldL (nl := cf 0) (C := "java/lang/Object") hx hb hK hP hI 13 (mD 13 (by decide) (by decide) (show 0 < cf 0 by omega)) rfl rfl (vp_in_iff.mpr ⟨by omega, by omega⟩) (64 * (a0.toNatClampNeg + 1) + 0) rfl dJx4a65c_elementData_915e3_5 ?_
  rw [hQ]
  exact W.aret (v := .ref (ad (64 * (a0.toNatClampNeg + 1) + 0))) hx hb hr (Or.inl ⟨_, rfl⟩) (Or.inr ⟨_, rfl⟩) (fun t ht hW => ⟨⟨(), _, rfl, trivial, rfl⟩, hS.F ht⟩) hS.2.2 dJx4a65c_elementData_915e3_6
def v_size0 : List Cond := .code yJx4a65c_size_8abf5 cJx4a65c_size_8abf5 1 (some .int) :: vA
abbrev rm_size0 : Room := { frames := 0, cells := 0, slots := 0, locals := 0 }
set_option maxHeartbeats 4000000 in
set_option maxRecDepth 100000 in
theorem q_size0 (l : Launch) (dC : Nat → ClassId) (dI : Nat → Nat → Nat) (cT : Nat → ClassId) (cf : Nat → Nat) (hC : CF cf) (ad : Nat → Nat) (E : Nat → va_E) (sz : Nat)  (hI0 : IXL cT (shC cf) (spC cf) (LC cf) ad E)  : Met l yJx4a65c_size_8abf5 v_size0 rm_size0 (va_Pc [.ref (ad 7)] (HWL dC dI (TYC cT) cf ad E sz)) (va_Qi (S := Unit) (fun r _ => (0 ≤ r.toInt ∧ r.toInt ≤ 80) ∧ (r.toInt = ((cf 0 : Nat) : Int))) (fun _ _ => True) (fun _ => False)) 0 0 (fun _ => False) := by
  obtain ⟨⟨hc0, hc1, hc2, hc3, hc4, hc5⟩, hcr⟩ := id hC
  refine Met.ofW (cc := cJx4a65c_size_8abf5) (maxL := 1) (ret := (some .int)) (by decide) rfl ?_
  intro p e s m args below meth c s₁ B hml hv
  obtain ⟨hargs, hsz, hP, hK, hD0, hEV⟩ := hv
  subst hsz
  have hx := B.exec
  have hb := B.bytes
  have hr := B.returns
  have hts := atoms_spec (ws := v_size0) B.pre
  have hown : s.vm.findClass RJx4a65c = some m.cls := findClass_of_methodNamed B.named
  have hlocks := B.notSynchronized
  have hinJx4a65c : ∀ w ∈ u_ws RJx4a65c TJx4a65c 3, w ∈ v_size0 := fun w h => vA_in _ w (in_Jx4a65c w h)
  have hS : va_S (fun _ : Nat => False) s.heap s.heap [] := va_S.rf
  have hD := hD0
  have hI := hI0
  have hKp : Kp (wl [] []) E E := Kp.rf
  have hl := lv_entry ([.ref (ad 7)]) (n := 1) (Nat.le_of_ble_eq_true rfl)
  obtain ⟨Q, hQ⟩ : ∃ Q, Q = MQ below (va_Qi (S := Unit) (fun r _ => (0 ≤ r.toInt ∧ r.toInt ≤ 80) ∧ (r.toInt = ((cf 0 : Nat) : Int))) (fun _ _ => True) (fun _ => False)) args s 0 0 (fun _ => False) := ⟨_, rfl⟩
  rw [← hQ, show entryFrame m args 1 = _ from (congrArg (fun z => entryFrame m z 1) hargs).trans (lg_entry_eq _ _ _)]
  generalize (lg_sl ([.ref (ad 7)]) ++ List.replicate (1 - (lg_sl ([.ref (ad 7)])).length) Slot.unset).toArray = ls at hl ⊢
  have hl : lv_has ls 1 [(0, .ref (ad 7))] := hl
  refine lv_aload_n hx hb dJx4a65c_size_8abf5_0 rfl (lv_at hl 0 rfl) ?_
  have j2 : ((cf 0 : Nat) : Int) ≤ (xi (E 7) 2).toInt ∧ (xi (E 7) 2).toInt ≤ ((cf 0 : Nat) : Int) := hI0.iv 7 (mF 7 rfl) rfl (Nat.le_of_ble_eq_true rfl) rfl
  have i1 : 0 ≤ (xi (E 7) 2).toInt ∧ (xi (E 7) 2).toInt ≤ 80 := by omega
  refine th_getL (ci := 0) (C := RJx4a65c) (T := TJx4a65c) (N := 3) (v := .int (xi (E 7) 2)) hx hb hts hinJx4a65c hown hK hP hI 7 (mF 7 rfl) rfl rfl 2 (Nat.le_of_ble_eq_true rfl) (hts _ (vA_in _ _ (in_3 _ (zs4 (zs4 (zs4 (zs1 (zs1 (zs0))))))))) (fun _ h9 => h9) (th_v0L hKp hI0 7 (mF 7 rfl) rfl (Nat.le_of_ble_eq_true rfl) rfl rfl) dJx4a65c_size_8abf5_1 ?_
  rw [hQ]
  exact W.iret (v := (xi (E 7) 2)) hx hb hr (fun t ht hW => ⟨⟨(xi (E 7) 2), (), rfl, ⟨i1, by all_goals omega⟩, trivial⟩, hS.F ht⟩) hS.2.2 dJx4a65c_size_8abf5_4
def v_get0 : List Cond := .code yJx4a65c_get_915e3 cJx4a65c_get_915e3 2 (some (.object "java/lang/Object")) :: vA
abbrev rm_get0 : Room := { frames := 2, cells := 0, slots := 0, locals := 80 }
set_option maxHeartbeats 4000000 in
set_option maxRecDepth 100000 in
theorem q_get0 (l : Launch) (dC : Nat → ClassId) (dI : Nat → Nat → Nat) (cT : Nat → ClassId) (cf : Nat → Nat) (hC : CF cf) (ad : Nat → Nat) (E : Nat → va_E) (sz : Nat) (a0 : Int32) (hI0 : IXL cT (shC cf) (spC cf) (LC cf) ad E) (hh0 : (0 ≤ a0.toInt ∧ a0.toInt < ((cf 0 : Nat) : Int))) : Met l yJx4a65c_get_915e3 v_get0 rm_get0 (va_Pc [.ref (ad 7), .int a0] (HWL dC dI (TYC cT) cf ad E sz)) (va_Qr (S := Unit) (fun _ => True) (fun u a' _ => (fun a' _ => a' = ad (64 * (a0.toNatClampNeg + 1) + 0)) a' u) (fun _ => False)) 0 0 (fun _ => False) := by
  obtain ⟨⟨hc0, hc1, hc2, hc3, hc4, hc5⟩, hcr⟩ := id hC
  refine Met.ofW (cc := cJx4a65c_get_915e3) (maxL := 2) (ret := (some (.object "java/lang/Object"))) (by decide) rfl ?_
  intro p e s m args below meth c s₁ B hml hv
  obtain ⟨hargs, hsz, hP, hK, hD0, hEV⟩ := hv
  subst hsz
  have hx := B.exec
  have hb := B.bytes
  have hr := B.returns
  have hts := atoms_spec (ws := v_get0) B.pre
  have hown : s.vm.findClass RJx4a65c = some m.cls := findClass_of_methodNamed B.named
  have hlocks := B.notSynchronized
  have hinJx4a65c : ∀ w ∈ u_ws RJx4a65c TJx4a65c 3, w ∈ v_get0 := fun w h => vA_in _ w (in_Jx4a65c w h)
  have hS : va_S (fun _ : Nat => False) s.heap s.heap [] := va_S.rf
  have hD := hD0
  have hI := hI0
  have hKp : Kp (wl [] []) E E := Kp.rf
  have hl := lv_entry ([.ref (ad 7), .int a0]) (n := 2) (Nat.le_of_ble_eq_true rfl)
  obtain ⟨Q, hQ⟩ : ∃ Q, Q = MQ below (va_Qr (S := Unit) (fun _ => True) (fun u a' _ => (fun a' _ => a' = ad (64 * (a0.toNatClampNeg + 1) + 0)) a' u) (fun _ => False)) args s 0 0 (fun _ => False) := ⟨_, rfl⟩
  rw [← hQ, show entryFrame m args 2 = _ from (congrArg (fun z => entryFrame m z 2) hargs).trans (lg_entry_eq _ _ _)]
  generalize (lg_sl ([.ref (ad 7), .int a0]) ++ List.replicate (2 - (lg_sl ([.ref (ad 7), .int a0])).length) Slot.unset).toArray = ls at hl ⊢
  have hl : lv_has ls 2 [(0, .ref (ad 7)), (1, .int a0)] := hl
  refine lv_iload_n hx hb dJx4a65c_get_915e3_0 rfl (lv_at hl 1 rfl) ?_
  refine lv_aload_n hx hb dJx4a65c_get_915e3_1 rfl (lv_at hl 0 rfl) ?_
  have j2 : ((cf 0 : Nat) : Int) ≤ (xi (E 7) 2).toInt ∧ (xi (E 7) 2).toInt ≤ ((cf 0 : Nat) : Int) := hI0.iv 7 (mF 7 rfl) rfl (Nat.le_of_ble_eq_true rfl) rfl
  have i1 : 0 ≤ (xi (E 7) 2).toInt ∧ (xi (E 7) 2).toInt ≤ 80 := by omega
  refine th_getL (ci := 0) (C := RJx4a65c) (T := TJx4a65c) (N := 3) (v := .int (xi (E 7) 2)) hx hb hts hinJx4a65c hown hK hP hI 7 (mF 7 rfl) rfl rfl 2 (Nat.le_of_ble_eq_true rfl) (hts _ (vA_in _ _ (in_3 _ (zs4 (zs4 (zs4 (zs1 (zs1 (zs0))))))))) (fun _ h9 => h9) (th_v0L hKp hI0 7 (mF 7 rfl) rfl (Nat.le_of_ble_eq_true rfl) rfl rfl) dJx4a65c_get_915e3_2 ?_
  refine th_pi (va_runS (As := [.int a0, .int (xi (E 7) 2)]) (rest := []) ⟨hx, hb, hml, hown, hts⟩ (q_chk15 l a0 (xi (E 7) 2) (by omega)) (va_cwS 2 hts (gi_S (in_4 _ zs0) (in_4 _ (zs1 (zs0))) (in_4 _ (zs1 (zs1 (zs0)))) (in_2 _ (zs4 (zs1 (zs1 (zs0)))))) rfl rfl rfl hz_yJ15_checkIndex_7cf53_2 ⟨Nat.le_of_ble_eq_true rfl, Nat.le_of_ble_eq_true rfl⟩) ⟨fun _ _ _ _ q => q, fun _ _ _ => ⟨rfl, trivial⟩⟩ rfl rfl hl.1 rfl (lv_room (Nat.le_of_ble_eq_true rfl)) dJx4a65c_get_915e3_5 ⟨Nat.le_of_ble_eq_true rfl, Nat.le_of_ble_eq_true rfl⟩) hS (fun r3 H1 locs1 hw hk1 hS => ?_)
  have hP := ub_keep hP hk1
  generalize H1 = H at hP hS ⊢
  generalize locs1 = locs at hS ⊢
  refine lv_pop hx hb dJx4a65c_get_915e3_8 rfl ?_
  refine lv_aload_n hx hb dJx4a65c_get_915e3_9 rfl (lv_at hl 0 rfl) ?_
  refine lv_iload_n hx hb dJx4a65c_get_915e3_10 rfl (lv_at hl 1 rfl) ?_
  refine th_rrL (va_runV (As := [.int a0]) (rest := []) ⟨hx, hb, hml, hown, hts⟩ (q_eld0 l dC dI cT cf hC ad E H.size a0 hI (by omega)) (cwV 1 hts (gi_V (in_4 _ (zs1 (zs1 (zs1 (zs0))))) (in_4 _ (zs4 (zs0))) (in_4 _ (zs4 (zs1 (zs0)))) (in_3 _ (zs16 (zs1 (zs1 (zs0))))) (in_3 _ (zs16 (zs16 (zs4 (zs1 (zs1 (zs0)))))))) rfl rfl rfl ⟨rfl, hz_yJx4a65c_elementData_915e3_1⟩ ⟨Nat.le_of_ble_eq_true rfl, Nat.le_of_ble_eq_true rfl⟩) ⟨HWL_bl, va_recv hK hP (ci := 0) (q0 := posL 7 (LC cf)) rfl (hI.ob 7 (mF 7 rfl) rfl), (HWL_wiR hP hK (WL_D hD) hS hEV)⟩ rfl rfl hl.1 rfl (lv_room (Nat.le_of_ble_eq_true rfl)) dJx4a65c_get_915e3_11 ⟨Nat.le_of_ble_eq_true rfl, Nat.le_of_ble_eq_true rfl⟩) hS hP (fun r4 H locs hw hP hS => ?_)
  obtain rfl := hw
  have lv5 : a0.toNatClampNeg < cf 0 := by rw [tn_]; omega
  rw [hQ]
  exact W.aret (v := .ref (ad (64 * (a0.toNatClampNeg + 1) + 0))) hx hb hr (Or.inl ⟨_, rfl⟩) (Or.inr ⟨_, rfl⟩) (fun t ht hW => ⟨⟨(), _, rfl, trivial, rfl⟩, hS.F ht⟩) hS.2.2 dJx4a65c_get_915e3_14
def v_eld1 : List Cond := .code yJx4a65c_elementData_915e3 cJx4a65c_elementData_915e3 2 (some (.object "java/lang/Object")) :: vA
abbrev rm_eld1 : Room := { frames := 0, cells := 0, slots := 0, locals := 0 }
set_option maxHeartbeats 4000000 in
set_option maxRecDepth 100000 in
theorem q_eld1 (l : Launch) (dC : Nat → ClassId) (dI : Nat → Nat → Nat) (cT : Nat → ClassId) (cf : Nat → Nat) (hC : CF cf) (ad : Nat → Nat) (E : Nat → va_E) (sz : Nat) (a0 : Int32) (hI0 : IXL cT (shC cf) (spC cf) (LC cf) ad E) (hh0 : (0 ≤ a0.toInt ∧ a0.toInt < ((cf 1 : Nat) : Int))) : Met l yJx4a65c_elementData_915e3 v_eld1 rm_eld1 (va_Pc [.ref (ad 8), .int a0] (HWL dC dI (TYC cT) cf ad E sz)) (va_Qr (S := Unit) (fun _ => True) (fun u a' _ => (fun a' _ => a' = ad (64 * (a0.toNatClampNeg + 1) + 1)) a' u) (fun _ => False)) 0 0 (fun _ => False) := by
  obtain ⟨⟨hc0, hc1, hc2, hc3, hc4, hc5⟩, hcr⟩ := id hC
  refine Met.ofW (cc := cJx4a65c_elementData_915e3) (maxL := 2) (ret := (some (.object "java/lang/Object"))) (by decide) rfl ?_
  intro p e s m args below meth c s₁ B hml hv
  obtain ⟨hargs, hsz, hP, hK, hD0, hEV⟩ := hv
  subst hsz
  have hx := B.exec
  have hb := B.bytes
  have hr := B.returns
  have hts := atoms_spec (ws := v_eld1) B.pre
  have hown : s.vm.findClass RJx4a65c = some m.cls := findClass_of_methodNamed B.named
  have hlocks := B.notSynchronized
  have hinJx4a65c : ∀ w ∈ u_ws RJx4a65c TJx4a65c 3, w ∈ v_eld1 := fun w h => vA_in _ w (in_Jx4a65c w h)
  have hS : va_S (fun _ : Nat => False) s.heap s.heap [] := va_S.rf
  have hD := hD0
  have hI := hI0
  have hKp : Kp (wl [] []) E E := Kp.rf
  have hl := lv_entry ([.ref (ad 8), .int a0]) (n := 2) (Nat.le_of_ble_eq_true rfl)
  obtain ⟨Q, hQ⟩ : ∃ Q, Q = MQ below (va_Qr (S := Unit) (fun _ => True) (fun u a' _ => (fun a' _ => a' = ad (64 * (a0.toNatClampNeg + 1) + 1)) a' u) (fun _ => False)) args s 0 0 (fun _ => False) := ⟨_, rfl⟩
  rw [← hQ, show entryFrame m args 2 = _ from (congrArg (fun z => entryFrame m z 2) hargs).trans (lg_entry_eq _ _ _)]
  generalize (lg_sl ([.ref (ad 8), .int a0]) ++ List.replicate (2 - (lg_sl ([.ref (ad 8), .int a0])).length) Slot.unset).toArray = ls at hl ⊢
  have hl : lv_has ls 2 [(0, .ref (ad 8)), (1, .int a0)] := hl
  refine lv_aload_n hx hb dJx4a65c_elementData_915e3_0 rfl (lv_at hl 0 rfl) ?_
  refine th_getL (ci := 0) (C := RJx4a65c) (T := TJx4a65c) (N := 3) (v := .ref (ad 14)) hx hb hts hinJx4a65c hown hK hP hI 8 (mF 8 rfl) rfl rfl 1 (Nat.le_of_ble_eq_true rfl) (hts _ (vA_in _ _ (in_3 _ (zs16 (zs4 (zs4 (zs0))))))) (fun _ h9 => h9) (hI.fr 8 (mF 8 rfl) rfl (Nat.le_of_ble_eq_true rfl) 14 (by show (bif Nat.blt 0 (cf 1) then _ else _) = _; rw [blt_t (show 0 < cf 1 by omega)]; rfl)) dJx4a65c_elementData_915e3_1 ?_
  refine lv_iload_n hx hb dJx4a65c_elementData_915e3_4 rfl (lv_at hl 1 rfl) ?_
  refine th_aldL (nl := cf 1) (C := "java/lang/Object") hx hb hK hP hI 14 (mD 14 (by decide) (by decide) (show 0 < cf 1 by omega)) rfl rfl (vp_in_iff.mpr ⟨by omega, by omega⟩) (64 * (a0.toNatClampNeg + 1) + 1) rfl dJx4a65c_elementData_915e3_5 ?_
  rw [hQ]
  exact W.aret (v := .ref (ad (64 * (a0.toNatClampNeg + 1) + 1))) hx hb hr (Or.inl ⟨_, rfl⟩) (Or.inr ⟨_, rfl⟩) (fun t ht hW => ⟨⟨(), _, rfl, trivial, rfl⟩, hS.F ht⟩) hS.2.2 dJx4a65c_elementData_915e3_6
def v_size1 : List Cond := .code yJx4a65c_size_8abf5 cJx4a65c_size_8abf5 1 (some .int) :: vA
abbrev rm_size1 : Room := { frames := 0, cells := 0, slots := 0, locals := 0 }
set_option maxHeartbeats 4000000 in
set_option maxRecDepth 100000 in
theorem q_size1 (l : Launch) (dC : Nat → ClassId) (dI : Nat → Nat → Nat) (cT : Nat → ClassId) (cf : Nat → Nat) (hC : CF cf) (ad : Nat → Nat) (E : Nat → va_E) (sz : Nat)  (hI0 : IXL cT (shC cf) (spC cf) (LC cf) ad E)  : Met l yJx4a65c_size_8abf5 v_size1 rm_size1 (va_Pc [.ref (ad 8)] (HWL dC dI (TYC cT) cf ad E sz)) (va_Qi (S := Unit) (fun r _ => (0 ≤ r.toInt ∧ r.toInt ≤ 16) ∧ (r.toInt = ((cf 1 : Nat) : Int))) (fun _ _ => True) (fun _ => False)) 0 0 (fun _ => False) := by
  obtain ⟨⟨hc0, hc1, hc2, hc3, hc4, hc5⟩, hcr⟩ := id hC
  refine Met.ofW (cc := cJx4a65c_size_8abf5) (maxL := 1) (ret := (some .int)) (by decide) rfl ?_
  intro p e s m args below meth c s₁ B hml hv
  obtain ⟨hargs, hsz, hP, hK, hD0, hEV⟩ := hv
  subst hsz
  have hx := B.exec
  have hb := B.bytes
  have hr := B.returns
  have hts := atoms_spec (ws := v_size1) B.pre
  have hown : s.vm.findClass RJx4a65c = some m.cls := findClass_of_methodNamed B.named
  have hlocks := B.notSynchronized
  have hinJx4a65c : ∀ w ∈ u_ws RJx4a65c TJx4a65c 3, w ∈ v_size1 := fun w h => vA_in _ w (in_Jx4a65c w h)
  have hS : va_S (fun _ : Nat => False) s.heap s.heap [] := va_S.rf
  have hD := hD0
  have hI := hI0
  have hKp : Kp (wl [] []) E E := Kp.rf
  have hl := lv_entry ([.ref (ad 8)]) (n := 1) (Nat.le_of_ble_eq_true rfl)
  obtain ⟨Q, hQ⟩ : ∃ Q, Q = MQ below (va_Qi (S := Unit) (fun r _ => (0 ≤ r.toInt ∧ r.toInt ≤ 16) ∧ (r.toInt = ((cf 1 : Nat) : Int))) (fun _ _ => True) (fun _ => False)) args s 0 0 (fun _ => False) := ⟨_, rfl⟩
  rw [← hQ, show entryFrame m args 1 = _ from (congrArg (fun z => entryFrame m z 1) hargs).trans (lg_entry_eq _ _ _)]
  generalize (lg_sl ([.ref (ad 8)]) ++ List.replicate (1 - (lg_sl ([.ref (ad 8)])).length) Slot.unset).toArray = ls at hl ⊢
  have hl : lv_has ls 1 [(0, .ref (ad 8))] := hl
  refine lv_aload_n hx hb dJx4a65c_size_8abf5_0 rfl (lv_at hl 0 rfl) ?_
  have j2 : ((cf 1 : Nat) : Int) ≤ (xi (E 8) 2).toInt ∧ (xi (E 8) 2).toInt ≤ ((cf 1 : Nat) : Int) := hI0.iv 8 (mF 8 rfl) rfl (Nat.le_of_ble_eq_true rfl) rfl
  have i1 : 0 ≤ (xi (E 8) 2).toInt ∧ (xi (E 8) 2).toInt ≤ 16 := by omega
  refine th_getL (ci := 0) (C := RJx4a65c) (T := TJx4a65c) (N := 3) (v := .int (xi (E 8) 2)) hx hb hts hinJx4a65c hown hK hP hI 8 (mF 8 rfl) rfl rfl 2 (Nat.le_of_ble_eq_true rfl) (hts _ (vA_in _ _ (in_3 _ (zs4 (zs4 (zs4 (zs1 (zs1 (zs0))))))))) (fun _ h9 => h9) (th_v0L hKp hI0 8 (mF 8 rfl) rfl (Nat.le_of_ble_eq_true rfl) rfl rfl) dJx4a65c_size_8abf5_1 ?_
  rw [hQ]
  exact W.iret (v := (xi (E 8) 2)) hx hb hr (fun t ht hW => ⟨⟨(xi (E 8) 2), (), rfl, ⟨i1, by all_goals omega⟩, trivial⟩, hS.F ht⟩) hS.2.2 dJx4a65c_size_8abf5_4
def v_get1 : List Cond := .code yJx4a65c_get_915e3 cJx4a65c_get_915e3 2 (some (.object "java/lang/Object")) :: vA
abbrev rm_get1 : Room := { frames := 2, cells := 0, slots := 0, locals := 80 }
set_option maxHeartbeats 4000000 in
set_option maxRecDepth 100000 in
theorem q_get1 (l : Launch) (dC : Nat → ClassId) (dI : Nat → Nat → Nat) (cT : Nat → ClassId) (cf : Nat → Nat) (hC : CF cf) (ad : Nat → Nat) (E : Nat → va_E) (sz : Nat) (a0 : Int32) (hI0 : IXL cT (shC cf) (spC cf) (LC cf) ad E) (hh0 : (0 ≤ a0.toInt ∧ a0.toInt < ((cf 1 : Nat) : Int))) : Met l yJx4a65c_get_915e3 v_get1 rm_get1 (va_Pc [.ref (ad 8), .int a0] (HWL dC dI (TYC cT) cf ad E sz)) (va_Qr (S := Unit) (fun _ => True) (fun u a' _ => (fun a' _ => a' = ad (64 * (a0.toNatClampNeg + 1) + 1)) a' u) (fun _ => False)) 0 0 (fun _ => False) := by
  obtain ⟨⟨hc0, hc1, hc2, hc3, hc4, hc5⟩, hcr⟩ := id hC
  refine Met.ofW (cc := cJx4a65c_get_915e3) (maxL := 2) (ret := (some (.object "java/lang/Object"))) (by decide) rfl ?_
  intro p e s m args below meth c s₁ B hml hv
  obtain ⟨hargs, hsz, hP, hK, hD0, hEV⟩ := hv
  subst hsz
  have hx := B.exec
  have hb := B.bytes
  have hr := B.returns
  have hts := atoms_spec (ws := v_get1) B.pre
  have hown : s.vm.findClass RJx4a65c = some m.cls := findClass_of_methodNamed B.named
  have hlocks := B.notSynchronized
  have hinJx4a65c : ∀ w ∈ u_ws RJx4a65c TJx4a65c 3, w ∈ v_get1 := fun w h => vA_in _ w (in_Jx4a65c w h)
  have hS : va_S (fun _ : Nat => False) s.heap s.heap [] := va_S.rf
  have hD := hD0
  have hI := hI0
  have hKp : Kp (wl [] []) E E := Kp.rf
  have hl := lv_entry ([.ref (ad 8), .int a0]) (n := 2) (Nat.le_of_ble_eq_true rfl)
  obtain ⟨Q, hQ⟩ : ∃ Q, Q = MQ below (va_Qr (S := Unit) (fun _ => True) (fun u a' _ => (fun a' _ => a' = ad (64 * (a0.toNatClampNeg + 1) + 1)) a' u) (fun _ => False)) args s 0 0 (fun _ => False) := ⟨_, rfl⟩
  rw [← hQ, show entryFrame m args 2 = _ from (congrArg (fun z => entryFrame m z 2) hargs).trans (lg_entry_eq _ _ _)]
  generalize (lg_sl ([.ref (ad 8), .int a0]) ++ List.replicate (2 - (lg_sl ([.ref (ad 8), .int a0])).length) Slot.unset).toArray = ls at hl ⊢
  have hl : lv_has ls 2 [(0, .ref (ad 8)), (1, .int a0)] := hl
  refine lv_iload_n hx hb dJx4a65c_get_915e3_0 rfl (lv_at hl 1 rfl) ?_
  refine lv_aload_n hx hb dJx4a65c_get_915e3_1 rfl (lv_at hl 0 rfl) ?_
  have j2 : ((cf 1 : Nat) : Int) ≤ (xi (E 8) 2).toInt ∧ (xi (E 8) 2).toInt ≤ ((cf 1 : Nat) : Int) := hI0.iv 8 (mF 8 rfl) rfl (Nat.le_of_ble_eq_true rfl) rfl
  have i1 : 0 ≤ (xi (E 8) 2).toInt ∧ (xi (E 8) 2).toInt ≤ 16 := by omega
  refine th_getL (ci := 0) (C := RJx4a65c) (T := TJx4a65c) (N := 3) (v := .int (xi (E 8) 2)) hx hb hts hinJx4a65c hown hK hP hI 8 (mF 8 rfl) rfl rfl 2 (Nat.le_of_ble_eq_true rfl) (hts _ (vA_in _ _ (in_3 _ (zs4 (zs4 (zs4 (zs1 (zs1 (zs0))))))))) (fun _ h9 => h9) (th_v0L hKp hI0 8 (mF 8 rfl) rfl (Nat.le_of_ble_eq_true rfl) rfl rfl) dJx4a65c_get_915e3_2 ?_
  refine th_pi (va_runS (As := [.int a0, .int (xi (E 8) 2)]) (rest := []) ⟨hx, hb, hml, hown, hts⟩ (q_chk15 l a0 (xi (E 8) 2) (by omega)) (va_cwS 2 hts (gi_S (in_4 _ zs0) (in_4 _ (zs1 (zs0))) (in_4 _ (zs1 (zs1 (zs0)))) (in_2 _ (zs4 (zs1 (zs1 (zs0)))))) rfl rfl rfl hz_yJ15_checkIndex_7cf53_2 ⟨Nat.le_of_ble_eq_true rfl, Nat.le_of_ble_eq_true rfl⟩) ⟨fun _ _ _ _ q => q, fun _ _ _ => ⟨rfl, trivial⟩⟩ rfl rfl hl.1 rfl (lv_room (Nat.le_of_ble_eq_true rfl)) dJx4a65c_get_915e3_5 ⟨Nat.le_of_ble_eq_true rfl, Nat.le_of_ble_eq_true rfl⟩) hS (fun r3 H1 locs1 hw hk1 hS => ?_)
  have hP := ub_keep hP hk1
  generalize H1 = H at hP hS ⊢
  generalize locs1 = locs at hS ⊢
  refine lv_pop hx hb dJx4a65c_get_915e3_8 rfl ?_
  refine lv_aload_n hx hb dJx4a65c_get_915e3_9 rfl (lv_at hl 0 rfl) ?_
  refine lv_iload_n hx hb dJx4a65c_get_915e3_10 rfl (lv_at hl 1 rfl) ?_
  refine th_rrL (va_runV (As := [.int a0]) (rest := []) ⟨hx, hb, hml, hown, hts⟩ (q_eld1 l dC dI cT cf hC ad E H.size a0 hI (by omega)) (cwV 1 hts (gi_V (in_4 _ (zs1 (zs1 (zs1 (zs0))))) (in_4 _ (zs4 (zs0))) (in_4 _ (zs4 (zs1 (zs0)))) (in_3 _ (zs16 (zs1 (zs1 (zs0))))) (in_3 _ (zs16 (zs16 (zs4 (zs1 (zs1 (zs0)))))))) rfl rfl rfl ⟨rfl, hz_yJx4a65c_elementData_915e3_1⟩ ⟨Nat.le_of_ble_eq_true rfl, Nat.le_of_ble_eq_true rfl⟩) ⟨HWL_bl, va_recv hK hP (ci := 0) (q0 := posL 8 (LC cf)) rfl (hI.ob 8 (mF 8 rfl) rfl), (HWL_wiR hP hK (WL_D hD) hS hEV)⟩ rfl rfl hl.1 rfl (lv_room (Nat.le_of_ble_eq_true rfl)) dJx4a65c_get_915e3_11 ⟨Nat.le_of_ble_eq_true rfl, Nat.le_of_ble_eq_true rfl⟩) hS hP (fun r4 H locs hw hP hS => ?_)
  obtain rfl := hw
  have lv5 : a0.toNatClampNeg < cf 1 := by rw [tn_]; omega
  rw [hQ]
  exact W.aret (v := .ref (ad (64 * (a0.toNatClampNeg + 1) + 1))) hx hb hr (Or.inl ⟨_, rfl⟩) (Or.inr ⟨_, rfl⟩) (fun t ht hW => ⟨⟨(), _, rfl, trivial, rfl⟩, hS.F ht⟩) hS.2.2 dJx4a65c_get_915e3_14
def v_eld2 : List Cond := .code yJx4a65c_elementData_915e3 cJx4a65c_elementData_915e3 2 (some (.object "java/lang/Object")) :: vA
abbrev rm_eld2 : Room := { frames := 0, cells := 0, slots := 0, locals := 0 }
set_option maxHeartbeats 4000000 in
set_option maxRecDepth 100000 in
theorem q_eld2 (l : Launch) (dC : Nat → ClassId) (dI : Nat → Nat → Nat) (cT : Nat → ClassId) (cf : Nat → Nat) (hC : CF cf) (ad : Nat → Nat) (E : Nat → va_E) (sz : Nat) (a0 : Int32) (hI0 : IXL cT (shC cf) (spC cf) (LC cf) ad E) (hh0 : (0 ≤ a0.toInt ∧ a0.toInt < ((cf 2 : Nat) : Int))) : Met l yJx4a65c_elementData_915e3 v_eld2 rm_eld2 (va_Pc [.ref (ad 9), .int a0] (HWL dC dI (TYC cT) cf ad E sz)) (va_Qr (S := Unit) (fun _ => True) (fun u a' _ => (fun a' _ => a' = ad (64 * (a0.toNatClampNeg + 1) + 6)) a' u) (fun _ => False)) 0 0 (fun _ => False) := by
  obtain ⟨⟨hc0, hc1, hc2, hc3, hc4, hc5⟩, hcr⟩ := id hC
  refine Met.ofW (cc := cJx4a65c_elementData_915e3) (maxL := 2) (ret := (some (.object "java/lang/Object"))) (by decide) rfl ?_
  intro p e s m args below meth c s₁ B hml hv
  obtain ⟨hargs, hsz, hP, hK, hD0, hEV⟩ := hv
  subst hsz
  have hx := B.exec
  have hb := B.bytes
  have hr := B.returns
  have hts := atoms_spec (ws := v_eld2) B.pre
  have hown : s.vm.findClass RJx4a65c = some m.cls := findClass_of_methodNamed B.named
  have hlocks := B.notSynchronized
  have hinJx4a65c : ∀ w ∈ u_ws RJx4a65c TJx4a65c 3, w ∈ v_eld2 := fun w h => vA_in _ w (in_Jx4a65c w h)
  have hS : va_S (fun _ : Nat => False) s.heap s.heap [] := va_S.rf
  have hD := hD0
  have hI := hI0
  have hKp : Kp (wl [] []) E E := Kp.rf
  have hl := lv_entry ([.ref (ad 9), .int a0]) (n := 2) (Nat.le_of_ble_eq_true rfl)
  obtain ⟨Q, hQ⟩ : ∃ Q, Q = MQ below (va_Qr (S := Unit) (fun _ => True) (fun u a' _ => (fun a' _ => a' = ad (64 * (a0.toNatClampNeg + 1) + 6)) a' u) (fun _ => False)) args s 0 0 (fun _ => False) := ⟨_, rfl⟩
  rw [← hQ, show entryFrame m args 2 = _ from (congrArg (fun z => entryFrame m z 2) hargs).trans (lg_entry_eq _ _ _)]
  generalize (lg_sl ([.ref (ad 9), .int a0]) ++ List.replicate (2 - (lg_sl ([.ref (ad 9), .int a0])).length) Slot.unset).toArray = ls at hl ⊢
  have hl : lv_has ls 2 [(0, .ref (ad 9)), (1, .int a0)] := hl
  refine lv_aload_n hx hb dJx4a65c_elementData_915e3_0 rfl (lv_at hl 0 rfl) ?_
  refine th_getL (ci := 0) (C := RJx4a65c) (T := TJx4a65c) (N := 3) (v := .ref (ad 15)) hx hb hts hinJx4a65c hown hK hP hI 9 (mF 9 rfl) rfl rfl 1 (Nat.le_of_ble_eq_true rfl) (hts _ (vA_in _ _ (in_3 _ (zs16 (zs4 (zs4 (zs0))))))) (fun _ h9 => h9) (hI.fr 9 (mF 9 rfl) rfl (Nat.le_of_ble_eq_true rfl) 15 (by show (bif Nat.blt 0 (cf 2) then _ else _) = _; rw [blt_t (show 0 < cf 2 by omega)]; rfl)) dJx4a65c_elementData_915e3_1 ?_
  refine lv_iload_n hx hb dJx4a65c_elementData_915e3_4 rfl (lv_at hl 1 rfl) ?_
  refine th_aldL (nl := cf 2) (C := "java/lang/Object") hx hb hK hP hI 15 (mD 15 (by decide) (by decide) (show 0 < cf 2 by omega)) rfl rfl (vp_in_iff.mpr ⟨by omega, by omega⟩) (64 * (a0.toNatClampNeg + 1) + 6) rfl dJx4a65c_elementData_915e3_5 ?_
  rw [hQ]
  exact W.aret (v := .ref (ad (64 * (a0.toNatClampNeg + 1) + 6))) hx hb hr (Or.inl ⟨_, rfl⟩) (Or.inr ⟨_, rfl⟩) (fun t ht hW => ⟨⟨(), _, rfl, trivial, rfl⟩, hS.F ht⟩) hS.2.2 dJx4a65c_elementData_915e3_6
def v_size2 : List Cond := .code yJx4a65c_size_8abf5 cJx4a65c_size_8abf5 1 (some .int) :: vA
abbrev rm_size2 : Room := { frames := 0, cells := 0, slots := 0, locals := 0 }
set_option maxHeartbeats 4000000 in
set_option maxRecDepth 100000 in
theorem q_size2 (l : Launch) (dC : Nat → ClassId) (dI : Nat → Nat → Nat) (cT : Nat → ClassId) (cf : Nat → Nat) (hC : CF cf) (ad : Nat → Nat) (E : Nat → va_E) (sz : Nat)  (hI0 : IXL cT (shC cf) (spC cf) (LC cf) ad E)  : Met l yJx4a65c_size_8abf5 v_size2 rm_size2 (va_Pc [.ref (ad 9)] (HWL dC dI (TYC cT) cf ad E sz)) (va_Qi (S := Unit) (fun r _ => (0 ≤ r.toInt ∧ r.toInt ≤ 20) ∧ (r.toInt = ((cf 2 : Nat) : Int))) (fun _ _ => True) (fun _ => False)) 0 0 (fun _ => False) := by
  obtain ⟨⟨hc0, hc1, hc2, hc3, hc4, hc5⟩, hcr⟩ := id hC
  refine Met.ofW (cc := cJx4a65c_size_8abf5) (maxL := 1) (ret := (some .int)) (by decide) rfl ?_
  intro p e s m args below meth c s₁ B hml hv
  obtain ⟨hargs, hsz, hP, hK, hD0, hEV⟩ := hv
  subst hsz
  have hx := B.exec
  have hb := B.bytes
  have hr := B.returns
  have hts := atoms_spec (ws := v_size2) B.pre
  have hown : s.vm.findClass RJx4a65c = some m.cls := findClass_of_methodNamed B.named
  have hlocks := B.notSynchronized
  have hinJx4a65c : ∀ w ∈ u_ws RJx4a65c TJx4a65c 3, w ∈ v_size2 := fun w h => vA_in _ w (in_Jx4a65c w h)
  have hS : va_S (fun _ : Nat => False) s.heap s.heap [] := va_S.rf
  have hD := hD0
  have hI := hI0
  have hKp : Kp (wl [] []) E E := Kp.rf
  have hl := lv_entry ([.ref (ad 9)]) (n := 1) (Nat.le_of_ble_eq_true rfl)
  obtain ⟨Q, hQ⟩ : ∃ Q, Q = MQ below (va_Qi (S := Unit) (fun r _ => (0 ≤ r.toInt ∧ r.toInt ≤ 20) ∧ (r.toInt = ((cf 2 : Nat) : Int))) (fun _ _ => True) (fun _ => False)) args s 0 0 (fun _ => False) := ⟨_, rfl⟩
  rw [← hQ, show entryFrame m args 1 = _ from (congrArg (fun z => entryFrame m z 1) hargs).trans (lg_entry_eq _ _ _)]
  generalize (lg_sl ([.ref (ad 9)]) ++ List.replicate (1 - (lg_sl ([.ref (ad 9)])).length) Slot.unset).toArray = ls at hl ⊢
  have hl : lv_has ls 1 [(0, .ref (ad 9))] := hl
  refine lv_aload_n hx hb dJx4a65c_size_8abf5_0 rfl (lv_at hl 0 rfl) ?_
  have j2 : ((cf 2 : Nat) : Int) ≤ (xi (E 9) 2).toInt ∧ (xi (E 9) 2).toInt ≤ ((cf 2 : Nat) : Int) := hI0.iv 9 (mF 9 rfl) rfl (Nat.le_of_ble_eq_true rfl) rfl
  have i1 : 0 ≤ (xi (E 9) 2).toInt ∧ (xi (E 9) 2).toInt ≤ 20 := by omega
  refine th_getL (ci := 0) (C := RJx4a65c) (T := TJx4a65c) (N := 3) (v := .int (xi (E 9) 2)) hx hb hts hinJx4a65c hown hK hP hI 9 (mF 9 rfl) rfl rfl 2 (Nat.le_of_ble_eq_true rfl) (hts _ (vA_in _ _ (in_3 _ (zs4 (zs4 (zs4 (zs1 (zs1 (zs0))))))))) (fun _ h9 => h9) (th_v0L hKp hI0 9 (mF 9 rfl) rfl (Nat.le_of_ble_eq_true rfl) rfl rfl) dJx4a65c_size_8abf5_1 ?_
  rw [hQ]
  exact W.iret (v := (xi (E 9) 2)) hx hb hr (fun t ht hW => ⟨⟨(xi (E 9) 2), (), rfl, ⟨i1, by all_goals omega⟩, trivial⟩, hS.F ht⟩) hS.2.2 dJx4a65c_size_8abf5_4
def v_get2 : List Cond := .code yJx4a65c_get_915e3 cJx4a65c_get_915e3 2 (some (.object "java/lang/Object")) :: vA
abbrev rm_get2 : Room := { frames := 2, cells := 0, slots := 0, locals := 80 }
set_option maxHeartbeats 4000000 in
set_option maxRecDepth 100000 in
theorem q_get2 (l : Launch) (dC : Nat → ClassId) (dI : Nat → Nat → Nat) (cT : Nat → ClassId) (cf : Nat → Nat) (hC : CF cf) (ad : Nat → Nat) (E : Nat → va_E) (sz : Nat) (a0 : Int32) (hI0 : IXL cT (shC cf) (spC cf) (LC cf) ad E) (hh0 : (0 ≤ a0.toInt ∧ a0.toInt < ((cf 2 : Nat) : Int))) : Met l yJx4a65c_get_915e3 v_get2 rm_get2 (va_Pc [.ref (ad 9), .int a0] (HWL dC dI (TYC cT) cf ad E sz)) (va_Qr (S := Unit) (fun _ => True) (fun u a' _ => (fun a' _ => a' = ad (64 * (a0.toNatClampNeg + 1) + 6)) a' u) (fun _ => False)) 0 0 (fun _ => False) := by
  obtain ⟨⟨hc0, hc1, hc2, hc3, hc4, hc5⟩, hcr⟩ := id hC
  refine Met.ofW (cc := cJx4a65c_get_915e3) (maxL := 2) (ret := (some (.object "java/lang/Object"))) (by decide) rfl ?_
  intro p e s m args below meth c s₁ B hml hv
  obtain ⟨hargs, hsz, hP, hK, hD0, hEV⟩ := hv
  subst hsz
  have hx := B.exec
  have hb := B.bytes
  have hr := B.returns
  have hts := atoms_spec (ws := v_get2) B.pre
  have hown : s.vm.findClass RJx4a65c = some m.cls := findClass_of_methodNamed B.named
  have hlocks := B.notSynchronized
  have hinJx4a65c : ∀ w ∈ u_ws RJx4a65c TJx4a65c 3, w ∈ v_get2 := fun w h => vA_in _ w (in_Jx4a65c w h)
  have hS : va_S (fun _ : Nat => False) s.heap s.heap [] := va_S.rf
  have hD := hD0
  have hI := hI0
  have hKp : Kp (wl [] []) E E := Kp.rf
  have hl := lv_entry ([.ref (ad 9), .int a0]) (n := 2) (Nat.le_of_ble_eq_true rfl)
  obtain ⟨Q, hQ⟩ : ∃ Q, Q = MQ below (va_Qr (S := Unit) (fun _ => True) (fun u a' _ => (fun a' _ => a' = ad (64 * (a0.toNatClampNeg + 1) + 6)) a' u) (fun _ => False)) args s 0 0 (fun _ => False) := ⟨_, rfl⟩
  rw [← hQ, show entryFrame m args 2 = _ from (congrArg (fun z => entryFrame m z 2) hargs).trans (lg_entry_eq _ _ _)]
  generalize (lg_sl ([.ref (ad 9), .int a0]) ++ List.replicate (2 - (lg_sl ([.ref (ad 9), .int a0])).length) Slot.unset).toArray = ls at hl ⊢
  have hl : lv_has ls 2 [(0, .ref (ad 9)), (1, .int a0)] := hl
  refine lv_iload_n hx hb dJx4a65c_get_915e3_0 rfl (lv_at hl 1 rfl) ?_
  refine lv_aload_n hx hb dJx4a65c_get_915e3_1 rfl (lv_at hl 0 rfl) ?_
  have j2 : ((cf 2 : Nat) : Int) ≤ (xi (E 9) 2).toInt ∧ (xi (E 9) 2).toInt ≤ ((cf 2 : Nat) : Int) := hI0.iv 9 (mF 9 rfl) rfl (Nat.le_of_ble_eq_true rfl) rfl
  have i1 : 0 ≤ (xi (E 9) 2).toInt ∧ (xi (E 9) 2).toInt ≤ 20 := by omega
  refine th_getL (ci := 0) (C := RJx4a65c) (T := TJx4a65c) (N := 3) (v := .int (xi (E 9) 2)) hx hb hts hinJx4a65c hown hK hP hI 9 (mF 9 rfl) rfl rfl 2 (Nat.le_of_ble_eq_true rfl) (hts _ (vA_in _ _ (in_3 _ (zs4 (zs4 (zs4 (zs1 (zs1 (zs0))))))))) (fun _ h9 => h9) (th_v0L hKp hI0 9 (mF 9 rfl) rfl (Nat.le_of_ble_eq_true rfl) rfl rfl) dJx4a65c_get_915e3_2 ?_
  refine th_pi (va_runS (As := [.int a0, .int (xi (E 9) 2)]) (rest := []) ⟨hx, hb, hml, hown, hts⟩ (q_chk15 l a0 (xi (E 9) 2) (by omega)) (va_cwS 2 hts (gi_S (in_4 _ zs0) (in_4 _ (zs1 (zs0))) (in_4 _ (zs1 (zs1 (zs0)))) (in_2 _ (zs4 (zs1 (zs1 (zs0)))))) rfl rfl rfl hz_yJ15_checkIndex_7cf53_2 ⟨Nat.le_of_ble_eq_true rfl, Nat.le_of_ble_eq_true rfl⟩) ⟨fun _ _ _ _ q => q, fun _ _ _ => ⟨rfl, trivial⟩⟩ rfl rfl hl.1 rfl (lv_room (Nat.le_of_ble_eq_true rfl)) dJx4a65c_get_915e3_5 ⟨Nat.le_of_ble_eq_true rfl, Nat.le_of_ble_eq_true rfl⟩) hS (fun r3 H1 locs1 hw hk1 hS => ?_)
  have hP := ub_keep hP hk1
  generalize H1 = H at hP hS ⊢
  generalize locs1 = locs at hS ⊢
  refine lv_pop hx hb dJx4a65c_get_915e3_8 rfl ?_
  refine lv_aload_n hx hb dJx4a65c_get_915e3_9 rfl (lv_at hl 0 rfl) ?_
  refine lv_iload_n hx hb dJx4a65c_get_915e3_10 rfl (lv_at hl 1 rfl) ?_
  refine th_rrL (va_runV (As := [.int a0]) (rest := []) ⟨hx, hb, hml, hown, hts⟩ (q_eld2 l dC dI cT cf hC ad E H.size a0 hI (by omega)) (cwV 1 hts (gi_V (in_4 _ (zs1 (zs1 (zs1 (zs0))))) (in_4 _ (zs4 (zs0))) (in_4 _ (zs4 (zs1 (zs0)))) (in_3 _ (zs16 (zs1 (zs1 (zs0))))) (in_3 _ (zs16 (zs16 (zs4 (zs1 (zs1 (zs0)))))))) rfl rfl rfl ⟨rfl, hz_yJx4a65c_elementData_915e3_1⟩ ⟨Nat.le_of_ble_eq_true rfl, Nat.le_of_ble_eq_true rfl⟩) ⟨HWL_bl, va_recv hK hP (ci := 0) (q0 := posL 9 (LC cf)) rfl (hI.ob 9 (mF 9 rfl) rfl), (HWL_wiR hP hK (WL_D hD) hS hEV)⟩ rfl rfl hl.1 rfl (lv_room (Nat.le_of_ble_eq_true rfl)) dJx4a65c_get_915e3_11 ⟨Nat.le_of_ble_eq_true rfl, Nat.le_of_ble_eq_true rfl⟩) hS hP (fun r4 H locs hw hP hS => ?_)
  obtain rfl := hw
  have lv5 : a0.toNatClampNeg < cf 2 := by rw [tn_]; omega
  rw [hQ]
  exact W.aret (v := .ref (ad (64 * (a0.toNatClampNeg + 1) + 6))) hx hb hr (Or.inl ⟨_, rfl⟩) (Or.inr ⟨_, rfl⟩) (fun t ht hW => ⟨⟨(), _, rfl, trivial, rfl⟩, hS.F ht⟩) hS.2.2 dJx4a65c_get_915e3_14
def v_eld3 : List Cond := .code yJx4a65c_elementData_915e3 cJx4a65c_elementData_915e3 2 (some (.object "java/lang/Object")) :: vA
abbrev rm_eld3 : Room := { frames := 0, cells := 0, slots := 0, locals := 0 }
set_option maxHeartbeats 4000000 in
set_option maxRecDepth 100000 in
theorem q_eld3 (l : Launch) (dC : Nat → ClassId) (dI : Nat → Nat → Nat) (cT : Nat → ClassId) (cf : Nat → Nat) (hC : CF cf) (ad : Nat → Nat) (E : Nat → va_E) (sz : Nat) (a0 : Int32) (hI0 : IXL cT (shC cf) (spC cf) (LC cf) ad E) (hh0 : (0 ≤ a0.toInt ∧ a0.toInt < ((cf 3 : Nat) : Int))) : Met l yJx4a65c_elementData_915e3 v_eld3 rm_eld3 (va_Pc [.ref (ad 10), .int a0] (HWL dC dI (TYC cT) cf ad E sz)) (va_Qr (S := Unit) (fun _ => True) (fun u a' _ => (fun a' _ => a' = ad (64 * (a0.toNatClampNeg + 1) + 12)) a' u) (fun _ => False)) 0 0 (fun _ => False) := by
  obtain ⟨⟨hc0, hc1, hc2, hc3, hc4, hc5⟩, hcr⟩ := id hC
  refine Met.ofW (cc := cJx4a65c_elementData_915e3) (maxL := 2) (ret := (some (.object "java/lang/Object"))) (by decide) rfl ?_
  intro p e s m args below meth c s₁ B hml hv
  obtain ⟨hargs, hsz, hP, hK, hD0, hEV⟩ := hv
  subst hsz
  have hx := B.exec
  have hb := B.bytes
  have hr := B.returns
  have hts := atoms_spec (ws := v_eld3) B.pre
  have hown : s.vm.findClass RJx4a65c = some m.cls := findClass_of_methodNamed B.named
  have hlocks := B.notSynchronized
  have hinJx4a65c : ∀ w ∈ u_ws RJx4a65c TJx4a65c 3, w ∈ v_eld3 := fun w h => vA_in _ w (in_Jx4a65c w h)
  have hS : va_S (fun _ : Nat => False) s.heap s.heap [] := va_S.rf
  have hD := hD0
  have hI := hI0
  have hKp : Kp (wl [] []) E E := Kp.rf
  have hl := lv_entry ([.ref (ad 10), .int a0]) (n := 2) (Nat.le_of_ble_eq_true rfl)
  obtain ⟨Q, hQ⟩ : ∃ Q, Q = MQ below (va_Qr (S := Unit) (fun _ => True) (fun u a' _ => (fun a' _ => a' = ad (64 * (a0.toNatClampNeg + 1) + 12)) a' u) (fun _ => False)) args s 0 0 (fun _ => False) := ⟨_, rfl⟩
  rw [← hQ, show entryFrame m args 2 = _ from (congrArg (fun z => entryFrame m z 2) hargs).trans (lg_entry_eq _ _ _)]
  generalize (lg_sl ([.ref (ad 10), .int a0]) ++ List.replicate (2 - (lg_sl ([.ref (ad 10), .int a0])).length) Slot.unset).toArray = ls at hl ⊢
  have hl : lv_has ls 2 [(0, .ref (ad 10)), (1, .int a0)] := hl
  refine lv_aload_n hx hb dJx4a65c_elementData_915e3_0 rfl (lv_at hl 0 rfl) ?_
  refine th_getL (ci := 0) (C := RJx4a65c) (T := TJx4a65c) (N := 3) (v := .ref (ad 16)) hx hb hts hinJx4a65c hown hK hP hI 10 (mF 10 rfl) rfl rfl 1 (Nat.le_of_ble_eq_true rfl) (hts _ (vA_in _ _ (in_3 _ (zs16 (zs4 (zs4 (zs0))))))) (fun _ h9 => h9) (hI.fr 10 (mF 10 rfl) rfl (Nat.le_of_ble_eq_true rfl) 16 (by show (bif Nat.blt 0 (cf 3) then _ else _) = _; rw [blt_t (show 0 < cf 3 by omega)]; rfl)) dJx4a65c_elementData_915e3_1 ?_
  refine lv_iload_n hx hb dJx4a65c_elementData_915e3_4 rfl (lv_at hl 1 rfl) ?_
  refine th_aldL (nl := cf 3) (C := "java/lang/Object") hx hb hK hP hI 16 (mD 16 (by decide) (by decide) (show 0 < cf 3 by omega)) rfl rfl (vp_in_iff.mpr ⟨by omega, by omega⟩) (64 * (a0.toNatClampNeg + 1) + 12) rfl dJx4a65c_elementData_915e3_5 ?_
  rw [hQ]
  exact W.aret (v := .ref (ad (64 * (a0.toNatClampNeg + 1) + 12))) hx hb hr (Or.inl ⟨_, rfl⟩) (Or.inr ⟨_, rfl⟩) (fun t ht hW => ⟨⟨(), _, rfl, trivial, rfl⟩, hS.F ht⟩) hS.2.2 dJx4a65c_elementData_915e3_6
def v_size3 : List Cond := .code yJx4a65c_size_8abf5 cJx4a65c_size_8abf5 1 (some .int) :: vA
abbrev rm_size3 : Room := { frames := 0, cells := 0, slots := 0, locals := 0 }
set_option maxHeartbeats 4000000 in
set_option maxRecDepth 100000 in
theorem q_size3 (l : Launch) (dC : Nat → ClassId) (dI : Nat → Nat → Nat) (cT : Nat → ClassId) (cf : Nat → Nat) (hC : CF cf) (ad : Nat → Nat) (E : Nat → va_E) (sz : Nat)  (hI0 : IXL cT (shC cf) (spC cf) (LC cf) ad E)  : Met l yJx4a65c_size_8abf5 v_size3 rm_size3 (va_Pc [.ref (ad 10)] (HWL dC dI (TYC cT) cf ad E sz)) (va_Qi (S := Unit) (fun r _ => (0 ≤ r.toInt ∧ r.toInt ≤ 300) ∧ (r.toInt = ((cf 3 : Nat) : Int))) (fun _ _ => True) (fun _ => False)) 0 0 (fun _ => False) := by
  obtain ⟨⟨hc0, hc1, hc2, hc3, hc4, hc5⟩, hcr⟩ := id hC
  refine Met.ofW (cc := cJx4a65c_size_8abf5) (maxL := 1) (ret := (some .int)) (by decide) rfl ?_
  intro p e s m args below meth c s₁ B hml hv
  obtain ⟨hargs, hsz, hP, hK, hD0, hEV⟩ := hv
  subst hsz
  have hx := B.exec
  have hb := B.bytes
  have hr := B.returns
  have hts := atoms_spec (ws := v_size3) B.pre
  have hown : s.vm.findClass RJx4a65c = some m.cls := findClass_of_methodNamed B.named
  have hlocks := B.notSynchronized
  have hinJx4a65c : ∀ w ∈ u_ws RJx4a65c TJx4a65c 3, w ∈ v_size3 := fun w h => vA_in _ w (in_Jx4a65c w h)
  have hS : va_S (fun _ : Nat => False) s.heap s.heap [] := va_S.rf
  have hD := hD0
  have hI := hI0
  have hKp : Kp (wl [] []) E E := Kp.rf
  have hl := lv_entry ([.ref (ad 10)]) (n := 1) (Nat.le_of_ble_eq_true rfl)
  obtain ⟨Q, hQ⟩ : ∃ Q, Q = MQ below (va_Qi (S := Unit) (fun r _ => (0 ≤ r.toInt ∧ r.toInt ≤ 300) ∧ (r.toInt = ((cf 3 : Nat) : Int))) (fun _ _ => True) (fun _ => False)) args s 0 0 (fun _ => False) := ⟨_, rfl⟩
  rw [← hQ, show entryFrame m args 1 = _ from (congrArg (fun z => entryFrame m z 1) hargs).trans (lg_entry_eq _ _ _)]
  generalize (lg_sl ([.ref (ad 10)]) ++ List.replicate (1 - (lg_sl ([.ref (ad 10)])).length) Slot.unset).toArray = ls at hl ⊢
  have hl : lv_has ls 1 [(0, .ref (ad 10))] := hl
  refine lv_aload_n hx hb dJx4a65c_size_8abf5_0 rfl (lv_at hl 0 rfl) ?_
  have j2 : ((cf 3 : Nat) : Int) ≤ (xi (E 10) 2).toInt ∧ (xi (E 10) 2).toInt ≤ ((cf 3 : Nat) : Int) := hI0.iv 10 (mF 10 rfl) rfl (Nat.le_of_ble_eq_true rfl) rfl
  have i1 : 0 ≤ (xi (E 10) 2).toInt ∧ (xi (E 10) 2).toInt ≤ 300 := by omega
  refine th_getL (ci := 0) (C := RJx4a65c) (T := TJx4a65c) (N := 3) (v := .int (xi (E 10) 2)) hx hb hts hinJx4a65c hown hK hP hI 10 (mF 10 rfl) rfl rfl 2 (Nat.le_of_ble_eq_true rfl) (hts _ (vA_in _ _ (in_3 _ (zs4 (zs4 (zs4 (zs1 (zs1 (zs0))))))))) (fun _ h9 => h9) (th_v0L hKp hI0 10 (mF 10 rfl) rfl (Nat.le_of_ble_eq_true rfl) rfl rfl) dJx4a65c_size_8abf5_1 ?_
  rw [hQ]
  exact W.iret (v := (xi (E 10) 2)) hx hb hr (fun t ht hW => ⟨⟨(xi (E 10) 2), (), rfl, ⟨i1, by all_goals omega⟩, trivial⟩, hS.F ht⟩) hS.2.2 dJx4a65c_size_8abf5_4
def v_get3 : List Cond := .code yJx4a65c_get_915e3 cJx4a65c_get_915e3 2 (some (.object "java/lang/Object")) :: vA
abbrev rm_get3 : Room := { frames := 2, cells := 0, slots := 0, locals := 80 }
set_option maxHeartbeats 4000000 in
set_option maxRecDepth 100000 in
theorem q_get3 (l : Launch) (dC : Nat → ClassId) (dI : Nat → Nat → Nat) (cT : Nat → ClassId) (cf : Nat → Nat) (hC : CF cf) (ad : Nat → Nat) (E : Nat → va_E) (sz : Nat) (a0 : Int32) (hI0 : IXL cT (shC cf) (spC cf) (LC cf) ad E) (hh0 : (0 ≤ a0.toInt ∧ a0.toInt < ((cf 3 : Nat) : Int))) : Met l yJx4a65c_get_915e3 v_get3 rm_get3 (va_Pc [.ref (ad 10), .int a0] (HWL dC dI (TYC cT) cf ad E sz)) (va_Qr (S := Unit) (fun _ => True) (fun u a' _ => (fun a' _ => a' = ad (64 * (a0.toNatClampNeg + 1) + 12)) a' u) (fun _ => False)) 0 0 (fun _ => False) := by
  obtain ⟨⟨hc0, hc1, hc2, hc3, hc4, hc5⟩, hcr⟩ := id hC
  refine Met.ofW (cc := cJx4a65c_get_915e3) (maxL := 2) (ret := (some (.object "java/lang/Object"))) (by decide) rfl ?_
  intro p e s m args below meth c s₁ B hml hv
  obtain ⟨hargs, hsz, hP, hK, hD0, hEV⟩ := hv
  subst hsz
  have hx := B.exec
  have hb := B.bytes
  have hr := B.returns
  have hts := atoms_spec (ws := v_get3) B.pre
  have hown : s.vm.findClass RJx4a65c = some m.cls := findClass_of_methodNamed B.named
  have hlocks := B.notSynchronized
  have hinJx4a65c : ∀ w ∈ u_ws RJx4a65c TJx4a65c 3, w ∈ v_get3 := fun w h => vA_in _ w (in_Jx4a65c w h)
  have hS : va_S (fun _ : Nat => False) s.heap s.heap [] := va_S.rf
  have hD := hD0
  have hI := hI0
  have hKp : Kp (wl [] []) E E := Kp.rf
  have hl := lv_entry ([.ref (ad 10), .int a0]) (n := 2) (Nat.le_of_ble_eq_true rfl)
  obtain ⟨Q, hQ⟩ : ∃ Q, Q = MQ below (va_Qr (S := Unit) (fun _ => True) (fun u a' _ => (fun a' _ => a' = ad (64 * (a0.toNatClampNeg + 1) + 12)) a' u) (fun _ => False)) args s 0 0 (fun _ => False) := ⟨_, rfl⟩
  rw [← hQ, show entryFrame m args 2 = _ from (congrArg (fun z => entryFrame m z 2) hargs).trans (lg_entry_eq _ _ _)]
  generalize (lg_sl ([.ref (ad 10), .int a0]) ++ List.replicate (2 - (lg_sl ([.ref (ad 10), .int a0])).length) Slot.unset).toArray = ls at hl ⊢
  have hl : lv_has ls 2 [(0, .ref (ad 10)), (1, .int a0)] := hl
  refine lv_iload_n hx hb dJx4a65c_get_915e3_0 rfl (lv_at hl 1 rfl) ?_
  refine lv_aload_n hx hb dJx4a65c_get_915e3_1 rfl (lv_at hl 0 rfl) ?_
  have j2 : ((cf 3 : Nat) : Int) ≤ (xi (E 10) 2).toInt ∧ (xi (E 10) 2).toInt ≤ ((cf 3 : Nat) : Int) := hI0.iv 10 (mF 10 rfl) rfl (Nat.le_of_ble_eq_true rfl) rfl
  have i1 : 0 ≤ (xi (E 10) 2).toInt ∧ (xi (E 10) 2).toInt ≤ 300 := by omega
  refine th_getL (ci := 0) (C := RJx4a65c) (T := TJx4a65c) (N := 3) (v := .int (xi (E 10) 2)) hx hb hts hinJx4a65c hown hK hP hI 10 (mF 10 rfl) rfl rfl 2 (Nat.le_of_ble_eq_true rfl) (hts _ (vA_in _ _ (in_3 _ (zs4 (zs4 (zs4 (zs1 (zs1 (zs0))))))))) (fun _ h9 => h9) (th_v0L hKp hI0 10 (mF 10 rfl) rfl (Nat.le_of_ble_eq_true rfl) rfl rfl) dJx4a65c_get_915e3_2 ?_
  refine th_pi (va_runS (As := [.int a0, .int (xi (E 10) 2)]) (rest := []) ⟨hx, hb, hml, hown, hts⟩ (q_chk15 l a0 (xi (E 10) 2) (by omega)) (va_cwS 2 hts (gi_S (in_4 _ zs0) (in_4 _ (zs1 (zs0))) (in_4 _ (zs1 (zs1 (zs0)))) (in_2 _ (zs4 (zs1 (zs1 (zs0)))))) rfl rfl rfl hz_yJ15_checkIndex_7cf53_2 ⟨Nat.le_of_ble_eq_true rfl, Nat.le_of_ble_eq_true rfl⟩) ⟨fun _ _ _ _ q => q, fun _ _ _ => ⟨rfl, trivial⟩⟩ rfl rfl hl.1 rfl (lv_room (Nat.le_of_ble_eq_true rfl)) dJx4a65c_get_915e3_5 ⟨Nat.le_of_ble_eq_true rfl, Nat.le_of_ble_eq_true rfl⟩) hS (fun r3 H1 locs1 hw hk1 hS => ?_)
  have hP := ub_keep hP hk1
  generalize H1 = H at hP hS ⊢
  generalize locs1 = locs at hS ⊢
  refine lv_pop hx hb dJx4a65c_get_915e3_8 rfl ?_
  refine lv_aload_n hx hb dJx4a65c_get_915e3_9 rfl (lv_at hl 0 rfl) ?_
  refine lv_iload_n hx hb dJx4a65c_get_915e3_10 rfl (lv_at hl 1 rfl) ?_
  refine th_rrL (va_runV (As := [.int a0]) (rest := []) ⟨hx, hb, hml, hown, hts⟩ (q_eld3 l dC dI cT cf hC ad E H.size a0 hI (by omega)) (cwV 1 hts (gi_V (in_4 _ (zs1 (zs1 (zs1 (zs0))))) (in_4 _ (zs4 (zs0))) (in_4 _ (zs4 (zs1 (zs0)))) (in_3 _ (zs16 (zs1 (zs1 (zs0))))) (in_3 _ (zs16 (zs16 (zs4 (zs1 (zs1 (zs0)))))))) rfl rfl rfl ⟨rfl, hz_yJx4a65c_elementData_915e3_1⟩ ⟨Nat.le_of_ble_eq_true rfl, Nat.le_of_ble_eq_true rfl⟩) ⟨HWL_bl, va_recv hK hP (ci := 0) (q0 := posL 10 (LC cf)) rfl (hI.ob 10 (mF 10 rfl) rfl), (HWL_wiR hP hK (WL_D hD) hS hEV)⟩ rfl rfl hl.1 rfl (lv_room (Nat.le_of_ble_eq_true rfl)) dJx4a65c_get_915e3_11 ⟨Nat.le_of_ble_eq_true rfl, Nat.le_of_ble_eq_true rfl⟩) hS hP (fun r4 H locs hw hP hS => ?_)
  obtain rfl := hw
  have lv5 : a0.toNatClampNeg < cf 3 := by rw [tn_]; omega
  rw [hQ]
  exact W.aret (v := .ref (ad (64 * (a0.toNatClampNeg + 1) + 12))) hx hb hr (Or.inl ⟨_, rfl⟩) (Or.inr ⟨_, rfl⟩) (fun t ht hW => ⟨⟨(), _, rfl, trivial, rfl⟩, hS.F ht⟩) hS.2.2 dJx4a65c_get_915e3_14
def v_eld4 : List Cond := .code yJx4a65c_elementData_915e3 cJx4a65c_elementData_915e3 2 (some (.object "java/lang/Object")) :: vA
abbrev rm_eld4 : Room := { frames := 0, cells := 0, slots := 0, locals := 0 }
set_option maxHeartbeats 4000000 in
set_option maxRecDepth 100000 in
theorem q_eld4 (l : Launch) (dC : Nat → ClassId) (dI : Nat → Nat → Nat) (cT : Nat → ClassId) (cf : Nat → Nat) (hC : CF cf) (ad : Nat → Nat) (E : Nat → va_E) (sz : Nat) (a0 : Int32) (hI0 : IXL cT (shC cf) (spC cf) (LC cf) ad E) (hh0 : (0 ≤ a0.toInt ∧ a0.toInt < ((cf 4 : Nat) : Int))) : Met l yJx4a65c_elementData_915e3 v_eld4 rm_eld4 (va_Pc [.ref (ad 11), .int a0] (HWL dC dI (TYC cT) cf ad E sz)) (va_Qr (S := Unit) (fun _ => True) (fun u a' _ => (fun a' _ => a' = ad (64 * (a0.toNatClampNeg + 1) + 13)) a' u) (fun _ => False)) 0 0 (fun _ => False) := by
  obtain ⟨⟨hc0, hc1, hc2, hc3, hc4, hc5⟩, hcr⟩ := id hC
  refine Met.ofW (cc := cJx4a65c_elementData_915e3) (maxL := 2) (ret := (some (.object "java/lang/Object"))) (by decide) rfl ?_
  intro p e s m args below meth c s₁ B hml hv
  obtain ⟨hargs, hsz, hP, hK, hD0, hEV⟩ := hv
  subst hsz
  have hx := B.exec
  have hb := B.bytes
  have hr := B.returns
  have hts := atoms_spec (ws := v_eld4) B.pre
  have hown : s.vm.findClass RJx4a65c = some m.cls := findClass_of_methodNamed B.named
  have hlocks := B.notSynchronized
  have hinJx4a65c : ∀ w ∈ u_ws RJx4a65c TJx4a65c 3, w ∈ v_eld4 := fun w h => vA_in _ w (in_Jx4a65c w h)
  have hS : va_S (fun _ : Nat => False) s.heap s.heap [] := va_S.rf
  have hD := hD0
  have hI := hI0
  have hKp : Kp (wl [] []) E E := Kp.rf
  have hl := lv_entry ([.ref (ad 11), .int a0]) (n := 2) (Nat.le_of_ble_eq_true rfl)
  obtain ⟨Q, hQ⟩ : ∃ Q, Q = MQ below (va_Qr (S := Unit) (fun _ => True) (fun u a' _ => (fun a' _ => a' = ad (64 * (a0.toNatClampNeg + 1) + 13)) a' u) (fun _ => False)) args s 0 0 (fun _ => False) := ⟨_, rfl⟩
  rw [← hQ, show entryFrame m args 2 = _ from (congrArg (fun z => entryFrame m z 2) hargs).trans (lg_entry_eq _ _ _)]
  generalize (lg_sl ([.ref (ad 11), .int a0]) ++ List.replicate (2 - (lg_sl ([.ref (ad 11), .int a0])).length) Slot.unset).toArray = ls at hl ⊢
  have hl : lv_has ls 2 [(0, .ref (ad 11)), (1, .int a0)] := hl
  refine lv_aload_n hx hb dJx4a65c_elementData_915e3_0 rfl (lv_at hl 0 rfl) ?_
  refine th_getL (ci := 0) (C := RJx4a65c) (T := TJx4a65c) (N := 3) (v := .ref (ad 17)) hx hb hts hinJx4a65c hown hK hP hI 11 (mF 11 rfl) rfl rfl 1 (Nat.le_of_ble_eq_true rfl) (hts _ (vA_in _ _ (in_3 _ (zs16 (zs4 (zs4 (zs0))))))) (fun _ h9 => h9) (hI.fr 11 (mF 11 rfl) rfl (Nat.le_of_ble_eq_true rfl) 17 (by show (bif Nat.blt 0 (cf 4) then _ else _) = _; rw [blt_t (show 0 < cf 4 by omega)]; rfl)) dJx4a65c_elementData_915e3_1 ?_
  refine lv_iload_n hx hb dJx4a65c_elementData_915e3_4 rfl (lv_at hl 1 rfl) ?_
  refine th_aldL (nl := cf 4) (C := "java/lang/Object") hx hb hK hP hI 17 (mD 17 (by decide) (by decide) (show 0 < cf 4 by omega)) rfl rfl (vp_in_iff.mpr ⟨by omega, by omega⟩) (64 * (a0.toNatClampNeg + 1) + 13) rfl dJx4a65c_elementData_915e3_5 ?_
  rw [hQ]
  exact W.aret (v := .ref (ad (64 * (a0.toNatClampNeg + 1) + 13))) hx hb hr (Or.inl ⟨_, rfl⟩) (Or.inr ⟨_, rfl⟩) (fun t ht hW => ⟨⟨(), _, rfl, trivial, rfl⟩, hS.F ht⟩) hS.2.2 dJx4a65c_elementData_915e3_6
def v_size4 : List Cond := .code yJx4a65c_size_8abf5 cJx4a65c_size_8abf5 1 (some .int) :: vA
abbrev rm_size4 : Room := { frames := 0, cells := 0, slots := 0, locals := 0 }
set_option maxHeartbeats 4000000 in
set_option maxRecDepth 100000 in
theorem q_size4 (l : Launch) (dC : Nat → ClassId) (dI : Nat → Nat → Nat) (cT : Nat → ClassId) (cf : Nat → Nat) (hC : CF cf) (ad : Nat → Nat) (E : Nat → va_E) (sz : Nat)  (hI0 : IXL cT (shC cf) (spC cf) (LC cf) ad E)  : Met l yJx4a65c_size_8abf5 v_size4 rm_size4 (va_Pc [.ref (ad 11)] (HWL dC dI (TYC cT) cf ad E sz)) (va_Qi (S := Unit) (fun r _ => (0 ≤ r.toInt ∧ r.toInt ≤ 200) ∧ (r.toInt = ((cf 4 : Nat) : Int))) (fun _ _ => True) (fun _ => False)) 0 0 (fun _ => False) := by
  obtain ⟨⟨hc0, hc1, hc2, hc3, hc4, hc5⟩, hcr⟩ := id hC
  refine Met.ofW (cc := cJx4a65c_size_8abf5) (maxL := 1) (ret := (some .int)) (by decide) rfl ?_
  intro p e s m args below meth c s₁ B hml hv
  obtain ⟨hargs, hsz, hP, hK, hD0, hEV⟩ := hv
  subst hsz
  have hx := B.exec
  have hb := B.bytes
  have hr := B.returns
  have hts := atoms_spec (ws := v_size4) B.pre
  have hown : s.vm.findClass RJx4a65c = some m.cls := findClass_of_methodNamed B.named
  have hlocks := B.notSynchronized
  have hinJx4a65c : ∀ w ∈ u_ws RJx4a65c TJx4a65c 3, w ∈ v_size4 := fun w h => vA_in _ w (in_Jx4a65c w h)
  have hS : va_S (fun _ : Nat => False) s.heap s.heap [] := va_S.rf
  have hD := hD0
  have hI := hI0
  have hKp : Kp (wl [] []) E E := Kp.rf
  have hl := lv_entry ([.ref (ad 11)]) (n := 1) (Nat.le_of_ble_eq_true rfl)
  obtain ⟨Q, hQ⟩ : ∃ Q, Q = MQ below (va_Qi (S := Unit) (fun r _ => (0 ≤ r.toInt ∧ r.toInt ≤ 200) ∧ (r.toInt = ((cf 4 : Nat) : Int))) (fun _ _ => True) (fun _ => False)) args s 0 0 (fun _ => False) := ⟨_, rfl⟩
  rw [← hQ, show entryFrame m args 1 = _ from (congrArg (fun z => entryFrame m z 1) hargs).trans (lg_entry_eq _ _ _)]
  generalize (lg_sl ([.ref (ad 11)]) ++ List.replicate (1 - (lg_sl ([.ref (ad 11)])).length) Slot.unset).toArray = ls at hl ⊢
  have hl : lv_has ls 1 [(0, .ref (ad 11))] := hl
  refine lv_aload_n hx hb dJx4a65c_size_8abf5_0 rfl (lv_at hl 0 rfl) ?_
  have j2 : ((cf 4 : Nat) : Int) ≤ (xi (E 11) 2).toInt ∧ (xi (E 11) 2).toInt ≤ ((cf 4 : Nat) : Int) := hI0.iv 11 (mF 11 rfl) rfl (Nat.le_of_ble_eq_true rfl) rfl
  have i1 : 0 ≤ (xi (E 11) 2).toInt ∧ (xi (E 11) 2).toInt ≤ 200 := by omega
  refine th_getL (ci := 0) (C := RJx4a65c) (T := TJx4a65c) (N := 3) (v := .int (xi (E 11) 2)) hx hb hts hinJx4a65c hown hK hP hI 11 (mF 11 rfl) rfl rfl 2 (Nat.le_of_ble_eq_true rfl) (hts _ (vA_in _ _ (in_3 _ (zs4 (zs4 (zs4 (zs1 (zs1 (zs0))))))))) (fun _ h9 => h9) (th_v0L hKp hI0 11 (mF 11 rfl) rfl (Nat.le_of_ble_eq_true rfl) rfl rfl) dJx4a65c_size_8abf5_1 ?_
  rw [hQ]
  exact W.iret (v := (xi (E 11) 2)) hx hb hr (fun t ht hW => ⟨⟨(xi (E 11) 2), (), rfl, ⟨i1, by all_goals omega⟩, trivial⟩, hS.F ht⟩) hS.2.2 dJx4a65c_size_8abf5_4
def v_get4 : List Cond := .code yJx4a65c_get_915e3 cJx4a65c_get_915e3 2 (some (.object "java/lang/Object")) :: vA
abbrev rm_get4 : Room := { frames := 2, cells := 0, slots := 0, locals := 80 }
set_option maxHeartbeats 4000000 in
set_option maxRecDepth 100000 in
theorem q_get4 (l : Launch) (dC : Nat → ClassId) (dI : Nat → Nat → Nat) (cT : Nat → ClassId) (cf : Nat → Nat) (hC : CF cf) (ad : Nat → Nat) (E : Nat → va_E) (sz : Nat) (a0 : Int32) (hI0 : IXL cT (shC cf) (spC cf) (LC cf) ad E) (hh0 : (0 ≤ a0.toInt ∧ a0.toInt < ((cf 4 : Nat) : Int))) : Met l yJx4a65c_get_915e3 v_get4 rm_get4 (va_Pc [.ref (ad 11), .int a0] (HWL dC dI (TYC cT) cf ad E sz)) (va_Qr (S := Unit) (fun _ => True) (fun u a' _ => (fun a' _ => a' = ad (64 * (a0.toNatClampNeg + 1) + 13)) a' u) (fun _ => False)) 0 0 (fun _ => False) := by
  obtain ⟨⟨hc0, hc1, hc2, hc3, hc4, hc5⟩, hcr⟩ := id hC
  refine Met.ofW (cc := cJx4a65c_get_915e3) (maxL := 2) (ret := (some (.object "java/lang/Object"))) (by decide) rfl ?_
  intro p e s m args below meth c s₁ B hml hv
  obtain ⟨hargs, hsz, hP, hK, hD0, hEV⟩ := hv
  subst hsz
  have hx := B.exec
  have hb := B.bytes
  have hr := B.returns
  have hts := atoms_spec (ws := v_get4) B.pre
  have hown : s.vm.findClass RJx4a65c = some m.cls := findClass_of_methodNamed B.named
  have hlocks := B.notSynchronized
  have hinJx4a65c : ∀ w ∈ u_ws RJx4a65c TJx4a65c 3, w ∈ v_get4 := fun w h => vA_in _ w (in_Jx4a65c w h)
  have hS : va_S (fun _ : Nat => False) s.heap s.heap [] := va_S.rf
  have hD := hD0
  have hI := hI0
  have hKp : Kp (wl [] []) E E := Kp.rf
  have hl := lv_entry ([.ref (ad 11), .int a0]) (n := 2) (Nat.le_of_ble_eq_true rfl)
  obtain ⟨Q, hQ⟩ : ∃ Q, Q = MQ below (va_Qr (S := Unit) (fun _ => True) (fun u a' _ => (fun a' _ => a' = ad (64 * (a0.toNatClampNeg + 1) + 13)) a' u) (fun _ => False)) args s 0 0 (fun _ => False) := ⟨_, rfl⟩
  rw [← hQ, show entryFrame m args 2 = _ from (congrArg (fun z => entryFrame m z 2) hargs).trans (lg_entry_eq _ _ _)]
  generalize (lg_sl ([.ref (ad 11), .int a0]) ++ List.replicate (2 - (lg_sl ([.ref (ad 11), .int a0])).length) Slot.unset).toArray = ls at hl ⊢
  have hl : lv_has ls 2 [(0, .ref (ad 11)), (1, .int a0)] := hl
  refine lv_iload_n hx hb dJx4a65c_get_915e3_0 rfl (lv_at hl 1 rfl) ?_
  refine lv_aload_n hx hb dJx4a65c_get_915e3_1 rfl (lv_at hl 0 rfl) ?_
  have j2 : ((cf 4 : Nat) : Int) ≤ (xi (E 11) 2).toInt ∧ (xi (E 11) 2).toInt ≤ ((cf 4 : Nat) : Int) := hI0.iv 11 (mF 11 rfl) rfl (Nat.le_of_ble_eq_true rfl) rfl
  have i1 : 0 ≤ (xi (E 11) 2).toInt ∧ (xi (E 11) 2).toInt ≤ 200 := by omega
  refine th_getL (ci := 0) (C := RJx4a65c) (T := TJx4a65c) (N := 3) (v := .int (xi (E 11) 2)) hx hb hts hinJx4a65c hown hK hP hI 11 (mF 11 rfl) rfl rfl 2 (Nat.le_of_ble_eq_true rfl) (hts _ (vA_in _ _ (in_3 _ (zs4 (zs4 (zs4 (zs1 (zs1 (zs0))))))))) (fun _ h9 => h9) (th_v0L hKp hI0 11 (mF 11 rfl) rfl (Nat.le_of_ble_eq_true rfl) rfl rfl) dJx4a65c_get_915e3_2 ?_
  refine th_pi (va_runS (As := [.int a0, .int (xi (E 11) 2)]) (rest := []) ⟨hx, hb, hml, hown, hts⟩ (q_chk15 l a0 (xi (E 11) 2) (by omega)) (va_cwS 2 hts (gi_S (in_4 _ zs0) (in_4 _ (zs1 (zs0))) (in_4 _ (zs1 (zs1 (zs0)))) (in_2 _ (zs4 (zs1 (zs1 (zs0)))))) rfl rfl rfl hz_yJ15_checkIndex_7cf53_2 ⟨Nat.le_of_ble_eq_true rfl, Nat.le_of_ble_eq_true rfl⟩) ⟨fun _ _ _ _ q => q, fun _ _ _ => ⟨rfl, trivial⟩⟩ rfl rfl hl.1 rfl (lv_room (Nat.le_of_ble_eq_true rfl)) dJx4a65c_get_915e3_5 ⟨Nat.le_of_ble_eq_true rfl, Nat.le_of_ble_eq_true rfl⟩) hS (fun r3 H1 locs1 hw hk1 hS => ?_)
  have hP := ub_keep hP hk1
  generalize H1 = H at hP hS ⊢
  generalize locs1 = locs at hS ⊢
  refine lv_pop hx hb dJx4a65c_get_915e3_8 rfl ?_
  refine lv_aload_n hx hb dJx4a65c_get_915e3_9 rfl (lv_at hl 0 rfl) ?_
  refine lv_iload_n hx hb dJx4a65c_get_915e3_10 rfl (lv_at hl 1 rfl) ?_
  refine th_rrL (va_runV (As := [.int a0]) (rest := []) ⟨hx, hb, hml, hown, hts⟩ (q_eld4 l dC dI cT cf hC ad E H.size a0 hI (by omega)) (cwV 1 hts (gi_V (in_4 _ (zs1 (zs1 (zs1 (zs0))))) (in_4 _ (zs4 (zs0))) (in_4 _ (zs4 (zs1 (zs0)))) (in_3 _ (zs16 (zs1 (zs1 (zs0))))) (in_3 _ (zs16 (zs16 (zs4 (zs1 (zs1 (zs0)))))))) rfl rfl rfl ⟨rfl, hz_yJx4a65c_elementData_915e3_1⟩ ⟨Nat.le_of_ble_eq_true rfl, Nat.le_of_ble_eq_true rfl⟩) ⟨HWL_bl, va_recv hK hP (ci := 0) (q0 := posL 11 (LC cf)) rfl (hI.ob 11 (mF 11 rfl) rfl), (HWL_wiR hP hK (WL_D hD) hS hEV)⟩ rfl rfl hl.1 rfl (lv_room (Nat.le_of_ble_eq_true rfl)) dJx4a65c_get_915e3_11 ⟨Nat.le_of_ble_eq_true rfl, Nat.le_of_ble_eq_true rfl⟩) hS hP (fun r4 H locs hw hP hS => ?_)
  obtain rfl := hw
  have lv5 : a0.toNatClampNeg < cf 4 := by rw [tn_]; omega
  rw [hQ]
  exact W.aret (v := .ref (ad (64 * (a0.toNatClampNeg + 1) + 13))) hx hb hr (Or.inl ⟨_, rfl⟩) (Or.inr ⟨_, rfl⟩) (fun t ht hW => ⟨⟨(), _, rfl, trivial, rfl⟩, hS.F ht⟩) hS.2.2 dJx4a65c_get_915e3_14
def v_eld5 : List Cond := .code yJx4a65c_elementData_915e3 cJx4a65c_elementData_915e3 2 (some (.object "java/lang/Object")) :: vA
abbrev rm_eld5 : Room := { frames := 0, cells := 0, slots := 0, locals := 0 }
set_option maxHeartbeats 4000000 in
set_option maxRecDepth 100000 in
theorem q_eld5 (l : Launch) (dC : Nat → ClassId) (dI : Nat → Nat → Nat) (cT : Nat → ClassId) (cf : Nat → Nat) (hC : CF cf) (ad : Nat → Nat) (E : Nat → va_E) (sz : Nat) (a0 : Int32) (hI0 : IXL cT (shC cf) (spC cf) (LC cf) ad E) (hh0 : (0 ≤ a0.toInt ∧ a0.toInt < ((cf 5 : Nat) : Int))) : Met l yJx4a65c_elementData_915e3 v_eld5 rm_eld5 (va_Pc [.ref (ad 12), .int a0] (HWL dC dI (TYC cT) cf ad E sz)) (va_Qr (S := Unit) (fun _ => True) (fun u a' _ => (fun a' _ => a' = ad (64 * (a0.toNatClampNeg + 1) + 14)) a' u) (fun _ => False)) 0 0 (fun _ => False) := by
  obtain ⟨⟨hc0, hc1, hc2, hc3, hc4, hc5⟩, hcr⟩ := id hC
  refine Met.ofW (cc := cJx4a65c_elementData_915e3) (maxL := 2) (ret := (some (.object "java/lang/Object"))) (by decide) rfl ?_
  intro p e s m args below meth c s₁ B hml hv
  obtain ⟨hargs, hsz, hP, hK, hD0, hEV⟩ := hv
  subst hsz
  have hx := B.exec
  have hb := B.bytes
  have hr := B.returns
  have hts := atoms_spec (ws := v_eld5) B.pre
  have hown : s.vm.findClass RJx4a65c = some m.cls := findClass_of_methodNamed B.named
  have hlocks := B.notSynchronized
  have hinJx4a65c : ∀ w ∈ u_ws RJx4a65c TJx4a65c 3, w ∈ v_eld5 := fun w h => vA_in _ w (in_Jx4a65c w h)
  have hS : va_S (fun _ : Nat => False) s.heap s.heap [] := va_S.rf
  have hD := hD0
  have hI := hI0
  have hKp : Kp (wl [] []) E E := Kp.rf
  have hl := lv_entry ([.ref (ad 12), .int a0]) (n := 2) (Nat.le_of_ble_eq_true rfl)
  obtain ⟨Q, hQ⟩ : ∃ Q, Q = MQ below (va_Qr (S := Unit) (fun _ => True) (fun u a' _ => (fun a' _ => a' = ad (64 * (a0.toNatClampNeg + 1) + 14)) a' u) (fun _ => False)) args s 0 0 (fun _ => False) := ⟨_, rfl⟩
  rw [← hQ, show entryFrame m args 2 = _ from (congrArg (fun z => entryFrame m z 2) hargs).trans (lg_entry_eq _ _ _)]
  generalize (lg_sl ([.ref (ad 12), .int a0]) ++ List.replicate (2 - (lg_sl ([.ref (ad 12), .int a0])).length) Slot.unset).toArray = ls at hl ⊢
  have hl : lv_has ls 2 [(0, .ref (ad 12)), (1, .int a0)] := hl
  refine lv_aload_n hx hb dJx4a65c_elementData_915e3_0 rfl (lv_at hl 0 rfl) ?_
  refine th_getL (ci := 0) (C := RJx4a65c) (T := TJx4a65c) (N := 3) (v := .ref (ad 18)) hx hb hts hinJx4a65c hown hK hP hI 12 (mF 12 rfl) rfl rfl 1 (Nat.le_of_ble_eq_true rfl) (hts _ (vA_in _ _ (in_3 _ (zs16 (zs4 (zs4 (zs0))))))) (fun _ h9 => h9) (hI.fr 12 (mF 12 rfl) rfl (Nat.le_of_ble_eq_true rfl) 18 (by show (bif Nat.blt 0 (cf 5) then _ else _) = _; rw [blt_t (show 0 < cf 5 by omega)]; rfl)) dJx4a65c_elementData_915e3_1 ?_
  refine lv_iload_n hx hb dJx4a65c_elementData_915e3_4 rfl (lv_at hl 1 rfl) ?_
  refine th_aldL (nl := cf 5) (C := "java/lang/Object") hx hb hK hP hI 18 (mD 18 (by decide) (by decide) (show 0 < cf 5 by omega)) rfl rfl (vp_in_iff.mpr ⟨by omega, by omega⟩) (64 * (a0.toNatClampNeg + 1) + 14) rfl dJx4a65c_elementData_915e3_5 ?_
  rw [hQ]
  exact W.aret (v := .ref (ad (64 * (a0.toNatClampNeg + 1) + 14))) hx hb hr (Or.inl ⟨_, rfl⟩) (Or.inr ⟨_, rfl⟩) (fun t ht hW => ⟨⟨(), _, rfl, trivial, rfl⟩, hS.F ht⟩) hS.2.2 dJx4a65c_elementData_915e3_6
def v_size5 : List Cond := .code yJx4a65c_size_8abf5 cJx4a65c_size_8abf5 1 (some .int) :: vA
abbrev rm_size5 : Room := { frames := 0, cells := 0, slots := 0, locals := 0 }
set_option maxHeartbeats 4000000 in
set_option maxRecDepth 100000 in
theorem q_size5 (l : Launch) (dC : Nat → ClassId) (dI : Nat → Nat → Nat) (cT : Nat → ClassId) (cf : Nat → Nat) (hC : CF cf) (ad : Nat → Nat) (E : Nat → va_E) (sz : Nat)  (hI0 : IXL cT (shC cf) (spC cf) (LC cf) ad E)  : Met l yJx4a65c_size_8abf5 v_size5 rm_size5 (va_Pc [.ref (ad 12)] (HWL dC dI (TYC cT) cf ad E sz)) (va_Qi (S := Unit) (fun r _ => (0 ≤ r.toInt ∧ r.toInt ≤ 30) ∧ (r.toInt = ((cf 5 : Nat) : Int))) (fun _ _ => True) (fun _ => False)) 0 0 (fun _ => False) := by
  obtain ⟨⟨hc0, hc1, hc2, hc3, hc4, hc5⟩, hcr⟩ := id hC
  refine Met.ofW (cc := cJx4a65c_size_8abf5) (maxL := 1) (ret := (some .int)) (by decide) rfl ?_
  intro p e s m args below meth c s₁ B hml hv
  obtain ⟨hargs, hsz, hP, hK, hD0, hEV⟩ := hv
  subst hsz
  have hx := B.exec
  have hb := B.bytes
  have hr := B.returns
  have hts := atoms_spec (ws := v_size5) B.pre
  have hown : s.vm.findClass RJx4a65c = some m.cls := findClass_of_methodNamed B.named
  have hlocks := B.notSynchronized
  have hinJx4a65c : ∀ w ∈ u_ws RJx4a65c TJx4a65c 3, w ∈ v_size5 := fun w h => vA_in _ w (in_Jx4a65c w h)
  have hS : va_S (fun _ : Nat => False) s.heap s.heap [] := va_S.rf
  have hD := hD0
  have hI := hI0
  have hKp : Kp (wl [] []) E E := Kp.rf
  have hl := lv_entry ([.ref (ad 12)]) (n := 1) (Nat.le_of_ble_eq_true rfl)
  obtain ⟨Q, hQ⟩ : ∃ Q, Q = MQ below (va_Qi (S := Unit) (fun r _ => (0 ≤ r.toInt ∧ r.toInt ≤ 30) ∧ (r.toInt = ((cf 5 : Nat) : Int))) (fun _ _ => True) (fun _ => False)) args s 0 0 (fun _ => False) := ⟨_, rfl⟩
  rw [← hQ, show entryFrame m args 1 = _ from (congrArg (fun z => entryFrame m z 1) hargs).trans (lg_entry_eq _ _ _)]
  generalize (lg_sl ([.ref (ad 12)]) ++ List.replicate (1 - (lg_sl ([.ref (ad 12)])).length) Slot.unset).toArray = ls at hl ⊢
  have hl : lv_has ls 1 [(0, .ref (ad 12))] := hl
  refine lv_aload_n hx hb dJx4a65c_size_8abf5_0 rfl (lv_at hl 0 rfl) ?_
  have j2 : ((cf 5 : Nat) : Int) ≤ (xi (E 12) 2).toInt ∧ (xi (E 12) 2).toInt ≤ ((cf 5 : Nat) : Int) := hI0.iv 12 (mF 12 rfl) rfl (Nat.le_of_ble_eq_true rfl) rfl
  have i1 : 0 ≤ (xi (E 12) 2).toInt ∧ (xi (E 12) 2).toInt ≤ 30 := by omega
  refine th_getL (ci := 0) (C := RJx4a65c) (T := TJx4a65c) (N := 3) (v := .int (xi (E 12) 2)) hx hb hts hinJx4a65c hown hK hP hI 12 (mF 12 rfl) rfl rfl 2 (Nat.le_of_ble_eq_true rfl) (hts _ (vA_in _ _ (in_3 _ (zs4 (zs4 (zs4 (zs1 (zs1 (zs0))))))))) (fun _ h9 => h9) (th_v0L hKp hI0 12 (mF 12 rfl) rfl (Nat.le_of_ble_eq_true rfl) rfl rfl) dJx4a65c_size_8abf5_1 ?_
  rw [hQ]
  exact W.iret (v := (xi (E 12) 2)) hx hb hr (fun t ht hW => ⟨⟨(xi (E 12) 2), (), rfl, ⟨i1, by all_goals omega⟩, trivial⟩, hS.F ht⟩) hS.2.2 dJx4a65c_size_8abf5_4
def v_get5 : List Cond := .code yJx4a65c_get_915e3 cJx4a65c_get_915e3 2 (some (.object "java/lang/Object")) :: vA
abbrev rm_get5 : Room := { frames := 2, cells := 0, slots := 0, locals := 80 }
set_option maxHeartbeats 4000000 in
set_option maxRecDepth 100000 in
theorem q_get5 (l : Launch) (dC : Nat → ClassId) (dI : Nat → Nat → Nat) (cT : Nat → ClassId) (cf : Nat → Nat) (hC : CF cf) (ad : Nat → Nat) (E : Nat → va_E) (sz : Nat) (a0 : Int32) (hI0 : IXL cT (shC cf) (spC cf) (LC cf) ad E) (hh0 : (0 ≤ a0.toInt ∧ a0.toInt < ((cf 5 : Nat) : Int))) : Met l yJx4a65c_get_915e3 v_get5 rm_get5 (va_Pc [.ref (ad 12), .int a0] (HWL dC dI (TYC cT) cf ad E sz)) (va_Qr (S := Unit) (fun _ => True) (fun u a' _ => (fun a' _ => a' = ad (64 * (a0.toNatClampNeg + 1) + 14)) a' u) (fun _ => False)) 0 0 (fun _ => False) := by
  obtain ⟨⟨hc0, hc1, hc2, hc3, hc4, hc5⟩, hcr⟩ := id hC
  refine Met.ofW (cc := cJx4a65c_get_915e3) (maxL := 2) (ret := (some (.object "java/lang/Object"))) (by decide) rfl ?_
  intro p e s m args below meth c s₁ B hml hv
  obtain ⟨hargs, hsz, hP, hK, hD0, hEV⟩ := hv
  subst hsz
  have hx := B.exec
  have hb := B.bytes
  have hr := B.returns
  have hts := atoms_spec (ws := v_get5) B.pre
  have hown : s.vm.findClass RJx4a65c = some m.cls := findClass_of_methodNamed B.named
  have hlocks := B.notSynchronized
  have hinJx4a65c : ∀ w ∈ u_ws RJx4a65c TJx4a65c 3, w ∈ v_get5 := fun w h => vA_in _ w (in_Jx4a65c w h)
  have hS : va_S (fun _ : Nat => False) s.heap s.heap [] := va_S.rf
  have hD := hD0
  have hI := hI0
  have hKp : Kp (wl [] []) E E := Kp.rf
  have hl := lv_entry ([.ref (ad 12), .int a0]) (n := 2) (Nat.le_of_ble_eq_true rfl)
  obtain ⟨Q, hQ⟩ : ∃ Q, Q = MQ below (va_Qr (S := Unit) (fun _ => True) (fun u a' _ => (fun a' _ => a' = ad (64 * (a0.toNatClampNeg + 1) + 14)) a' u) (fun _ => False)) args s 0 0 (fun _ => False) := ⟨_, rfl⟩
  rw [← hQ, show entryFrame m args 2 = _ from (congrArg (fun z => entryFrame m z 2) hargs).trans (lg_entry_eq _ _ _)]
  generalize (lg_sl ([.ref (ad 12), .int a0]) ++ List.replicate (2 - (lg_sl ([.ref (ad 12), .int a0])).length) Slot.unset).toArray = ls at hl ⊢
  have hl : lv_has ls 2 [(0, .ref (ad 12)), (1, .int a0)] := hl
  refine lv_iload_n hx hb dJx4a65c_get_915e3_0 rfl (lv_at hl 1 rfl) ?_
  refine lv_aload_n hx hb dJx4a65c_get_915e3_1 rfl (lv_at hl 0 rfl) ?_
  have j2 : ((cf 5 : Nat) : Int) ≤ (xi (E 12) 2).toInt ∧ (xi (E 12) 2).toInt ≤ ((cf 5 : Nat) : Int) := hI0.iv 12 (mF 12 rfl) rfl (Nat.le_of_ble_eq_true rfl) rfl
  have i1 : 0 ≤ (xi (E 12) 2).toInt ∧ (xi (E 12) 2).toInt ≤ 30 := by omega
  refine th_getL (ci := 0) (C := RJx4a65c) (T := TJx4a65c) (N := 3) (v := .int (xi (E 12) 2)) hx hb hts hinJx4a65c hown hK hP hI 12 (mF 12 rfl) rfl rfl 2 (Nat.le_of_ble_eq_true rfl) (hts _ (vA_in _ _ (in_3 _ (zs4 (zs4 (zs4 (zs1 (zs1 (zs0))))))))) (fun _ h9 => h9) (th_v0L hKp hI0 12 (mF 12 rfl) rfl (Nat.le_of_ble_eq_true rfl) rfl rfl) dJx4a65c_get_915e3_2 ?_
  refine th_pi (va_runS (As := [.int a0, .int (xi (E 12) 2)]) (rest := []) ⟨hx, hb, hml, hown, hts⟩ (q_chk15 l a0 (xi (E 12) 2) (by omega)) (va_cwS 2 hts (gi_S (in_4 _ zs0) (in_4 _ (zs1 (zs0))) (in_4 _ (zs1 (zs1 (zs0)))) (in_2 _ (zs4 (zs1 (zs1 (zs0)))))) rfl rfl rfl hz_yJ15_checkIndex_7cf53_2 ⟨Nat.le_of_ble_eq_true rfl, Nat.le_of_ble_eq_true rfl⟩) ⟨fun _ _ _ _ q => q, fun _ _ _ => ⟨rfl, trivial⟩⟩ rfl rfl hl.1 rfl (lv_room (Nat.le_of_ble_eq_true rfl)) dJx4a65c_get_915e3_5 ⟨Nat.le_of_ble_eq_true rfl, Nat.le_of_ble_eq_true rfl⟩) hS (fun r3 H1 locs1 hw hk1 hS => ?_)
  have hP := ub_keep hP hk1
  generalize H1 = H at hP hS ⊢
  generalize locs1 = locs at hS ⊢
  refine lv_pop hx hb dJx4a65c_get_915e3_8 rfl ?_
  refine lv_aload_n hx hb dJx4a65c_get_915e3_9 rfl (lv_at hl 0 rfl) ?_
  refine lv_iload_n hx hb dJx4a65c_get_915e3_10 rfl (lv_at hl 1 rfl) ?_
  refine th_rrL (va_runV (As := [.int a0]) (rest := []) ⟨hx, hb, hml, hown, hts⟩ (q_eld5 l dC dI cT cf hC ad E H.size a0 hI (by omega)) (cwV 1 hts (gi_V (in_4 _ (zs1 (zs1 (zs1 (zs0))))) (in_4 _ (zs4 (zs0))) (in_4 _ (zs4 (zs1 (zs0)))) (in_3 _ (zs16 (zs1 (zs1 (zs0))))) (in_3 _ (zs16 (zs16 (zs4 (zs1 (zs1 (zs0)))))))) rfl rfl rfl ⟨rfl, hz_yJx4a65c_elementData_915e3_1⟩ ⟨Nat.le_of_ble_eq_true rfl, Nat.le_of_ble_eq_true rfl⟩) ⟨HWL_bl, va_recv hK hP (ci := 0) (q0 := posL 12 (LC cf)) rfl (hI.ob 12 (mF 12 rfl) rfl), (HWL_wiR hP hK (WL_D hD) hS hEV)⟩ rfl rfl hl.1 rfl (lv_room (Nat.le_of_ble_eq_true rfl)) dJx4a65c_get_915e3_11 ⟨Nat.le_of_ble_eq_true rfl, Nat.le_of_ble_eq_true rfl⟩) hS hP (fun r4 H locs hw hP hS => ?_)
  obtain rfl := hw
  have lv5 : a0.toNatClampNeg < cf 5 := by rw [tn_]; omega
  rw [hQ]
  exact W.aret (v := .ref (ad (64 * (a0.toNatClampNeg + 1) + 14))) hx hb hr (Or.inl ⟨_, rfl⟩) (Or.inr ⟨_, rfl⟩) (fun t ht hW => ⟨⟨(), _, rfl, trivial, rfl⟩, hS.F ht⟩) hS.2.2 dJx4a65c_get_915e3_14
def v_fill19 : List Cond := .code yJ7_fill_53178 cJ7_fill_53178 4 none :: vA
abbrev rm_fill19 : Room := { frames := 0, cells := 0, slots := 0, locals := 0 }
def w_fill19 : Nat → Nat → Bool := wl [19] []
set_option maxHeartbeats 4000000 in
set_option maxRecDepth 100000 in
theorem q_fill19 (l : Launch) (dC : Nat → ClassId) (dI : Nat → Nat → Nat) (cT : Nat → ClassId) (cf : Nat → Nat) (hC : CF cf) (ad : Nat → Nat) (E : Nat → va_E) (sz : Nat) (a1 : Int32) (hI0 : IXL cT (shC cf) (spC cf) (LC cf) ad E)  : Met l yJ7_fill_53178 v_fill19 rm_fill19 (va_Pc [.ref (ad 19), .int a1] (HWL dC dI (TYC cT) cf ad E sz)) (va_Qv (S := Nat → va_E) (fun u => IXL cT (shC cf) (spC cf) (LC cf) ad u ∧ Kp w_fill19 E u ∧ (True)) (HBL dC dI (LC cf) ad) (va_A (WL (LC cf) ad E) sz)) 0 0 (va_A (WL (LC cf) ad E) sz) := by
  obtain ⟨⟨hc0, hc1, hc2, hc3, hc4, hc5⟩, hcr⟩ := id hC
  refine Met.ofW (cc := cJ7_fill_53178) (maxL := 4) (ret := none) (by decide) rfl ?_
  intro p e s m args below meth c s₁ B hml hv
  obtain ⟨hargs, hsz, hP, hK, hD0, hEV⟩ := hv
  subst hsz
  have hx := B.exec
  have hb := B.bytes
  have hr := B.returns
  have hts := atoms_spec (ws := v_fill19) B.pre
  have hown : s.vm.findClass RJ7 = some m.cls := findClass_of_methodNamed B.named
  have hlocks := B.notSynchronized
  generalize hAe : va_A (WL (LC cf) ad E) s.heap.size = A at hEV ⊢
  have hA : ∀ q : Nat, s.heap.size ≤ q → A q := fun q h => by rw [← hAe]; exact Or.inr h
  have hD : va_D A (WL (LC cf) ad E) := by rw [← hAe]; exact hD0.self
  have hS : va_S A s.heap s.heap [] := va_S.rf
  have hI := hI0
  have hKp : Kp w_fill19 E E := Kp.rf
  have hl := lv_entry ([.ref (ad 19), .int a1]) (n := 4) (Nat.le_of_ble_eq_true rfl)
  obtain ⟨Q, hQ⟩ : ∃ Q, Q = MQ below (va_Qv (S := Nat → va_E) (fun u => IXL cT (shC cf) (spC cf) (LC cf) ad u ∧ Kp w_fill19 E u ∧ (True)) (HBL dC dI (LC cf) ad) (A)) args s 0 0 (A) := ⟨_, rfl⟩
  rw [← hQ, show entryFrame m args 4 = _ from (congrArg (fun z => entryFrame m z 4) hargs).trans (lg_entry_eq _ _ _)]
  generalize (lg_sl ([.ref (ad 19), .int a1]) ++ List.replicate (4 - (lg_sl ([.ref (ad 19), .int a1])).length) Slot.unset).toArray = ls at hl ⊢
  have hl : lv_has ls 4 [(0, .ref (ad 19)), (1, .int a1)] := hl
  refine lv_iconst (v := 0) hx hb dJ7_fill_53178_0 (by decide) ?_
  refine lv_istore_n (lv' := [(2, .int 0), (0, .ref (ad 19)), (1, .int a1)]) hx hb dJ7_fill_53178_1 rfl hl (by decide) rfl (fun ls hl => ?_)
  refine lv_aload_n hx hb dJ7_fill_53178_2 rfl (lv_at hl 1 rfl) ?_
  refine va_alen (v := 14) hx hb hK hP (posL 19 (LC cf)) 0 (hI.ar 19 (mF 19 rfl) rfl) rfl rfl dJ7_fill_53178_3 ?_
  refine lv_istore_n (lv' := [(3, .int 14), (2, .int 0), (0, .ref (ad 19)), (1, .int a1)]) hx hb dJ7_fill_53178_4 rfl hl (by decide) rfl (fun ls hl => ?_)
  have hL5 : ∀ d : Nat, ∀ (v5_2 : Int32) (E5_ : Nat → va_E) (H : Heap) (locs : List Loc) (ls : Array Slot), 0 ≤ v5_2.toInt ∧ v5_2.toInt ≤ 14 → 14 - v5_2.toInt < (d : Int) → IXL cT (shC cf) (spC cf) (LC cf) ad E5_ → Kp w_fill19 E E5_ → va_P (dC, dI) vwCl (WL (LC cf) ad E5_) H → va_S A s.heap H locs → lv_has ls 4 [(3, .int 14), (2, .int v5_2), (0, .ref (ad 19)), (1, .int a1)] → W p l e (headSpec v_fill19 rm_fill19).room s m args below meth c H locs 0 0 Q (F0 m 5 ls []) := by
    intro d
    induction d with
    | zero =>
      intro v5_2 E5_ H locs ls hv5_2 hx5_0 hI hKp hP hS hl
      exact absurd hx5_0 (by first | exact ms_zu hv5_2.2 | omega)
    | succ d ih5 =>
      intro v5_2 E5_ H locs ls hv5_2 hx5_0 hI hKp hP hS hl
      refine lv_iload_n hx hb dJ7_fill_53178_5 rfl (lv_at hl 1 rfl) ?_
      refine lv_iload_n hx hb dJ7_fill_53178_6 rfl (lv_at hl 0 rfl) ?_
      refine lv_icmp_ge (tgt := 20) hx hb dJ7_fill_53178_7 (by decide) (fun c1 => ?_) (fun c1 => ?_)
      · --7 taken
        have t2 : (14 : Int) ≤ v5_2.toInt := ti_le c1
        have i3 : 14 ≤ v5_2.toInt ∧ v5_2.toInt ≤ 14 := iv_le_r t2 (il_ 14) hv5_2 (by decide)
        rw [hQ]
        exact W.vret hx hb hr (fun t ht hW => ⟨⟨E5_, rfl, ⟨hI, hKp, trivial⟩, by show va_P (dC, dI) vwCl (WL (LC cf) ad E5_) t.heap; rw [ht]; exact hP⟩, hS.F ht⟩) hS.2.2 dJ7_fill_53178_20
      · --7 not
        have t4 : v5_2.toInt < 14 := ti_nle c1
        have i5 : 0 ≤ v5_2.toInt ∧ v5_2.toInt ≤ 13 := iv_lt_l t4 hv5_2 (il_ 14) (by decide)
        refine lv_aload_n hx hb dJ7_fill_53178_10 rfl (lv_at hl 2 rfl) ?_
        refine lv_iload_n hx hb dJ7_fill_53178_11 rfl (lv_at hl 1 rfl) ?_
        refine lv_iload_n hx hb dJ7_fill_53178_12 rfl (lv_at hl 3 rfl) ?_
        have n6 : vp_in v5_2 14 := (iv_in (n := 14) i5 (by decide))
        refine th_iastL hx hb hK hP (WL_D hD) hS hI 19 (mF 19 rfl) rfl rfl n6 (okI rfl (iv_all _)) dJ7_fill_53178_13 (fun H locs E7 pw8 hI hP hS => ?_)
        have hKp := hKp.pw pw8 rfl
        obtain ⟨y9, ey9⟩ : ∃ y : Int32, y = v5_2 + (1 : Int32) := ⟨_, rfl⟩
        obtain ⟨ty9, iy9⟩ := ti_add (e := 1) (f := 14) i5 ln_1 ey9 (by decide)
        have ty9 : y9.toInt = v5_2.toInt + 1 := ty9
        have iy9 : 1 ≤ y9.toInt ∧ y9.toInt ≤ 14 := iy9
        refine lv_iinc (v := y9) (lv' := [(2, .int y9), (3, .int 14), (0, .ref (ad 19)), (1, .int a1)]) hx hb dJ7_fill_53178_14 hl (k := 1) rfl (by rw [ey9]; rfl) (by decide) rfl (fun ls hl => ?_)
        refine lv_goto (tgt := 5) hx hb dJ7_fill_53178_17 (by decide) ?_
        exact ih5 y9 E7 _ _ _ (iv_w iy9 (by decide)) (by first | exact ms_su hx5_0 ty9 (by decide) | omega) hI hKp hP hS (lv_sub hl [1, 0, 2, 3] rfl)
  exact hL5 (15) (0 : Int32) E _ _ _ (iv_w ln_0 (by decide)) (by have h9 := ln_0; first | exact ms_bu h9.1 (by decide) | omega) hI hKp hP hS (lv_sub hl [0, 1, 2, 3] rfl)
