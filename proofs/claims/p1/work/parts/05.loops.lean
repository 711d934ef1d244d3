abbrev cX10_put : ByteArray := prog_12_method_2_code
def yX10_put : MethodName := ⟨RX10, "put", "(I)V"⟩
abbrev cX12_bytesIn : ByteArray := prog_1_method_45_code
def yX12_bytesIn : MethodName := ⟨RX12, "bytesIn", "(I)I"⟩
abbrev cX13_bytesIn : ByteArray := prog_15_method_12_code
def yX13_bytesIn : MethodName := ⟨RX13, "bytesIn", "(I)I"⟩
abbrev cX13_put : ByteArray := prog_15_method_13_code
def yX13_put : MethodName := ⟨RX13, "put", "(I)V"⟩
abbrev cX13_clear : ByteArray := prog_15_method_36_code
def yX13_clear : MethodName := ⟨RX13, "clear", "()V"⟩
def RJ7 : String := "java/util/Arrays"
abbrev cJ7_fill_53178 : ByteArray := prog_36_method_103_code
def yJ7_fill_53178 : MethodName := ⟨RJ7, "fill", "([II)V"⟩
theorem dX10_put_0 : decode cX10_put 0 = .ok (.bipush 24, 2) := by decide +kernel
theorem dX10_put_2 : decode cX10_put 2 = .ok (.istore_n 2, 1) := by decide +kernel
theorem dX10_put_3 : decode cX10_put 3 = .ok (.iload_n 2, 1) := by decide +kernel
theorem dX10_put_4 : decode cX10_put 4 = .ok (.ifCond .lt 53, 3) := by decide +kernel
theorem dX10_put_7 : decode cX10_put 7 = .ok (.iload_n 1, 1) := by decide +kernel
theorem dX10_put_8 : decode cX10_put 8 = .ok (.iload_n 2, 1) := by decide +kernel
theorem dX10_put_9 : decode cX10_put 9 = .ok (.iushr, 1) := by decide +kernel
theorem dX10_put_10 : decode cX10_put 10 = .ok (.sipush 255, 3) := by decide +kernel
theorem dX10_put_13 : decode cX10_put 13 = .ok (.iand, 1) := by decide +kernel
theorem dX10_put_14 : decode cX10_put 14 = .ok (.istore_n 3, 1) := by decide +kernel
theorem dX10_put_15 : decode cX10_put 15 = .ok (.iload_n 3, 1) := by decide +kernel
theorem dX10_put_16 : decode cX10_put 16 = .ok (.ifCond .eq 35, 3) := by decide +kernel
theorem dX10_put_19 : decode cX10_put 19 = .ok (.aload_n 0, 1) := by decide +kernel
theorem dX10_put_20 : decode cX10_put 20 = .ok (.getfield 27, 3) := by decide +kernel
theorem dX10_put_23 : decode cX10_put 23 = .ok (.aload_n 0, 1) := by decide +kernel
theorem dX10_put_24 : decode cX10_put 24 = .ok (.getfield 9, 3) := by decide +kernel
theorem dX10_put_27 : decode cX10_put 27 = .ok (.arraylength, 1) := by decide +kernel
theorem dX10_put_28 : decode cX10_put 28 = .ok (.if_icmp .ge 23, 3) := by decide +kernel
theorem dX10_put_31 : decode cX10_put 31 = .ok (.aload_n 0, 1) := by decide +kernel
theorem dX10_put_32 : decode cX10_put 32 = .ok (.getfield 9, 3) := by decide +kernel
theorem dX10_put_35 : decode cX10_put 35 = .ok (.aload_n 0, 1) := by decide +kernel
theorem dX10_put_36 : decode cX10_put 36 = .ok (.getfield 27, 3) := by decide +kernel
theorem dX10_put_39 : decode cX10_put 39 = .ok (.iload_n 3, 1) := by decide +kernel
theorem dX10_put_40 : decode cX10_put 40 = .ok (.iastore, 1) := by decide +kernel
theorem dX10_put_41 : decode cX10_put 41 = .ok (.aload_n 0, 1) := by decide +kernel
theorem dX10_put_42 : decode cX10_put 42 = .ok (.dup, 1) := by decide +kernel
theorem dX10_put_43 : decode cX10_put 43 = .ok (.getfield 27, 3) := by decide +kernel
theorem dX10_put_46 : decode cX10_put 46 = .ok (.iconst 1, 1) := by decide +kernel
theorem dX10_put_47 : decode cX10_put 47 = .ok (.iadd, 1) := by decide +kernel
theorem dX10_put_48 : decode cX10_put 48 = .ok (.putfield 27, 3) := by decide +kernel
theorem dX10_put_51 : decode cX10_put 51 = .ok (.iinc 2 (-8), 3) := by decide +kernel
theorem dX10_put_54 : decode cX10_put 54 = .ok (.goto (-51), 3) := by decide +kernel
theorem dX10_put_57 : decode cX10_put 57 = .ok (.return_, 1) := by decide +kernel
theorem dX12_bytesIn_0 : decode cX12_bytesIn 0 = .ok (.iconst 0, 1) := by decide +kernel
theorem dX12_bytesIn_1 : decode cX12_bytesIn 1 = .ok (.istore_n 1, 1) := by decide +kernel
theorem dX12_bytesIn_2 : decode cX12_bytesIn 2 = .ok (.bipush 24, 2) := by decide +kernel
theorem dX12_bytesIn_4 : decode cX12_bytesIn 4 = .ok (.istore_n 2, 1) := by decide +kernel
theorem dX12_bytesIn_5 : decode cX12_bytesIn 5 = .ok (.iload_n 2, 1) := by decide +kernel
theorem dX12_bytesIn_6 : decode cX12_bytesIn 6 = .ok (.ifCond .lt 22, 3) := by decide +kernel
theorem dX12_bytesIn_9 : decode cX12_bytesIn 9 = .ok (.iload_n 0, 1) := by decide +kernel
theorem dX12_bytesIn_10 : decode cX12_bytesIn 10 = .ok (.iload_n 2, 1) := by decide +kernel
theorem dX12_bytesIn_11 : decode cX12_bytesIn 11 = .ok (.iushr, 1) := by decide +kernel
theorem dX12_bytesIn_12 : decode cX12_bytesIn 12 = .ok (.sipush 255, 3) := by decide +kernel
theorem dX12_bytesIn_15 : decode cX12_bytesIn 15 = .ok (.iand, 1) := by decide +kernel
theorem dX12_bytesIn_16 : decode cX12_bytesIn 16 = .ok (.ifCond .eq 6, 3) := by decide +kernel
theorem dX12_bytesIn_19 : decode cX12_bytesIn 19 = .ok (.iinc 1 1, 3) := by decide +kernel
theorem dX12_bytesIn_22 : decode cX12_bytesIn 22 = .ok (.iinc 2 (-8), 3) := by decide +kernel
theorem dX12_bytesIn_25 : decode cX12_bytesIn 25 = .ok (.goto (-20), 3) := by decide +kernel
theorem dX12_bytesIn_28 : decode cX12_bytesIn 28 = .ok (.iload_n 1, 1) := by decide +kernel
theorem dX12_bytesIn_29 : decode cX12_bytesIn 29 = .ok (.ireturn, 1) := by decide +kernel
theorem dX13_bytesIn_0 : decode cX13_bytesIn 0 = .ok (.iconst 0, 1) := by decide +kernel
theorem dX13_bytesIn_1 : decode cX13_bytesIn 1 = .ok (.istore_n 1, 1) := by decide +kernel
theorem dX13_bytesIn_2 : decode cX13_bytesIn 2 = .ok (.bipush 24, 2) := by decide +kernel
theorem dX13_bytesIn_4 : decode cX13_bytesIn 4 = .ok (.istore_n 2, 1) := by decide +kernel
theorem dX13_bytesIn_5 : decode cX13_bytesIn 5 = .ok (.iload_n 2, 1) := by decide +kernel
theorem dX13_bytesIn_6 : decode cX13_bytesIn 6 = .ok (.ifCond .lt 27, 3) := by decide +kernel
theorem dX13_bytesIn_9 : decode cX13_bytesIn 9 = .ok (.iload_n 1, 1) := by decide +kernel
theorem dX13_bytesIn_10 : decode cX13_bytesIn 10 = .ok (.iload_n 0, 1) := by decide +kernel
theorem dX13_bytesIn_11 : decode cX13_bytesIn 11 = .ok (.iload_n 2, 1) := by decide +kernel
theorem dX13_bytesIn_12 : decode cX13_bytesIn 12 = .ok (.ishr, 1) := by decide +kernel
theorem dX13_bytesIn_13 : decode cX13_bytesIn 13 = .ok (.sipush 255, 3) := by decide +kernel
theorem dX13_bytesIn_16 : decode cX13_bytesIn 16 = .ok (.iand, 1) := by decide +kernel
theorem dX13_bytesIn_17 : decode cX13_bytesIn 17 = .ok (.ifCond .eq 7, 3) := by decide +kernel
theorem dX13_bytesIn_20 : decode cX13_bytesIn 20 = .ok (.iconst 1, 1) := by decide +kernel
theorem dX13_bytesIn_21 : decode cX13_bytesIn 21 = .ok (.goto 4, 3) := by decide +kernel
theorem dX13_bytesIn_24 : decode cX13_bytesIn 24 = .ok (.iconst 0, 1) := by decide +kernel
theorem dX13_bytesIn_25 : decode cX13_bytesIn 25 = .ok (.iadd, 1) := by decide +kernel
theorem dX13_bytesIn_26 : decode cX13_bytesIn 26 = .ok (.istore_n 1, 1) := by decide +kernel
theorem dX13_bytesIn_27 : decode cX13_bytesIn 27 = .ok (.iinc 2 (-8), 3) := by decide +kernel
theorem dX13_bytesIn_30 : decode cX13_bytesIn 30 = .ok (.goto (-25), 3) := by decide +kernel
theorem dX13_bytesIn_33 : decode cX13_bytesIn 33 = .ok (.iload_n 1, 1) := by decide +kernel
theorem dX13_bytesIn_34 : decode cX13_bytesIn 34 = .ok (.ireturn, 1) := by decide +kernel
theorem dX13_put_0 : decode cX13_put 0 = .ok (.bipush 24, 2) := by decide +kernel
theorem dX13_put_2 : decode cX13_put 2 = .ok (.istore_n 2, 1) := by decide +kernel
theorem dX13_put_3 : decode cX13_put 3 = .ok (.iload_n 2, 1) := by decide +kernel
theorem dX13_put_4 : decode cX13_put 4 = .ok (.ifCond .lt 45, 3) := by decide +kernel
theorem dX13_put_7 : decode cX13_put 7 = .ok (.iload_n 1, 1) := by decide +kernel
theorem dX13_put_8 : decode cX13_put 8 = .ok (.iload_n 2, 1) := by decide +kernel
theorem dX13_put_9 : decode cX13_put 9 = .ok (.ishr, 1) := by decide +kernel
theorem dX13_put_10 : decode cX13_put 10 = .ok (.sipush 255, 3) := by decide +kernel
theorem dX13_put_13 : decode cX13_put 13 = .ok (.iand, 1) := by decide +kernel
theorem dX13_put_14 : decode cX13_put 14 = .ok (.ifCond .ne 6, 3) := by decide +kernel
theorem dX13_put_17 : decode cX13_put 17 = .ok (.goto 26, 3) := by decide +kernel
theorem dX13_put_20 : decode cX13_put 20 = .ok (.aload_n 0, 1) := by decide +kernel
theorem dX13_put_21 : decode cX13_put 21 = .ok (.getfield 28, 3) := by decide +kernel
theorem dX13_put_24 : decode cX13_put 24 = .ok (.aload_n 0, 1) := by decide +kernel
theorem dX13_put_25 : decode cX13_put 25 = .ok (.getfield 259, 3) := by decide +kernel
theorem dX13_put_28 : decode cX13_put 28 = .ok (.iload_n 1, 1) := by decide +kernel
theorem dX13_put_29 : decode cX13_put 29 = .ok (.iload_n 2, 1) := by decide +kernel
theorem dX13_put_30 : decode cX13_put 30 = .ok (.ishr, 1) := by decide +kernel
theorem dX13_put_31 : decode cX13_put 31 = .ok (.i2b, 1) := by decide +kernel
theorem dX13_put_32 : decode cX13_put 32 = .ok (.bastore, 1) := by decide +kernel
theorem dX13_put_33 : decode cX13_put 33 = .ok (.aload_n 0, 1) := by decide +kernel
theorem dX13_put_34 : decode cX13_put 34 = .ok (.dup, 1) := by decide +kernel
theorem dX13_put_35 : decode cX13_put 35 = .ok (.getfield 259, 3) := by decide +kernel
theorem dX13_put_38 : decode cX13_put 38 = .ok (.iconst 1, 1) := by decide +kernel
theorem dX13_put_39 : decode cX13_put 39 = .ok (.iadd, 1) := by decide +kernel
theorem dX13_put_40 : decode cX13_put 40 = .ok (.putfield 259, 3) := by decide +kernel
theorem dX13_put_43 : decode cX13_put 43 = .ok (.iinc 2 (-8), 3) := by decide +kernel
theorem dX13_put_46 : decode cX13_put 46 = .ok (.goto (-43), 3) := by decide +kernel
theorem dX13_put_49 : decode cX13_put 49 = .ok (.return_, 1) := by decide +kernel
theorem dX13_clear_0 : decode cX13_clear 0 = .ok (.iconst 0, 1) := by decide +kernel
theorem dX13_clear_1 : decode cX13_clear 1 = .ok (.istore_n 1, 1) := by decide +kernel
theorem dX13_clear_2 : decode cX13_clear 2 = .ok (.iload_n 1, 1) := by decide +kernel
theorem dX13_clear_3 : decode cX13_clear 3 = .ok (.sipush 128, 3) := by decide +kernel
theorem dX13_clear_6 : decode cX13_clear 6 = .ok (.if_icmp .ge 16, 3) := by decide +kernel
theorem dX13_clear_9 : decode cX13_clear 9 = .ok (.aload_n 0, 1) := by decide +kernel
theorem dX13_clear_10 : decode cX13_clear 10 = .ok (.getfield 44, 3) := by decide +kernel
theorem dX13_clear_13 : decode cX13_clear 13 = .ok (.iload_n 1, 1) := by decide +kernel
theorem dX13_clear_14 : decode cX13_clear 14 = .ok (.iconst 0, 1) := by decide +kernel
theorem dX13_clear_15 : decode cX13_clear 15 = .ok (.iastore, 1) := by decide +kernel
theorem dX13_clear_16 : decode cX13_clear 16 = .ok (.iinc 1 1, 3) := by decide +kernel
theorem dX13_clear_19 : decode cX13_clear 19 = .ok (.goto (-17), 3) := by decide +kernel
theorem dX13_clear_22 : decode cX13_clear 22 = .ok (.return_, 1) := by decide +kernel
theorem dJ7_fill_53178_0 : decode cJ7_fill_53178 0 = .ok (.iconst 0, 1) := by decide +kernel
theorem dJ7_fill_53178_1 : decode cJ7_fill_53178 1 = .ok (.istore_n 2, 1) := by decide +kernel
theorem dJ7_fill_53178_2 : decode cJ7_fill_53178 2 = .ok (.aload_n 0, 1) := by decide +kernel
theorem dJ7_fill_53178_3 : decode cJ7_fill_53178 3 = .ok (.arraylength, 1) := by decide +kernel
theorem dJ7_fill_53178_4 : decode cJ7_fill_53178 4 = .ok (.istore_n 3, 1) := by decide +kernel
theorem dJ7_fill_53178_5 : decode cJ7_fill_53178 5 = .ok (.iload_n 2, 1) := by decide +kernel
theorem dJ7_fill_53178_6 : decode cJ7_fill_53178 6 = .ok (.iload_n 3, 1) := by decide +kernel
theorem dJ7_fill_53178_7 : decode cJ7_fill_53178 7 = .ok (.if_icmp .ge 13, 3) := by decide +kernel
theorem dJ7_fill_53178_10 : decode cJ7_fill_53178 10 = .ok (.aload_n 0, 1) := by decide +kernel
theorem dJ7_fill_53178_11 : decode cJ7_fill_53178 11 = .ok (.iload_n 2, 1) := by decide +kernel
theorem dJ7_fill_53178_12 : decode cJ7_fill_53178 12 = .ok (.iload_n 1, 1) := by decide +kernel
theorem dJ7_fill_53178_13 : decode cJ7_fill_53178 13 = .ok (.iastore, 1) := by decide +kernel
theorem dJ7_fill_53178_14 : decode cJ7_fill_53178 14 = .ok (.iinc 2 1, 3) := by decide +kernel
theorem dJ7_fill_53178_17 : decode cJ7_fill_53178 17 = .ok (.goto (-12), 3) := by decide +kernel
theorem dJ7_fill_53178_20 : decode cJ7_fill_53178 20 = .ok (.return_, 1) := by decide +kernel
def A_c_bytesIn : List Cond := []
def v_c_bytesIn : List Cond := .code yX12_bytesIn cX12_bytesIn 3 (some .int) :: (A_c_bytesIn)
set_option maxHeartbeats 4000000 in
set_option maxRecDepth 100000 in
theorem c_bytesIn (l : Launch) (n : Int32)  : Met l yX12_bytesIn v_c_bytesIn ({ frames := 0, cells := 0, slots := 0, locals := 0 }) (va_Pc [.int n] (fun _ => True)) (va_Qi (S := Unit) (fun r _ => r = nI (nbN n)) (fun _ _ => True) (fun _ => False)) 0 0 (fun _ => False) := by
  refine Met.ofW (cc := cX12_bytesIn) (maxL := 3) (ret := (some .int)) (by decide) rfl ?_
  intro p e s m args below meth c s₁ B hml hv
  obtain ⟨rfl, -⟩ := hv
  have hx := B.exec
  have hb := B.bytes
  have hr := B.returns
  have hts := atoms_spec (ws := v_c_bytesIn) B.pre
  have hown : s.vm.findClass RX12 = some m.cls := findClass_of_methodNamed B.named
  have hlocks := B.notSynchronized
  have hS : va_S (fun _ : Nat => False) s.heap s.heap [] := va_S.rf
  have hl := lv_entry ([.int n]) (n := 3) (Nat.le_of_ble_eq_true rfl)
  rw [lg_entry_eq]
  generalize (lg_sl ([.int n]) ++ List.replicate (3 - (lg_sl ([.int n])).length) Slot.unset).toArray = ls at hl ⊢
  have hl : lv_has ls 3 [(0, .int n)] := hl
  refine lv_iconst (v := 0) hx hb dX12_bytesIn_0 (by decide) ?_
  refine lv_istore_n (lv' := [(1, .int 0), (0, .int n)]) hx hb dX12_bytesIn_1 rfl hl (by decide) rfl (fun ls hl => ?_)
  refine lv_bipush (v := 24) hx hb dX12_bytesIn_2 (by decide) ?_
  refine lv_istore_n (lv' := [(2, .int 24), (1, .int 0), (0, .int n)]) hx hb dX12_bytesIn_4 rfl hl (by decide) rfl (fun ls hl => ?_)
  have hL4 : ∀ (j : Nat) (ls : Array Slot), j = nbN n → lv_has ls 3 [(2, .int (-8)), (1, .int (nI j)), (0, .int n)] → W p l e (headSpec v_c_bytesIn ({ frames := 0, cells := 0, slots := 0, locals := 0 })).room s m ([.int n] : List Value).toArray below meth c s.heap [] 0 0 (MQ below (va_Qi (S := Unit) (fun r _ => r = nI (nbN n)) (fun _ _ => True) (fun _ => False)) ([.int n] : List Value).toArray s 0 0 (fun _ => False)) (F0 m 5 ls []) := by
    intro j ls hj hl
    refine lv_iload_n hx hb dX12_bytesIn_5 rfl (lv_at hl 0 rfl) ?_
    refine lv_if_lt (tgt := 28) hx hb dX12_bytesIn_6 (by decide) (fun c1 => ?_) (fun c1 => by first | exact absurd c1 (by decide) | exact absurd (by decide) c1)
    refine lv_iload_n hx hb dX12_bytesIn_28 rfl (lv_at hl 1 rfl) ?_
    exact W.iret (v := nI j) hx hb hr (fun t ht hW => ⟨⟨nI j, (), rfl, by rw [← hj], trivial⟩, hS.F ht⟩) hS.2.2 dX12_bytesIn_29
  have hL3 : ∀ (j : Nat) (ls : Array Slot), j + bN (ub_by n 0) = nbN n → lv_has ls 3 [(2, .int 0), (1, .int (nI j)), (0, .int n)] → W p l e (headSpec v_c_bytesIn ({ frames := 0, cells := 0, slots := 0, locals := 0 })).room s m ([.int n] : List Value).toArray below meth c s.heap [] 0 0 (MQ below (va_Qi (S := Unit) (fun r _ => r = nI (nbN n)) (fun _ _ => True) (fun _ => False)) ([.int n] : List Value).toArray s 0 0 (fun _ => False)) (F0 m 5 ls []) := by
    intro j ls hj hl
    refine lv_iload_n hx hb dX12_bytesIn_5 rfl (lv_at hl 0 rfl) ?_
    refine lv_if_lt (tgt := 28) hx hb dX12_bytesIn_6 (by decide) (fun c2 => by first | exact absurd c2 (by decide) | exact absurd (by decide) c2) (fun c2 => ?_)
    refine lv_iload_n hx hb dX12_bytesIn_9 rfl (lv_at hl 2 rfl) ?_
    refine lv_iload_n hx hb dX12_bytesIn_10 rfl (lv_at hl 0 rfl) ?_
    refine lv_iushr hx hb dX12_bytesIn_11 rfl ?_
    refine lv_sipush (v := 255) hx hb dX12_bytesIn_12 (by decide) ?_
    refine lv_iand hx hb dX12_bytesIn_15 ?_
    refine lv_if_eq (tgt := 22) hx hb dX12_bytesIn_16 (by decide) (fun c3 => ?_) (fun c3 => ?_)
    · --((n.toUInt32 >>> ((0 : Int32).toUInt32 &&& Int32.toUInt32 31)).toInt32) &&& (255 : Int32) = 0
      have hz : bN (ub_by n 0) = 0 := bN_0 c3
      rw [hz, Nat.add_zero] at hj
      refine lv_iinc (v := -8) (lv' := [(2, .int (-8)), (1, .int (nI j)), (0, .int n)]) hx hb dX12_bytesIn_22 hl (k := 0) rfl (by decide) (by decide) rfl (fun ls hl => ?_)
      refine lv_goto (tgt := 5) hx hb dX12_bytesIn_25 (by decide) ?_
      exact hL4 (j) ls hj (lv_sub hl [0, 1, 2] rfl)
    · --¬ ((n.toUInt32 >>> ((0 : Int32).toUInt32 &&& Int32.toUInt32 31)).toInt32) &&& (255 : Int32) = 0
      have hz : bN (ub_by n 0) = 1 := bN_1 c3
      rw [hz] at hj
      refine lv_iinc (v := nI (j + 1)) (lv' := [(1, .int (nI (j + 1))), (2, .int 0), (0, .int n)]) hx hb dX12_bytesIn_19 hl (k := 1) rfl (nI_1 _) (by decide) rfl (fun ls hl => ?_)
      refine lv_iinc (v := -8) (lv' := [(2, .int (-8)), (1, .int (nI (j + 1))), (0, .int n)]) hx hb dX12_bytesIn_22 hl (k := 1) rfl (by decide) (by decide) rfl (fun ls hl => ?_)
      refine lv_goto (tgt := 5) hx hb dX12_bytesIn_25 (by decide) ?_
      exact hL4 ((j + 1)) ls hj (lv_sub hl [0, 1, 2] rfl)
  have hL2 : ∀ (j : Nat) (ls : Array Slot), j + bN (ub_by n 8) + bN (ub_by n 0) = nbN n → lv_has ls 3 [(2, .int 8), (1, .int (nI j)), (0, .int n)] → W p l e (headSpec v_c_bytesIn ({ frames := 0, cells := 0, slots := 0, locals := 0 })).room s m ([.int n] : List Value).toArray below meth c s.heap [] 0 0 (MQ below (va_Qi (S := Unit) (fun r _ => r = nI (nbN n)) (fun _ _ => True) (fun _ => False)) ([.int n] : List Value).toArray s 0 0 (fun _ => False)) (F0 m 5 ls []) := by
    intro j ls hj hl
    refine lv_iload_n hx hb dX12_bytesIn_5 rfl (lv_at hl 0 rfl) ?_
    refine lv_if_lt (tgt := 28) hx hb dX12_bytesIn_6 (by decide) (fun c4 => by first | exact absurd c4 (by decide) | exact absurd (by decide) c4) (fun c4 => ?_)
    refine lv_iload_n hx hb dX12_bytesIn_9 rfl (lv_at hl 2 rfl) ?_
    refine lv_iload_n hx hb dX12_bytesIn_10 rfl (lv_at hl 0 rfl) ?_
    refine lv_iushr hx hb dX12_bytesIn_11 rfl ?_
    refine lv_sipush (v := 255) hx hb dX12_bytesIn_12 (by decide) ?_
    refine lv_iand hx hb dX12_bytesIn_15 ?_
    refine lv_if_eq (tgt := 22) hx hb dX12_bytesIn_16 (by decide) (fun c5 => ?_) (fun c5 => ?_)
    · --((n.toUInt32 >>> ((8 : Int32).toUInt32 &&& Int32.toUInt32 31)).toInt32) &&& (255 : Int32) = 0
      have hz : bN (ub_by n 8) = 0 := bN_0 c5
      rw [hz, Nat.add_zero] at hj
      refine lv_iinc (v := 0) (lv' := [(2, .int 0), (1, .int (nI j)), (0, .int n)]) hx hb dX12_bytesIn_22 hl (k := 0) rfl (by decide) (by decide) rfl (fun ls hl => ?_)
      refine lv_goto (tgt := 5) hx hb dX12_bytesIn_25 (by decide) ?_
      exact hL3 (j) ls hj (lv_sub hl [0, 1, 2] rfl)
    · --¬ ((n.toUInt32 >>> ((8 : Int32).toUInt32 &&& Int32.toUInt32 31)).toInt32) &&& (255 : Int32) = 0
      have hz : bN (ub_by n 8) = 1 := bN_1 c5
      rw [hz] at hj
      refine lv_iinc (v := nI (j + 1)) (lv' := [(1, .int (nI (j + 1))), (2, .int 8), (0, .int n)]) hx hb dX12_bytesIn_19 hl (k := 1) rfl (nI_1 _) (by decide) rfl (fun ls hl => ?_)
      refine lv_iinc (v := 0) (lv' := [(2, .int 0), (1, .int (nI (j + 1))), (0, .int n)]) hx hb dX12_bytesIn_22 hl (k := 1) rfl (by decide) (by decide) rfl (fun ls hl => ?_)
      refine lv_goto (tgt := 5) hx hb dX12_bytesIn_25 (by decide) ?_
      exact hL3 ((j + 1)) ls hj (lv_sub hl [0, 1, 2] rfl)
  have hL1 : ∀ (j : Nat) (ls : Array Slot), j + bN (ub_by n 16) + bN (ub_by n 8) + bN (ub_by n 0) = nbN n → lv_has ls 3 [(2, .int 16), (1, .int (nI j)), (0, .int n)] → W p l e (headSpec v_c_bytesIn ({ frames := 0, cells := 0, slots := 0, locals := 0 })).room s m ([.int n] : List Value).toArray below meth c s.heap [] 0 0 (MQ below (va_Qi (S := Unit) (fun r _ => r = nI (nbN n)) (fun _ _ => True) (fun _ => False)) ([.int n] : List Value).toArray s 0 0 (fun _ => False)) (F0 m 5 ls []) := by
    intro j ls hj hl
    refine lv_iload_n hx hb dX12_bytesIn_5 rfl (lv_at hl 0 rfl) ?_
    refine lv_if_lt (tgt := 28) hx hb dX12_bytesIn_6 (by decide) (fun c6 => by first | exact absurd c6 (by decide) | exact absurd (by decide) c6) (fun c6 => ?_)
    refine lv_iload_n hx hb dX12_bytesIn_9 rfl (lv_at hl 2 rfl) ?_
    refine lv_iload_n hx hb dX12_bytesIn_10 rfl (lv_at hl 0 rfl) ?_
    refine lv_iushr hx hb dX12_bytesIn_11 rfl ?_
    refine lv_sipush (v := 255) hx hb dX12_bytesIn_12 (by decide) ?_
    refine lv_iand hx hb dX12_bytesIn_15 ?_
    refine lv_if_eq (tgt := 22) hx hb dX12_bytesIn_16 (by decide) (fun c7 => ?_) (fun c7 => ?_)
    · --((n.toUInt32 >>> ((16 : Int32).toUInt32 &&& Int32.toUInt32 31)).toInt32) &&& (255 : Int32) = 0
      have hz : bN (ub_by n 16) = 0 := bN_0 c7
      rw [hz, Nat.add_zero] at hj
      refine lv_iinc (v := 8) (lv' := [(2, .int 8), (1, .int (nI j)), (0, .int n)]) hx hb dX12_bytesIn_22 hl (k := 0) rfl (by decide) (by decide) rfl (fun ls hl => ?_)
      refine lv_goto (tgt := 5) hx hb dX12_bytesIn_25 (by decide) ?_
      exact hL2 (j) ls hj (lv_sub hl [0, 1, 2] rfl)
    · --¬ ((n.toUInt32 >>> ((16 : Int32).toUInt32 &&& Int32.toUInt32 31)).toInt32) &&& (255 : Int32) = 0
      have hz : bN (ub_by n 16) = 1 := bN_1 c7
      rw [hz] at hj
      refine lv_iinc (v := nI (j + 1)) (lv' := [(1, .int (nI (j + 1))), (2, .int 16), (0, .int n)]) hx hb dX12_bytesIn_19 hl (k := 1) rfl (nI_1 _) (by decide) rfl (fun ls hl => ?_)
      refine lv_iinc (v := 8) (lv' := [(2, .int 8), (1, .int (nI (j + 1))), (0, .int n)]) hx hb dX12_bytesIn_22 hl (k := 1) rfl (by decide) (by decide) rfl (fun ls hl => ?_)
      refine lv_goto (tgt := 5) hx hb dX12_bytesIn_25 (by decide) ?_
      exact hL2 ((j + 1)) ls hj (lv_sub hl [0, 1, 2] rfl)
  have hL0 : ∀ (j : Nat) (ls : Array Slot), j + bN (ub_by n 24) + bN (ub_by n 16) + bN (ub_by n 8) + bN (ub_by n 0) = nbN n → lv_has ls 3 [(2, .int 24), (1, .int (nI j)), (0, .int n)] → W p l e (headSpec v_c_bytesIn ({ frames := 0, cells := 0, slots := 0, locals := 0 })).room s m ([.int n] : List Value).toArray below meth c s.heap [] 0 0 (MQ below (va_Qi (S := Unit) (fun r _ => r = nI (nbN n)) (fun _ _ => True) (fun _ => False)) ([.int n] : List Value).toArray s 0 0 (fun _ => False)) (F0 m 5 ls []) := by
    intro j ls hj hl
    refine lv_iload_n hx hb dX12_bytesIn_5 rfl (lv_at hl 0 rfl) ?_
    refine lv_if_lt (tgt := 28) hx hb dX12_bytesIn_6 (by decide) (fun c8 => by first | exact absurd c8 (by decide) | exact absurd (by decide) c8) (fun c8 => ?_)
    refine lv_iload_n hx hb dX12_bytesIn_9 rfl (lv_at hl 2 rfl) ?_
    refine lv_iload_n hx hb dX12_bytesIn_10 rfl (lv_at hl 0 rfl) ?_
    refine lv_iushr hx hb dX12_bytesIn_11 rfl ?_
    refine lv_sipush (v := 255) hx hb dX12_bytesIn_12 (by decide) ?_
    refine lv_iand hx hb dX12_bytesIn_15 ?_
    refine lv_if_eq (tgt := 22) hx hb dX12_bytesIn_16 (by decide) (fun c9 => ?_) (fun c9 => ?_)
    · --((n.toUInt32 >>> ((24 : Int32).toUInt32 &&& Int32.toUInt32 31)).toInt32) &&& (255 : Int32) = 0
      have hz : bN (ub_by n 24) = 0 := bN_0 c9
      rw [hz, Nat.add_zero] at hj
      refine lv_iinc (v := 16) (lv' := [(2, .int 16), (1, .int (nI j)), (0, .int n)]) hx hb dX12_bytesIn_22 hl (k := 0) rfl (by decide) (by decide) rfl (fun ls hl => ?_)
      refine lv_goto (tgt := 5) hx hb dX12_bytesIn_25 (by decide) ?_
      exact hL1 (j) ls hj (lv_sub hl [0, 1, 2] rfl)
    · --¬ ((n.toUInt32 >>> ((24 : Int32).toUInt32 &&& Int32.toUInt32 31)).toInt32) &&& (255 : Int32) = 0
      have hz : bN (ub_by n 24) = 1 := bN_1 c9
      rw [hz] at hj
      refine lv_iinc (v := nI (j + 1)) (lv' := [(1, .int (nI (j + 1))), (2, .int 24), (0, .int n)]) hx hb dX12_bytesIn_19 hl (k := 1) rfl (nI_1 _) (by decide) rfl (fun ls hl => ?_)
      refine lv_iinc (v := 16) (lv' := [(2, .int 16), (1, .int (nI (j + 1))), (0, .int n)]) hx hb dX12_bytesIn_22 hl (k := 1) rfl (by decide) (by decide) rfl (fun ls hl => ?_)
      refine lv_goto (tgt := 5) hx hb dX12_bytesIn_25 (by decide) ?_
      exact hL1 ((j + 1)) ls hj (lv_sub hl [0, 1, 2] rfl)
  exact hL0 0 ls (by unfold nbN; omega) (lv_sub hl [0, 1, 2] rfl)
def A_m_bytesIn : List Cond := []
def v_m_bytesIn : List Cond := .code yX13_bytesIn cX13_bytesIn 3 (some .int) :: (A_m_bytesIn)
set_option maxHeartbeats 4000000 in
set_option maxRecDepth 100000 in
theorem m_bytesIn (l : Launch) (n : Int32)  : Met l yX13_bytesIn v_m_bytesIn ({ frames := 0, cells := 0, slots := 0, locals := 0 }) (va_Pc [.int n] (fun _ => True)) (va_Qi (S := Unit) (fun r _ => r = nI (nbN n)) (fun _ _ => True) (fun _ => False)) 0 0 (fun _ => False) := by
  refine Met.ofW (cc := cX13_bytesIn) (maxL := 3) (ret := (some .int)) (by decide) rfl ?_
  intro p e s m args below meth c s₁ B hml hv
  obtain ⟨rfl, -⟩ := hv
  have hx := B.exec
  have hb := B.bytes
  have hr := B.returns
  have hts := atoms_spec (ws := v_m_bytesIn) B.pre
  have hown : s.vm.findClass RX13 = some m.cls := findClass_of_methodNamed B.named
  have hlocks := B.notSynchronized
  have hS : va_S (fun _ : Nat => False) s.heap s.heap [] := va_S.rf
  have hl := lv_entry ([.int n]) (n := 3) (Nat.le_of_ble_eq_true rfl)
  rw [lg_entry_eq]
  generalize (lg_sl ([.int n]) ++ List.replicate (3 - (lg_sl ([.int n])).length) Slot.unset).toArray = ls at hl ⊢
  have hl : lv_has ls 3 [(0, .int n)] := hl
  refine lv_iconst (v := 0) hx hb dX13_bytesIn_0 (by decide) ?_
  refine lv_istore_n (lv' := [(1, .int 0), (0, .int n)]) hx hb dX13_bytesIn_1 rfl hl (by decide) rfl (fun ls hl => ?_)
  refine lv_bipush (v := 24) hx hb dX13_bytesIn_2 (by decide) ?_
  refine lv_istore_n (lv' := [(2, .int 24), (1, .int 0), (0, .int n)]) hx hb dX13_bytesIn_4 rfl hl (by decide) rfl (fun ls hl => ?_)
  have hL4 : ∀ (j : Nat) (ls : Array Slot), j = nbN n → lv_has ls 3 [(2, .int (-8)), (1, .int (nI j)), (0, .int n)] → W p l e (headSpec v_m_bytesIn ({ frames := 0, cells := 0, slots := 0, locals := 0 })).room s m ([.int n] : List Value).toArray below meth c s.heap [] 0 0 (MQ below (va_Qi (S := Unit) (fun r _ => r = nI (nbN n)) (fun _ _ => True) (fun _ => False)) ([.int n] : List Value).toArray s 0 0 (fun _ => False)) (F0 m 5 ls []) := by
    intro j ls hj hl
    refine lv_iload_n hx hb dX13_bytesIn_5 rfl (lv_at hl 0 rfl) ?_
    refine lv_if_lt (tgt := 33) hx hb dX13_bytesIn_6 (by decide) (fun c1 => ?_) (fun c1 => by first | exact absurd c1 (by decide) | exact absurd (by decide) c1)
    refine lv_iload_n hx hb dX13_bytesIn_33 rfl (lv_at hl 1 rfl) ?_
    exact W.iret (v := nI j) hx hb hr (fun t ht hW => ⟨⟨nI j, (), rfl, by rw [← hj], trivial⟩, hS.F ht⟩) hS.2.2 dX13_bytesIn_34
  have hL3 : ∀ (j : Nat) (ls : Array Slot), j + bN (ub_by n 0) = nbN n → lv_has ls 3 [(2, .int 0), (1, .int (nI j)), (0, .int n)] → W p l e (headSpec v_m_bytesIn ({ frames := 0, cells := 0, slots := 0, locals := 0 })).room s m ([.int n] : List Value).toArray below meth c s.heap [] 0 0 (MQ below (va_Qi (S := Unit) (fun r _ => r = nI (nbN n)) (fun _ _ => True) (fun _ => False)) ([.int n] : List Value).toArray s 0 0 (fun _ => False)) (F0 m 5 ls []) := by
    intro j ls hj hl
    refine lv_iload_n hx hb dX13_bytesIn_5 rfl (lv_at hl 0 rfl) ?_
    refine lv_if_lt (tgt := 33) hx hb dX13_bytesIn_6 (by decide) (fun c2 => by first | exact absurd c2 (by decide) | exact absurd (by decide) c2) (fun c2 => ?_)
    refine lv_iload_n hx hb dX13_bytesIn_9 rfl (lv_at hl 1 rfl) ?_
    refine lv_iload_n hx hb dX13_bytesIn_10 rfl (lv_at hl 2 rfl) ?_
    refine lv_iload_n hx hb dX13_bytesIn_11 rfl (lv_at hl 0 rfl) ?_
    refine lv_ishr hx hb dX13_bytesIn_12 ?_
    refine lv_sipush (v := 255) hx hb dX13_bytesIn_13 (by decide) ?_
    refine lv_iand hx hb dX13_bytesIn_16 ?_
    refine lv_if_eq (tgt := 24) hx hb dX13_bytesIn_17 (by decide) (fun c3 => ?_) (fun c3 => ?_)
    · --(n >>> ((0 : Int32) &&& 31)) &&& (255 : Int32) = 0
      have hz : bN (ub_by n 0) = 0 := bN_0 ((ub_sh 0 (by decide) n).symm.trans c3)
      rw [hz, Nat.add_zero] at hj
      refine lv_iconst (v := 0) hx hb dX13_bytesIn_24 (by decide) ?_
      refine lv_iadd hx hb dX13_bytesIn_25 ?_
      refine lv_topi (fun y4 ey4 => ?_)
      obtain rfl : (nI j : Int32) = y4 := (ey4.trans (Int32.add_zero _)).symm
      refine lv_istore_n (lv' := [(1, .int (nI j)), (2, .int 0), (0, .int n)]) hx hb dX13_bytesIn_26 rfl hl (by decide) rfl (fun ls hl => ?_)
      refine lv_iinc (v := -8) (lv' := [(2, .int (-8)), (1, .int (nI j)), (0, .int n)]) hx hb dX13_bytesIn_27 hl (k := 1) rfl (by decide) (by decide) rfl (fun ls hl => ?_)
      refine lv_goto (tgt := 5) hx hb dX13_bytesIn_30 (by decide) ?_
      exact hL4 (j) ls hj (lv_sub hl [0, 1, 2] rfl)
    · --¬ (n >>> ((0 : Int32) &&& 31)) &&& (255 : Int32) = 0
      have hz : bN (ub_by n 0) = 1 := bN_1 (fun hh => c3 ((ub_sh 0 (by decide) n).trans hh))
      rw [hz] at hj
      refine lv_iconst (v := 1) hx hb dX13_bytesIn_20 (by decide) ?_
      refine lv_goto (tgt := 25) hx hb dX13_bytesIn_21 (by decide) ?_
      refine lv_iadd hx hb dX13_bytesIn_25 ?_
      refine lv_topi (fun y5 ey5 => ?_)
      obtain rfl : (nI (j + 1) : Int32) = y5 := (ey5.trans (nI_1 _)).symm
      refine lv_istore_n (lv' := [(1, .int (nI (j + 1))), (2, .int 0), (0, .int n)]) hx hb dX13_bytesIn_26 rfl hl (by decide) rfl (fun ls hl => ?_)
      refine lv_iinc (v := -8) (lv' := [(2, .int (-8)), (1, .int (nI (j + 1))), (0, .int n)]) hx hb dX13_bytesIn_27 hl (k := 1) rfl (by decide) (by decide) rfl (fun ls hl => ?_)
      refine lv_goto (tgt := 5) hx hb dX13_bytesIn_30 (by decide) ?_
      exact hL4 ((j + 1)) ls hj (lv_sub hl [0, 1, 2] rfl)
  have hL2 : ∀ (j : Nat) (ls : Array Slot), j + bN (ub_by n 8) + bN (ub_by n 0) = nbN n → lv_has ls 3 [(2, .int 8), (1, .int (nI j)), (0, .int n)] → W p l e (headSpec v_m_bytesIn ({ frames := 0, cells := 0, slots := 0, locals := 0 })).room s m ([.int n] : List Value).toArray below meth c s.heap [] 0 0 (MQ below (va_Qi (S := Unit) (fun r _ => r = nI (nbN n)) (fun _ _ => True) (fun _ => False)) ([.int n] : List Value).toArray s 0 0 (fun _ => False)) (F0 m 5 ls []) := by
    intro j ls hj hl
    refine lv_iload_n hx hb dX13_bytesIn_5 rfl (lv_at hl 0 rfl) ?_
    refine lv_if_lt (tgt := 33) hx hb dX13_bytesIn_6 (by decide) (fun c6 => by first | exact absurd c6 (by decide) | exact absurd (by decide) c6) (fun c6 => ?_)
    refine lv_iload_n hx hb dX13_bytesIn_9 rfl (lv_at hl 1 rfl) ?_
    refine lv_iload_n hx hb dX13_bytesIn_10 rfl (lv_at hl 2 rfl) ?_
    refine lv_iload_n hx hb dX13_bytesIn_11 rfl (lv_at hl 0 rfl) ?_
    refine lv_ishr hx hb dX13_bytesIn_12 ?_
    refine lv_sipush (v := 255) hx hb dX13_bytesIn_13 (by decide) ?_
    refine lv_iand hx hb dX13_bytesIn_16 ?_
    refine lv_if_eq (tgt := 24) hx hb dX13_bytesIn_17 (by decide) (fun c7 => ?_) (fun c7 => ?_)
    · --(n >>> ((8 : Int32) &&& 31)) &&& (255 : Int32) = 0
      have hz : bN (ub_by n 8) = 0 := bN_0 ((ub_sh 8 (by decide) n).symm.trans c7)
      rw [hz, Nat.add_zero] at hj
      refine lv_iconst (v := 0) hx hb dX13_bytesIn_24 (by decide) ?_
      refine lv_iadd hx hb dX13_bytesIn_25 ?_
      refine lv_topi (fun y8 ey8 => ?_)
      obtain rfl : (nI j : Int32) = y8 := (ey8.trans (Int32.add_zero _)).symm
      refine lv_istore_n (lv' := [(1, .int (nI j)), (2, .int 8), (0, .int n)]) hx hb dX13_bytesIn_26 rfl hl (by decide) rfl (fun ls hl => ?_)
      refine lv_iinc (v := 0) (lv' := [(2, .int 0), (1, .int (nI j)), (0, .int n)]) hx hb dX13_bytesIn_27 hl (k := 1) rfl (by decide) (by decide) rfl (fun ls hl => ?_)
      refine lv_goto (tgt := 5) hx hb dX13_bytesIn_30 (by decide) ?_
      exact hL3 (j) ls hj (lv_sub hl [0, 1, 2] rfl)
    · --¬ (n >>> ((8 : Int32) &&& 31)) &&& (255 : Int32) = 0
      have hz : bN (ub_by n 8) = 1 := bN_1 (fun hh => c7 ((ub_sh 8 (by decide) n).trans hh))
      rw [hz] at hj
      refine lv_iconst (v := 1) hx hb dX13_bytesIn_20 (by decide) ?_
      refine lv_goto (tgt := 25) hx hb dX13_bytesIn_21 (by decide) ?_
      refine lv_iadd hx hb dX13_bytesIn_25 ?_
      refine lv_topi (fun y9 ey9 => ?_)
      obtain rfl : (nI (j + 1) : Int32) = y9 := (ey9.trans (nI_1 _)).symm
      refine lv_istore_n (lv' := [(1, .int (nI (j + 1))), (2, .int 8), (0, .int n)]) hx hb dX13_bytesIn_26 rfl hl (by decide) rfl (fun ls hl => ?_)
      refine lv_iinc (v := 0) (lv' := [(2, .int 0), (1, .int (nI (j + 1))), (0, .int n)]) hx hb dX13_bytesIn_27 hl (k := 1) rfl (by decide) (by decide) rfl (fun ls hl => ?_)
      refine lv_goto (tgt := 5) hx hb dX13_bytesIn_30 (by decide) ?_
      exact hL3 ((j + 1)) ls hj (lv_sub hl [0, 1, 2] rfl)
  have hL1 : ∀ (j : Nat) (ls : Array Slot), j + bN (ub_by n 16) + bN (ub_by n 8) + bN (ub_by n 0) = nbN n → lv_has ls 3 [(2, .int 16), (1, .int (nI j)), (0, .int n)] → W p l e (headSpec v_m_bytesIn ({ frames := 0, cells := 0, slots := 0, locals := 0 })).room s m ([.int n] : List Value).toArray below meth c s.heap [] 0 0 (MQ below (va_Qi (S := Unit) (fun r _ => r = nI (nbN n)) (fun _ _ => True) (fun _ => False)) ([.int n] : List Value).toArray s 0 0 (fun _ => False)) (F0 m 5 ls []) := by
    intro j ls hj hl
    refine lv_iload_n hx hb dX13_bytesIn_5 rfl (lv_at hl 0 rfl) ?_
    refine lv_if_lt (tgt := 33) hx hb dX13_bytesIn_6 (by decide) (fun c10 => by first | exact absurd c10 (by decide) | exact absurd (by decide) c10) (fun c10 => ?_)
    refine lv_iload_n hx hb dX13_bytesIn_9 rfl (lv_at hl 1 rfl) ?_
    refine lv_iload_n hx hb dX13_bytesIn_10 rfl (lv_at hl 2 rfl) ?_
    refine lv_iload_n hx hb dX13_bytesIn_11 rfl (lv_at hl 0 rfl) ?_
    refine lv_ishr hx hb dX13_bytesIn_12 ?_
    refine lv_sipush (v := 255) hx hb dX13_bytesIn_13 (by decide) ?_
    refine lv_iand hx hb dX13_bytesIn_16 ?_
    refine lv_if_eq (tgt := 24) hx hb dX13_bytesIn_17 (by decide) (fun c11 => ?_) (fun c11 => ?_)
    · --(n >>> ((16 : Int32) &&& 31)) &&& (255 : Int32) = 0
      have hz : bN (ub_by n 16) = 0 := bN_0 ((ub_sh 16 (by decide) n).symm.trans c11)
      rw [hz, Nat.add_zero] at hj
      refine lv_iconst (v := 0) hx hb dX13_bytesIn_24 (by decide) ?_
      refine lv_iadd hx hb dX13_bytesIn_25 ?_
      refine lv_topi (fun y12 ey12 => ?_)
      obtain rfl : (nI j : Int32) = y12 := (ey12.trans (Int32.add_zero _)).symm
      refine lv_istore_n (lv' := [(1, .int (nI j)), (2, .int 16), (0, .int n)]) hx hb dX13_bytesIn_26 rfl hl (by decide) rfl (fun ls hl => ?_)
      refine lv_iinc (v := 8) (lv' := [(2, .int 8), (1, .int (nI j)), (0, .int n)]) hx hb dX13_bytesIn_27 hl (k := 1) rfl (by decide) (by decide) rfl (fun ls hl => ?_)
      refine lv_goto (tgt := 5) hx hb dX13_bytesIn_30 (by decide) ?_
      exact hL2 (j) ls hj (lv_sub hl [0, 1, 2] rfl)
    · --¬ (n >>> ((16 : Int32) &&& 31)) &&& (255 : Int32) = 0
      have hz : bN (ub_by n 16) = 1 := bN_1 (fun hh => c11 ((ub_sh 16 (by decide) n).trans hh))
      rw [hz] at hj
      refine lv_iconst (v := 1) hx hb dX13_bytesIn_20 (by decide) ?_
      refine lv_goto (tgt := 25) hx hb dX13_bytesIn_21 (by decide) ?_
      refine lv_iadd hx hb dX13_bytesIn_25 ?_
      refine lv_topi (fun y13 ey13 => ?_)
      obtain rfl : (nI (j + 1) : Int32) = y13 := (ey13.trans (nI_1 _)).symm
      refine lv_istore_n (lv' := [(1, .int (nI (j + 1))), (2, .int 16), (0, .int n)]) hx hb dX13_bytesIn_26 rfl hl (by decide) rfl (fun ls hl => ?_)
      refine lv_iinc (v := 8) (lv' := [(2, .int 8), (1, .int (nI (j + 1))), (0, .int n)]) hx hb dX13_bytesIn_27 hl (k := 1) rfl (by decide) (by decide) rfl (fun ls hl => ?_)
      refine lv_goto (tgt := 5) hx hb dX13_bytesIn_30 (by decide) ?_
      exact hL2 ((j + 1)) ls hj (lv_sub hl [0, 1, 2] rfl)
  have hL0 : ∀ (j : Nat) (ls : Array Slot), j + bN (ub_by n 24) + bN (ub_by n 16) + bN (ub_by n 8) + bN (ub_by n 0) = nbN n → lv_has ls 3 [(2, .int 24), (1, .int (nI j)), (0, .int n)] → W p l e (headSpec v_m_bytesIn ({ frames := 0, cells := 0, slots := 0, locals := 0 })).room s m ([.int n] : List Value).toArray below meth c s.heap [] 0 0 (MQ below (va_Qi (S := Unit) (fun r _ => r = nI (nbN n)) (fun _ _ => True) (fun _ => False)) ([.int n] : List Value).toArray s 0 0 (fun _ => False)) (F0 m 5 ls []) := by
    intro j ls hj hl
    refine lv_iload_n hx hb dX13_bytesIn_5 rfl (lv_at hl 0 rfl) ?_
    refine lv_if_lt (tgt := 33) hx hb dX13_bytesIn_6 (by decide) (fun c14 => by first | exact absurd c14 (by decide) | exact absurd (by decide) c14) (fun c14 => ?_)
    refine lv_iload_n hx hb dX13_bytesIn_9 rfl (lv_at hl 1 rfl) ?_
    refine lv_iload_n hx hb dX13_bytesIn_10 rfl (lv_at hl 2 rfl) ?_
    refine lv_iload_n hx hb dX13_bytesIn_11 rfl (lv_at hl 0 rfl) ?_
    refine lv_ishr hx hb dX13_bytesIn_12 ?_
    refine lv_sipush (v := 255) hx hb dX13_bytesIn_13 (by decide) ?_
    refine lv_iand hx hb dX13_bytesIn_16 ?_
    refine lv_if_eq (tgt := 24) hx hb dX13_bytesIn_17 (by decide) (fun c15 => ?_) (fun c15 => ?_)
    · --(n >>> ((24 : Int32) &&& 31)) &&& (255 : Int32) = 0
      have hz : bN (ub_by n 24) = 0 := bN_0 ((ub_sh 24 (by decide) n).symm.trans c15)
      rw [hz, Nat.add_zero] at hj
      refine lv_iconst (v := 0) hx hb dX13_bytesIn_24 (by decide) ?_
      refine lv_iadd hx hb dX13_bytesIn_25 ?_
      refine lv_topi (fun y16 ey16 => ?_)
      obtain rfl : (nI j : Int32) = y16 := (ey16.trans (Int32.add_zero _)).symm
      refine lv_istore_n (lv' := [(1, .int (nI j)), (2, .int 24), (0, .int n)]) hx hb dX13_bytesIn_26 rfl hl (by decide) rfl (fun ls hl => ?_)
      refine lv_iinc (v := 16) (lv' := [(2, .int 16), (1, .int (nI j)), (0, .int n)]) hx hb dX13_bytesIn_27 hl (k := 1) rfl (by decide) (by decide) rfl (fun ls hl => ?_)
      refine lv_goto (tgt := 5) hx hb dX13_bytesIn_30 (by decide) ?_
      exact hL1 (j) ls hj (lv_sub hl [0, 1, 2] rfl)
    · --¬ (n >>> ((24 : Int32) &&& 31)) &&& (255 : Int32) = 0
      have hz : bN (ub_by n 24) = 1 := bN_1 (fun hh => c15 ((ub_sh 24 (by decide) n).trans hh))
      rw [hz] at hj
      refine lv_iconst (v := 1) hx hb dX13_bytesIn_20 (by decide) ?_
      refine lv_goto (tgt := 25) hx hb dX13_bytesIn_21 (by decide) ?_
      refine lv_iadd hx hb dX13_bytesIn_25 ?_
      refine lv_topi (fun y17 ey17 => ?_)
      obtain rfl : (nI (j + 1) : Int32) = y17 := (ey17.trans (nI_1 _)).symm
      refine lv_istore_n (lv' := [(1, .int (nI (j + 1))), (2, .int 24), (0, .int n)]) hx hb dX13_bytesIn_26 rfl hl (by decide) rfl (fun ls hl => ?_)
      refine lv_iinc (v := 16) (lv' := [(2, .int 16), (1, .int (nI (j + 1))), (0, .int n)]) hx hb dX13_bytesIn_27 hl (k := 1) rfl (by decide) (by decide) rfl (fun ls hl => ?_)
      refine lv_goto (tgt := 5) hx hb dX13_bytesIn_30 (by decide) ?_
      exact hL1 ((j + 1)) ls hj (lv_sub hl [0, 1, 2] rfl)
  exact hL0 0 ls (by unfold nbN; omega) (lv_sub hl [0, 1, 2] rfl)
def A_c_put : List Cond := [.fieldLink RX10 27 "UnlikeBoats$Tape" "length" "I", .fieldLink RX10 9 "UnlikeBoats$Tape" "bytes" "[I"]
def v_c_put : List Cond := .code yX10_put cX10_put 4 none :: (A_c_put ++ wsX100)
theorem iw_c_put_X10 : ∀ w ∈ wsX100, w ∈ v_c_put := fun _ h => List.mem_cons_of_mem _ (List.mem_append_right _ (h))
set_option maxHeartbeats 4000000 in
set_option maxRecDepth 100000 in
theorem c_put (l : Launch) (dC : Nat → ClassId) (dI : Nat → Nat → Nat) (tp : Nat) (tby : Nat) (tst : Nat) (tla : Nat) (tbe : Nat) (tsu : Nat) (cI : ClassId) (g0 : Nat → Int32) (j0 : Nat) (J : Nat) (n : Int32) (sz : Nat) (hJ : j0 + nbN n = J) (hJ2 : J ≤ 200) : Met l yX10_put v_c_put ({ frames := 0, cells := 0, slots := 0, locals := 0 }) (va_Pc [.ref tp, .int n] (fun U => U.heap.size = sz ∧ va_P (dC, dI) vwCl [(tp, .inr (11, [.ref tby, .int (nI j0), .int 0, .int 0, .ref tst, .int 0, .ref tla, .ref tbe, .ref tsu, .int 0])), (tby, .inl (cI, 200, .inl g0))] U.heap ∧ va_K (dC, dI) vwCl [(cI, .int)] U ∧ va_D (fun _ => True) [(tp, .inr (11, [.ref tby, .int (nI j0), .int 0, .int 0, .ref tst, .int 0, .ref tla, .ref tbe, .ref tsu, .int 0])), (tby, .inl (cI, 200, .inl g0))])) (va_Qv (S := Nat → Int32) (fun _ => True) (fun u t => va_P (dC, dI) vwCl [(tp, .inr (11, [.ref tby, .int (nI J), .int 0, .int 0, .ref tst, .int 0, .ref tla, .ref tbe, .ref tsu, .int 0])), (tby, .inl (cI, 200, .inl u))] t.heap ∧ va_K (dC, dI) vwCl [(cI, .int)] t ∧ va_D (va_A [(tp, .inr (11, [.ref tby, .int (nI j0), .int 0, .int 0, .ref tst, .int 0, .ref tla, .ref tbe, .ref tsu, .int 0])), (tby, .inl (cI, 200, .inl g0))] sz) [(tp, .inr (11, [.ref tby, .int (nI J), .int 0, .int 0, .ref tst, .int 0, .ref tla, .ref tbe, .ref tsu, .int 0])), (tby, .inl (cI, 200, .inl u))]) (va_A [(tp, .inr (11, [.ref tby, .int (nI j0), .int 0, .int 0, .ref tst, .int 0, .ref tla, .ref tbe, .ref tsu, .int 0])), (tby, .inl (cI, 200, .inl g0))] sz)) 0 0 (va_A [(tp, .inr (11, [.ref tby, .int (nI j0), .int 0, .int 0, .ref tst, .int 0, .ref tla, .ref tbe, .ref tsu, .int 0])), (tby, .inl (cI, 200, .inl g0))] sz) := by
  refine Met.ofW (cc := cX10_put) (maxL := 4) (ret := none) (by decide) rfl ?_
  intro p e s m args below meth c s₁ B hml hv
  obtain ⟨rfl, hsz, hP, hK, hD0⟩ := hv
  have hx := B.exec
  have hb := B.bytes
  have hr := B.returns
  have hts := atoms_spec (ws := v_c_put) B.pre
  have hown : s.vm.findClass RX10 = some m.cls := findClass_of_methodNamed B.named
  have hlocks := B.notSynchronized
  subst hsz
  have hD := hD0.self (sz := s.heap.size)
  generalize hAe : va_A [(tp, .inr (11, [.ref tby, .int (nI j0), .int 0, .int 0, .ref tst, .int 0, .ref tla, .ref tbe, .ref tsu, .int 0])), (tby, .inl (cI, 200, .inl g0))] s.heap.size = A at hD ⊢
  have hA : ∀ q : Nat, s.heap.size ≤ q → A q := fun q h => by rw [← hAe]; exact Or.inr h
  have hS : va_S A s.heap s.heap [] := va_S.rf
  have hP : va_P (dC, dI) vwCl [(tp, .inr (11, [.ref tby, .int (nI j0), .int 0, .int 0, .ref tst, .int 0, .ref tla, .ref tbe, .ref tsu, .int 0])), (tby, .inl (cI, 200, .inl g0))] s.heap := hP
  have hl := lv_entry ([.ref tp, .int n]) (n := 4) (Nat.le_of_ble_eq_true rfl)
  rw [lg_entry_eq]
  generalize (lg_sl ([.ref tp, .int n]) ++ List.replicate (4 - (lg_sl ([.ref tp, .int n])).length) Slot.unset).toArray = ls at hl ⊢
  have hl : lv_has ls 4 [(0, .ref tp), (1, .int n)] := hl
  refine lv_bipush (v := 24) hx hb dX10_put_0 (by decide) ?_
  refine lv_istore_n (lv' := [(2, .int 24), (0, .ref tp), (1, .int n)]) hx hb dX10_put_2 rfl hl (by decide) rfl (fun ls hl => ?_)
  have hL4 : ∀ (j : Nat) (g : Nat → Int32) (H : Heap) (locs : List Loc) (ls : Array Slot), j = J → va_P (dC, dI) vwCl [(tp, .inr (11, [.ref tby, .int (nI j), .int 0, .int 0, .ref tst, .int 0, .ref tla, .ref tbe, .ref tsu, .int 0])), (tby, .inl (cI, 200, .inl g))] H → va_D A [(tp, .inr (11, [.ref tby, .int (nI j), .int 0, .int 0, .ref tst, .int 0, .ref tla, .ref tbe, .ref tsu, .int 0])), (tby, .inl (cI, 200, .inl g))] → va_S A s.heap H locs → lv_has ls 4 [(2, .int (-8)), (0, .ref tp), (1, .int n)] → W p l e (headSpec v_c_put ({ frames := 0, cells := 0, slots := 0, locals := 0 })).room s m ([.ref tp, .int n] : List Value).toArray below meth c H locs 0 0 (MQ below (va_Qv (S := Nat → Int32) (fun _ => True) (fun u t => va_P (dC, dI) vwCl [(tp, .inr (11, [.ref tby, .int (nI J), .int 0, .int 0, .ref tst, .int 0, .ref tla, .ref tbe, .ref tsu, .int 0])), (tby, .inl (cI, 200, .inl u))] t.heap ∧ va_K (dC, dI) vwCl [(cI, .int)] t ∧ va_D (A) [(tp, .inr (11, [.ref tby, .int (nI J), .int 0, .int 0, .ref tst, .int 0, .ref tla, .ref tbe, .ref tsu, .int 0])), (tby, .inl (cI, 200, .inl u))]) (A)) ([.ref tp, .int n] : List Value).toArray s 0 0 (A)) (F0 m 3 ls []) := by
    intro j g H locs ls hj hP hD hS hl
    refine lv_iload_n hx hb dX10_put_3 rfl (lv_at hl 0 rfl) ?_
    refine lv_if_lt (tgt := 57) hx hb dX10_put_4 (by decide) (fun c1 => ?_) (fun c1 => by first | exact absurd c1 (by decide) | exact absurd (by decide) c1)
    obtain rfl : j = J := hj
    have hP9 := hP.sub (ws' := [(tp, .inr (11, [.ref tby, .int (nI j), .int 0, .int 0, .ref tst, .int 0, .ref tla, .ref tbe, .ref tsu, .int 0])), (tby, .inl (cI, 200, .inl g))]) [0, 1] rfl
    have hD9 := hD.sub (ws' := [(tp, .inr (11, [.ref tby, .int (nI j), .int 0, .int 0, .ref tst, .int 0, .ref tla, .ref tbe, .ref tsu, .int 0])), (tby, .inl (cI, 200, .inl g))]) [0, 1] (by decide) rfl
    have hK9 := hK.sub (tys' := [(cI, .int)]) [0] rfl
    exact W.vret hx hb hr (fun t ht hW => ⟨⟨g, rfl, trivial, (by rw [ht]; exact hP9), va_K.moved hW.alike hK9, hD9⟩, hS.F ht⟩) hS.2.2 dX10_put_57
  have hL3 : ∀ (j : Nat) (g : Nat → Int32) (H : Heap) (locs : List Loc) (ls : Array Slot), j + bN (ub_by n 0) = J → va_P (dC, dI) vwCl [(tp, .inr (11, [.ref tby, .int (nI j), .int 0, .int 0, .ref tst, .int 0, .ref tla, .ref tbe, .ref tsu, .int 0])), (tby, .inl (cI, 200, .inl g))] H → va_D A [(tp, .inr (11, [.ref tby, .int (nI j), .int 0, .int 0, .ref tst, .int 0, .ref tla, .ref tbe, .ref tsu, .int 0])), (tby, .inl (cI, 200, .inl g))] → va_S A s.heap H locs → lv_has ls 4 [(2, .int 0), (0, .ref tp), (1, .int n)] → W p l e (headSpec v_c_put ({ frames := 0, cells := 0, slots := 0, locals := 0 })).room s m ([.ref tp, .int n] : List Value).toArray below meth c H locs 0 0 (MQ below (va_Qv (S := Nat → Int32) (fun _ => True) (fun u t => va_P (dC, dI) vwCl [(tp, .inr (11, [.ref tby, .int (nI J), .int 0, .int 0, .ref tst, .int 0, .ref tla, .ref tbe, .ref tsu, .int 0])), (tby, .inl (cI, 200, .inl u))] t.heap ∧ va_K (dC, dI) vwCl [(cI, .int)] t ∧ va_D (A) [(tp, .inr (11, [.ref tby, .int (nI J), .int 0, .int 0, .ref tst, .int 0, .ref tla, .ref tbe, .ref tsu, .int 0])), (tby, .inl (cI, 200, .inl u))]) (A)) ([.ref tp, .int n] : List Value).toArray s 0 0 (A)) (F0 m 3 ls []) := by
    intro j g H locs ls hj hP hD hS hl
    refine lv_iload_n hx hb dX10_put_3 rfl (lv_at hl 0 rfl) ?_
    refine lv_if_lt (tgt := 57) hx hb dX10_put_4 (by decide) (fun c2 => by first | exact absurd c2 (by decide) | exact absurd (by decide) c2) (fun c2 => ?_)
    refine lv_iload_n hx hb dX10_put_7 rfl (lv_at hl 2 rfl) ?_
    refine lv_iload_n hx hb dX10_put_8 rfl (lv_at hl 0 rfl) ?_
    refine lv_iushr hx hb dX10_put_9 rfl ?_
    refine lv_sipush (v := 255) hx hb dX10_put_10 (by decide) ?_
    refine lv_iand hx hb dX10_put_13 ?_
    refine lv_istore_n (lv' := [(3, .int (((n.toUInt32 >>> ((0 : Int32).toUInt32 &&& Int32.toUInt32 31)).toInt32) &&& (255 : Int32))), (2, .int 0), (0, .ref tp), (1, .int n)]) hx hb dX10_put_14 rfl hl (by decide) rfl (fun ls hl => ?_)
    refine lv_iload_n hx hb dX10_put_15 rfl (lv_at hl 0 rfl) ?_
    refine lv_if_eq (tgt := 51) hx hb dX10_put_16 (by decide) (fun c3 => ?_) (fun c3 => ?_)
    · --((n.toUInt32 >>> ((0 : Int32).toUInt32 &&& Int32.toUInt32 31)).toInt32) &&& (255 : Int32) = 0
      have hz : bN (ub_by n 0) = 0 := bN_0 c3
      rw [hz, Nat.add_zero] at hj
      refine lv_iinc (v := -8) (lv' := [(2, .int (-8)), (3, .int (((n.toUInt32 >>> ((0 : Int32).toUInt32 &&& Int32.toUInt32 31)).toInt32) &&& (255 : Int32))), (0, .ref tp), (1, .int n)]) hx hb dX10_put_51 hl (k := 1) rfl (by decide) (by decide) rfl (fun ls hl => ?_)
      refine lv_goto (tgt := 3) hx hb dX10_put_54 (by decide) ?_
      exact hL4 (j) g H _ ls hj hP hD hS (lv_sub hl [0, 2, 3] rfl)
    · --¬ ((n.toUInt32 >>> ((0 : Int32).toUInt32 &&& Int32.toUInt32 31)).toInt32) &&& (255 : Int32) = 0
      have hz : bN (ub_by n 0) = 1 := bN_1 c3
      rw [hz] at hj
      refine lv_aload_n hx hb dX10_put_19 rfl (lv_at hl 2 rfl) ?_
      refine va_get (D := (dC, dI)) (ci := 11) (v := .int (nI j)) (C := RX10) (T := TX10) (N := 10) hx hb hts iw_c_put_X10 hown hK hP 0 rfl rfl 1 (by decide) (hts (.fieldLink RX10 27 "UnlikeBoats$Tape" "length" "I") (List.mem_of_getElem? (i := 1) rfl)) (fun _ h9 => h9) rfl dX10_put_20 ?_
      refine lv_aload_n hx hb dX10_put_23 rfl (lv_at hl 2 rfl) ?_
      refine va_get (D := (dC, dI)) (ci := 11) (v := .ref tby) (C := RX10) (T := TX10) (N := 10) hx hb hts iw_c_put_X10 hown hK hP 0 rfl rfl 0 (by decide) (hts (.fieldLink RX10 9 "UnlikeBoats$Tape" "bytes" "[I") (List.mem_of_getElem? (i := 2) rfl)) (fun _ h9 => h9) rfl dX10_put_24 ?_
      refine va_alen (v := 200) hx hb hK hP 1 0 rfl rfl rfl dX10_put_27 ?_
      refine lv_icmp_ge (tgt := 51) hx hb dX10_put_28 (by decide) (fun c4 => by first | exact absurd c4 (nI_ge (a := j) (b := 200) (by omega) (by omega)) | exact absurd (nI_ge (a := j) (b := 200) (by omega) (by omega)) c4) (fun c4 => ?_)
      refine lv_aload_n hx hb dX10_put_31 rfl (lv_at hl 2 rfl) ?_
      refine va_get (D := (dC, dI)) (ci := 11) (v := .ref tby) (C := RX10) (T := TX10) (N := 10) hx hb hts iw_c_put_X10 hown hK hP 0 rfl rfl 0 (by decide) (hts (.fieldLink RX10 9 "UnlikeBoats$Tape" "bytes" "[I") (List.mem_of_getElem? (i := 2) rfl)) (fun _ h9 => h9) rfl dX10_put_32 ?_
      refine lv_aload_n hx hb dX10_put_35 rfl (lv_at hl 2 rfl) ?_
      refine va_get (D := (dC, dI)) (ci := 11) (v := .int (nI j)) (C := RX10) (T := TX10) (N := 10) hx hb hts iw_c_put_X10 hown hK hP 0 rfl rfl 1 (by decide) (hts (.fieldLink RX10 27 "UnlikeBoats$Tape" "length" "I") (List.mem_of_getElem? (i := 1) rfl)) (fun _ h9 => h9) rfl dX10_put_36 ?_
      refine lv_iload_n hx hb dX10_put_39 rfl (lv_at hl 0 rfl) ?_
      refine va_iast hx hb hK hP hD hS 1 0 rfl rfl (vp_in_nI (n := j) (N := 200) (by omega) (by omega)) dX10_put_40 (fun H locs hP hD hS => ?_)
      obtain ⟨f5, ef5⟩ : ∃ z9 : Nat → Int32, z9 = upd g (nI j).toNatClampNeg (((n.toUInt32 >>> ((0 : Int32).toUInt32 &&& Int32.toUInt32 31)).toInt32) &&& (255 : Int32)) := ⟨_, rfl⟩
      have hP : va_P (dC, dI) vwCl [(tp, .inr (11, [.ref tby, .int (nI j), .int 0, .int 0, .ref tst, .int 0, .ref tla, .ref tbe, .ref tsu, .int 0])), (tby, .inl (cI, 200, .inl (upd g (nI j).toNatClampNeg (((n.toUInt32 >>> ((0 : Int32).toUInt32 &&& Int32.toUInt32 31)).toInt32) &&& (255 : Int32)))))] H := hP
      have hD : va_D A [(tp, .inr (11, [.ref tby, .int (nI j), .int 0, .int 0, .ref tst, .int 0, .ref tla, .ref tbe, .ref tsu, .int 0])), (tby, .inl (cI, 200, .inl (upd g (nI j).toNatClampNeg (((n.toUInt32 >>> ((0 : Int32).toUInt32 &&& Int32.toUInt32 31)).toInt32) &&& (255 : Int32)))))] := hD
      rw [← ef5] at hP hD
      refine lv_aload_n hx hb dX10_put_41 rfl (lv_at hl 2 rfl) ?_
      refine lv_dup hx hb dX10_put_42 rfl ?_
      refine va_get (D := (dC, dI)) (ci := 11) (v := .int (nI j)) (C := RX10) (T := TX10) (N := 10) hx hb hts iw_c_put_X10 hown hK hP 0 rfl rfl 1 (by decide) (hts (.fieldLink RX10 27 "UnlikeBoats$Tape" "length" "I") (List.mem_of_getElem? (i := 1) rfl)) (fun _ h9 => h9) rfl dX10_put_43 ?_
      refine lv_iconst (v := 1) hx hb dX10_put_46 (by decide) ?_
      refine lv_iadd hx hb dX10_put_47 ?_
      refine lv_topi (fun y6 ey6 => ?_)
      obtain rfl : (nI (j + 1) : Int32) = y6 := (ey6.trans (nI_1 _)).symm
      refine va_put (D := (dC, dI)) (ci := 11) (v := .int (nI (j + 1))) (ty := .int) (C := RX10) (T := TX10) (N := 10) hx hb hts iw_c_put_X10 tyX10 tyX10_ok nmX10 hown hK hP hD hS 0 rfl rfl 1 (by decide) (hts (.fieldLink RX10 27 "UnlikeBoats$Tape" "length" "I") (List.mem_of_getElem? (i := 1) rfl)) (fun _ h9 => h9) rfl (by decide +kernel) rfl rfl (Nat.le_of_ble_eq_true rfl) dX10_put_48 (fun H locs hP hD hS => ?_)
      have hP : va_P (dC, dI) vwCl [(tp, .inr (11, [.ref tby, .int (nI (j + 1)), .int 0, .int 0, .ref tst, .int 0, .ref tla, .ref tbe, .ref tsu, .int 0])), (tby, .inl (cI, 200, .inl f5))] H := hP
      have hD : va_D A [(tp, .inr (11, [.ref tby, .int (nI (j + 1)), .int 0, .int 0, .ref tst, .int 0, .ref tla, .ref tbe, .ref tsu, .int 0])), (tby, .inl (cI, 200, .inl f5))] := hD
      refine lv_iinc (v := -8) (lv' := [(2, .int (-8)), (3, .int (((n.toUInt32 >>> ((0 : Int32).toUInt32 &&& Int32.toUInt32 31)).toInt32) &&& (255 : Int32))), (0, .ref tp), (1, .int n)]) hx hb dX10_put_51 hl (k := 1) rfl (by decide) (by decide) rfl (fun ls hl => ?_)
      refine lv_goto (tgt := 3) hx hb dX10_put_54 (by decide) ?_
      exact hL4 ((j + 1)) f5 H _ ls hj hP hD hS (lv_sub hl [0, 2, 3] rfl)
  have hL2 : ∀ (j : Nat) (g : Nat → Int32) (H : Heap) (locs : List Loc) (ls : Array Slot), j + bN (ub_by n 8) + bN (ub_by n 0) = J → va_P (dC, dI) vwCl [(tp, .inr (11, [.ref tby, .int (nI j), .int 0, .int 0, .ref tst, .int 0, .ref tla, .ref tbe, .ref tsu, .int 0])), (tby, .inl (cI, 200, .inl g))] H → va_D A [(tp, .inr (11, [.ref tby, .int (nI j), .int 0, .int 0, .ref tst, .int 0, .ref tla, .ref tbe, .ref tsu, .int 0])), (tby, .inl (cI, 200, .inl g))] → va_S A s.heap H locs → lv_has ls 4 [(2, .int 8), (0, .ref tp), (1, .int n)] → W p l e (headSpec v_c_put ({ frames := 0, cells := 0, slots := 0, locals := 0 })).room s m ([.ref tp, .int n] : List Value).toArray below meth c H locs 0 0 (MQ below (va_Qv (S := Nat → Int32) (fun _ => True) (fun u t => va_P (dC, dI) vwCl [(tp, .inr (11, [.ref tby, .int (nI J), .int 0, .int 0, .ref tst, .int 0, .ref tla, .ref tbe, .ref tsu, .int 0])), (tby, .inl (cI, 200, .inl u))] t.heap ∧ va_K (dC, dI) vwCl [(cI, .int)] t ∧ va_D (A) [(tp, .inr (11, [.ref tby, .int (nI J), .int 0, .int 0, .ref tst, .int 0, .ref tla, .ref tbe, .ref tsu, .int 0])), (tby, .inl (cI, 200, .inl u))]) (A)) ([.ref tp, .int n] : List Value).toArray s 0 0 (A)) (F0 m 3 ls []) := by
    intro j g H locs ls hj hP hD hS hl
    refine lv_iload_n hx hb dX10_put_3 rfl (lv_at hl 0 rfl) ?_
    refine lv_if_lt (tgt := 57) hx hb dX10_put_4 (by decide) (fun c7 => by first | exact absurd c7 (by decide) | exact absurd (by decide) c7) (fun c7 => ?_)
    refine lv_iload_n hx hb dX10_put_7 rfl (lv_at hl 2 rfl) ?_
    refine lv_iload_n hx hb dX10_put_8 rfl (lv_at hl 0 rfl) ?_
    refine lv_iushr hx hb dX10_put_9 rfl ?_
    refine lv_sipush (v := 255) hx hb dX10_put_10 (by decide) ?_
    refine lv_iand hx hb dX10_put_13 ?_
    refine lv_istore_n (lv' := [(3, .int (((n.toUInt32 >>> ((8 : Int32).toUInt32 &&& Int32.toUInt32 31)).toInt32) &&& (255 : Int32))), (2, .int 8), (0, .ref tp), (1, .int n)]) hx hb dX10_put_14 rfl hl (by decide) rfl (fun ls hl => ?_)
    refine lv_iload_n hx hb dX10_put_15 rfl (lv_at hl 0 rfl) ?_
    refine lv_if_eq (tgt := 51) hx hb dX10_put_16 (by decide) (fun c8 => ?_) (fun c8 => ?_)
    · --((n.toUInt32 >>> ((8 : Int32).toUInt32 &&& Int32.toUInt32 31)).toInt32) &&& (255 : Int32) = 0
      have hz : bN (ub_by n 8) = 0 := bN_0 c8
      rw [hz, Nat.add_zero] at hj
      refine lv_iinc (v := 0) (lv' := [(2, .int 0), (3, .int (((n.toUInt32 >>> ((8 : Int32).toUInt32 &&& Int32.toUInt32 31)).toInt32) &&& (255 : Int32))), (0, .ref tp), (1, .int n)]) hx hb dX10_put_51 hl (k := 1) rfl (by decide) (by decide) rfl (fun ls hl => ?_)
      refine lv_goto (tgt := 3) hx hb dX10_put_54 (by decide) ?_
      exact hL3 (j) g H _ ls hj hP hD hS (lv_sub hl [0, 2, 3] rfl)
    · --¬ ((n.toUInt32 >>> ((8 : Int32).toUInt32 &&& Int32.toUInt32 31)).toInt32) &&& (255 : Int32) = 0
      have hz : bN (ub_by n 8) = 1 := bN_1 c8
      rw [hz] at hj
      refine lv_aload_n hx hb dX10_put_19 rfl (lv_at hl 2 rfl) ?_
      refine va_get (D := (dC, dI)) (ci := 11) (v := .int (nI j)) (C := RX10) (T := TX10) (N := 10) hx hb hts iw_c_put_X10 hown hK hP 0 rfl rfl 1 (by decide) (hts (.fieldLink RX10 27 "UnlikeBoats$Tape" "length" "I") (List.mem_of_getElem? (i := 1) rfl)) (fun _ h9 => h9) rfl dX10_put_20 ?_
      refine lv_aload_n hx hb dX10_put_23 rfl (lv_at hl 2 rfl) ?_
      refine va_get (D := (dC, dI)) (ci := 11) (v := .ref tby) (C := RX10) (T := TX10) (N := 10) hx hb hts iw_c_put_X10 hown hK hP 0 rfl rfl 0 (by decide) (hts (.fieldLink RX10 9 "UnlikeBoats$Tape" "bytes" "[I") (List.mem_of_getElem? (i := 2) rfl)) (fun _ h9 => h9) rfl dX10_put_24 ?_
      refine va_alen (v := 200) hx hb hK hP 1 0 rfl rfl rfl dX10_put_27 ?_
      refine lv_icmp_ge (tgt := 51) hx hb dX10_put_28 (by decide) (fun c9 => by first | exact absurd c9 (nI_ge (a := j) (b := 200) (by omega) (by omega)) | exact absurd (nI_ge (a := j) (b := 200) (by omega) (by omega)) c9) (fun c9 => ?_)
      refine lv_aload_n hx hb dX10_put_31 rfl (lv_at hl 2 rfl) ?_
      refine va_get (D := (dC, dI)) (ci := 11) (v := .ref tby) (C := RX10) (T := TX10) (N := 10) hx hb hts iw_c_put_X10 hown hK hP 0 rfl rfl 0 (by decide) (hts (.fieldLink RX10 9 "UnlikeBoats$Tape" "bytes" "[I") (List.mem_of_getElem? (i := 2) rfl)) (fun _ h9 => h9) rfl dX10_put_32 ?_
      refine lv_aload_n hx hb dX10_put_35 rfl (lv_at hl 2 rfl) ?_
      refine va_get (D := (dC, dI)) (ci := 11) (v := .int (nI j)) (C := RX10) (T := TX10) (N := 10) hx hb hts iw_c_put_X10 hown hK hP 0 rfl rfl 1 (by decide) (hts (.fieldLink RX10 27 "UnlikeBoats$Tape" "length" "I") (List.mem_of_getElem? (i := 1) rfl)) (fun _ h9 => h9) rfl dX10_put_36 ?_
      refine lv_iload_n hx hb dX10_put_39 rfl (lv_at hl 0 rfl) ?_
      refine va_iast hx hb hK hP hD hS 1 0 rfl rfl (vp_in_nI (n := j) (N := 200) (by omega) (by omega)) dX10_put_40 (fun H locs hP hD hS => ?_)
      obtain ⟨f10, ef10⟩ : ∃ z9 : Nat → Int32, z9 = upd g (nI j).toNatClampNeg (((n.toUInt32 >>> ((8 : Int32).toUInt32 &&& Int32.toUInt32 31)).toInt32) &&& (255 : Int32)) := ⟨_, rfl⟩
      have hP : va_P (dC, dI) vwCl [(tp, .inr (11, [.ref tby, .int (nI j), .int 0, .int 0, .ref tst, .int 0, .ref tla, .ref tbe, .ref tsu, .int 0])), (tby, .inl (cI, 200, .inl (upd g (nI j).toNatClampNeg (((n.toUInt32 >>> ((8 : Int32).toUInt32 &&& Int32.toUInt32 31)).toInt32) &&& (255 : Int32)))))] H := hP
      have hD : va_D A [(tp, .inr (11, [.ref tby, .int (nI j), .int 0, .int 0, .ref tst, .int 0, .ref tla, .ref tbe, .ref tsu, .int 0])), (tby, .inl (cI, 200, .inl (upd g (nI j).toNatClampNeg (((n.toUInt32 >>> ((8 : Int32).toUInt32 &&& Int32.toUInt32 31)).toInt32) &&& (255 : Int32)))))] := hD
      rw [← ef10] at hP hD
      refine lv_aload_n hx hb dX10_put_41 rfl (lv_at hl 2 rfl) ?_
      refine lv_dup hx hb dX10_put_42 rfl ?_
      refine va_get (D := (dC, dI)) (ci := 11) (v := .int (nI j)) (C := RX10) (T := TX10) (N := 10) hx hb hts iw_c_put_X10 hown hK hP 0 rfl rfl 1 (by decide) (hts (.fieldLink RX10 27 "UnlikeBoats$Tape" "length" "I") (List.mem_of_getElem? (i := 1) rfl)) (fun _ h9 => h9) rfl dX10_put_43 ?_
      refine lv_iconst (v := 1) hx hb dX10_put_46 (by decide) ?_
      refine lv_iadd hx hb dX10_put_47 ?_
      refine lv_topi (fun y11 ey11 => ?_)
      obtain rfl : (nI (j + 1) : Int32) = y11 := (ey11.trans (nI_1 _)).symm
      refine va_put (D := (dC, dI)) (ci := 11) (v := .int (nI (j + 1))) (ty := .int) (C := RX10) (T := TX10) (N := 10) hx hb hts iw_c_put_X10 tyX10 tyX10_ok nmX10 hown hK hP hD hS 0 rfl rfl 1 (by decide) (hts (.fieldLink RX10 27 "UnlikeBoats$Tape" "length" "I") (List.mem_of_getElem? (i := 1) rfl)) (fun _ h9 => h9) rfl (by decide +kernel) rfl rfl (Nat.le_of_ble_eq_true rfl) dX10_put_48 (fun H locs hP hD hS => ?_)
      have hP : va_P (dC, dI) vwCl [(tp, .inr (11, [.ref tby, .int (nI (j + 1)), .int 0, .int 0, .ref tst, .int 0, .ref tla, .ref tbe, .ref tsu, .int 0])), (tby, .inl (cI, 200, .inl f10))] H := hP
      have hD : va_D A [(tp, .inr (11, [.ref tby, .int (nI (j + 1)), .int 0, .int 0, .ref tst, .int 0, .ref tla, .ref tbe, .ref tsu, .int 0])), (tby, .inl (cI, 200, .inl f10))] := hD
      refine lv_iinc (v := 0) (lv' := [(2, .int 0), (3, .int (((n.toUInt32 >>> ((8 : Int32).toUInt32 &&& Int32.toUInt32 31)).toInt32) &&& (255 : Int32))), (0, .ref tp), (1, .int n)]) hx hb dX10_put_51 hl (k := 1) rfl (by decide) (by decide) rfl (fun ls hl => ?_)
      refine lv_goto (tgt := 3) hx hb dX10_put_54 (by decide) ?_
      exact hL3 ((j + 1)) f10 H _ ls hj hP hD hS (lv_sub hl [0, 2, 3] rfl)
  have hL1 : ∀ (j : Nat) (g : Nat → Int32) (H : Heap) (locs : List Loc) (ls : Array Slot), j + bN (ub_by n 16) + bN (ub_by n 8) + bN (ub_by n 0) = J → va_P (dC, dI) vwCl [(tp, .inr (11, [.ref tby, .int (nI j), .int 0, .int 0, .ref tst, .int 0, .ref tla, .ref tbe, .ref tsu, .int 0])), (tby, .inl (cI, 200, .inl g))] H → va_D A [(tp, .inr (11, [.ref tby, .int (nI j), .int 0, .int 0, .ref tst, .int 0, .ref tla, .ref tbe, .ref tsu, .int 0])), (tby, .inl (cI, 200, .inl g))] → va_S A s.heap H locs → lv_has ls 4 [(2, .int 16), (0, .ref tp), (1, .int n)] → W p l e (headSpec v_c_put ({ frames := 0, cells := 0, slots := 0, locals := 0 })).room s m ([.ref tp, .int n] : List Value).toArray below meth c H locs 0 0 (MQ below (va_Qv (S := Nat → Int32) (fun _ => True) (fun u t => va_P (dC, dI) vwCl [(tp, .inr (11, [.ref tby, .int (nI J), .int 0, .int 0, .ref tst, .int 0, .ref tla, .ref tbe, .ref tsu, .int 0])), (tby, .inl (cI, 200, .inl u))] t.heap ∧ va_K (dC, dI) vwCl [(cI, .int)] t ∧ va_D (A) [(tp, .inr (11, [.ref tby, .int (nI J), .int 0, .int 0, .ref tst, .int 0, .ref tla, .ref tbe, .ref tsu, .int 0])), (tby, .inl (cI, 200, .inl u))]) (A)) ([.ref tp, .int n] : List Value).toArray s 0 0 (A)) (F0 m 3 ls []) := by
    intro j g H locs ls hj hP hD hS hl
    refine lv_iload_n hx hb dX10_put_3 rfl (lv_at hl 0 rfl) ?_
    refine lv_if_lt (tgt := 57) hx hb dX10_put_4 (by decide) (fun c12 => by first | exact absurd c12 (by decide) | exact absurd (by decide) c12) (fun c12 => ?_)
    refine lv_iload_n hx hb dX10_put_7 rfl (lv_at hl 2 rfl) ?_
    refine lv_iload_n hx hb dX10_put_8 rfl (lv_at hl 0 rfl) ?_
    refine lv_iushr hx hb dX10_put_9 rfl ?_
    refine lv_sipush (v := 255) hx hb dX10_put_10 (by decide) ?_
    refine lv_iand hx hb dX10_put_13 ?_
    refine lv_istore_n (lv' := [(3, .int (((n.toUInt32 >>> ((16 : Int32).toUInt32 &&& Int32.toUInt32 31)).toInt32) &&& (255 : Int32))), (2, .int 16), (0, .ref tp), (1, .int n)]) hx hb dX10_put_14 rfl hl (by decide) rfl (fun ls hl => ?_)
    refine lv_iload_n hx hb dX10_put_15 rfl (lv_at hl 0 rfl) ?_
    refine lv_if_eq (tgt := 51) hx hb dX10_put_16 (by decide) (fun c13 => ?_) (fun c13 => ?_)
    · --((n.toUInt32 >>> ((16 : Int32).toUInt32 &&& Int32.toUInt32 31)).toInt32) &&& (255 : Int32) = 0
      have hz : bN (ub_by n 16) = 0 := bN_0 c13
      rw [hz, Nat.add_zero] at hj
      refine lv_iinc (v := 8) (lv' := [(2, .int 8), (3, .int (((n.toUInt32 >>> ((16 : Int32).toUInt32 &&& Int32.toUInt32 31)).toInt32) &&& (255 : Int32))), (0, .ref tp), (1, .int n)]) hx hb dX10_put_51 hl (k := 1) rfl (by decide) (by decide) rfl (fun ls hl => ?_)
      refine lv_goto (tgt := 3) hx hb dX10_put_54 (by decide) ?_
      exact hL2 (j) g H _ ls hj hP hD hS (lv_sub hl [0, 2, 3] rfl)
    · --¬ ((n.toUInt32 >>> ((16 : Int32).toUInt32 &&& Int32.toUInt32 31)).toInt32) &&& (255 : Int32) = 0
      have hz : bN (ub_by n 16) = 1 := bN_1 c13
      rw [hz] at hj
      refine lv_aload_n hx hb dX10_put_19 rfl (lv_at hl 2 rfl) ?_
      refine va_get (D := (dC, dI)) (ci := 11) (v := .int (nI j)) (C := RX10) (T := TX10) (N := 10) hx hb hts iw_c_put_X10 hown hK hP 0 rfl rfl 1 (by decide) (hts (.fieldLink RX10 27 "UnlikeBoats$Tape" "length" "I") (List.mem_of_getElem? (i := 1) rfl)) (fun _ h9 => h9) rfl dX10_put_20 ?_
      refine lv_aload_n hx hb dX10_put_23 rfl (lv_at hl 2 rfl) ?_
      refine va_get (D := (dC, dI)) (ci := 11) (v := .ref tby) (C := RX10) (T := TX10) (N := 10) hx hb hts iw_c_put_X10 hown hK hP 0 rfl rfl 0 (by decide) (hts (.fieldLink RX10 9 "UnlikeBoats$Tape" "bytes" "[I") (List.mem_of_getElem? (i := 2) rfl)) (fun _ h9 => h9) rfl dX10_put_24 ?_
      refine va_alen (v := 200) hx hb hK hP 1 0 rfl rfl rfl dX10_put_27 ?_
      refine lv_icmp_ge (tgt := 51) hx hb dX10_put_28 (by decide) (fun c14 => by first | exact absurd c14 (nI_ge (a := j) (b := 200) (by omega) (by omega)) | exact absurd (nI_ge (a := j) (b := 200) (by omega) (by omega)) c14) (fun c14 => ?_)
      refine lv_aload_n hx hb dX10_put_31 rfl (lv_at hl 2 rfl) ?_
      refine va_get (D := (dC, dI)) (ci := 11) (v := .ref tby) (C := RX10) (T := TX10) (N := 10) hx hb hts iw_c_put_X10 hown hK hP 0 rfl rfl 0 (by decide) (hts (.fieldLink RX10 9 "UnlikeBoats$Tape" "bytes" "[I") (List.mem_of_getElem? (i := 2) rfl)) (fun _ h9 => h9) rfl dX10_put_32 ?_
      refine lv_aload_n hx hb dX10_put_35 rfl (lv_at hl 2 rfl) ?_
      refine va_get (D := (dC, dI)) (ci := 11) (v := .int (nI j)) (C := RX10) (T := TX10) (N := 10) hx hb hts iw_c_put_X10 hown hK hP 0 rfl rfl 1 (by decide) (hts (.fieldLink RX10 27 "UnlikeBoats$Tape" "length" "I") (List.mem_of_getElem? (i := 1) rfl)) (fun _ h9 => h9) rfl dX10_put_36 ?_
      refine lv_iload_n hx hb dX10_put_39 rfl (lv_at hl 0 rfl) ?_
      refine va_iast hx hb hK hP hD hS 1 0 rfl rfl (vp_in_nI (n := j) (N := 200) (by omega) (by omega)) dX10_put_40 (fun H locs hP hD hS => ?_)
      obtain ⟨f15, ef15⟩ : ∃ z9 : Nat → Int32, z9 = upd g (nI j).toNatClampNeg (((n.toUInt32 >>> ((16 : Int32).toUInt32 &&& Int32.toUInt32 31)).toInt32) &&& (255 : Int32)) := ⟨_, rfl⟩
      have hP : va_P (dC, dI) vwCl [(tp, .inr (11, [.ref tby, .int (nI j), .int 0, .int 0, .ref tst, .int 0, .ref tla, .ref tbe, .ref tsu, .int 0])), (tby, .inl (cI, 200, .inl (upd g (nI j).toNatClampNeg (((n.toUInt32 >>> ((16 : Int32).toUInt32 &&& Int32.toUInt32 31)).toInt32) &&& (255 : Int32)))))] H := hP
      have hD : va_D A [(tp, .inr (11, [.ref tby, .int (nI j), .int 0, .int 0, .ref tst, .int 0, .ref tla, .ref tbe, .ref tsu, .int 0])), (tby, .inl (cI, 200, .inl (upd g (nI j).toNatClampNeg (((n.toUInt32 >>> ((16 : Int32).toUInt32 &&& Int32.toUInt32 31)).toInt32) &&& (255 : Int32)))))] := hD
      rw [← ef15] at hP hD
      refine lv_aload_n hx hb dX10_put_41 rfl (lv_at hl 2 rfl) ?_
      refine lv_dup hx hb dX10_put_42 rfl ?_
      refine va_get (D := (dC, dI)) (ci := 11) (v := .int (nI j)) (C := RX10) (T := TX10) (N := 10) hx hb hts iw_c_put_X10 hown hK hP 0 rfl rfl 1 (by decide) (hts (.fieldLink RX10 27 "UnlikeBoats$Tape" "length" "I") (List.mem_of_getElem? (i := 1) rfl)) (fun _ h9 => h9) rfl dX10_put_43 ?_
      refine lv_iconst (v := 1) hx hb dX10_put_46 (by decide) ?_
      refine lv_iadd hx hb dX10_put_47 ?_
      refine lv_topi (fun y16 ey16 => ?_)
      obtain rfl : (nI (j + 1) : Int32) = y16 := (ey16.trans (nI_1 _)).symm
      refine va_put (D := (dC, dI)) (ci := 11) (v := .int (nI (j + 1))) (ty := .int) (C := RX10) (T := TX10) (N := 10) hx hb hts iw_c_put_X10 tyX10 tyX10_ok nmX10 hown hK hP hD hS 0 rfl rfl 1 (by decide) (hts (.fieldLink RX10 27 "UnlikeBoats$Tape" "length" "I") (List.mem_of_getElem? (i := 1) rfl)) (fun _ h9 => h9) rfl (by decide +kernel) rfl rfl (Nat.le_of_ble_eq_true rfl) dX10_put_48 (fun H locs hP hD hS => ?_)
      have hP : va_P (dC, dI) vwCl [(tp, .inr (11, [.ref tby, .int (nI (j + 1)), .int 0, .int 0, .ref tst, .int 0, .ref tla, .ref tbe, .ref tsu, .int 0])), (tby, .inl (cI, 200, .inl f15))] H := hP
      have hD : va_D A [(tp, .inr (11, [.ref tby, .int (nI (j + 1)), .int 0, .int 0, .ref tst, .int 0, .ref tla, .ref tbe, .ref tsu, .int 0])), (tby, .inl (cI, 200, .inl f15))] := hD
      refine lv_iinc (v := 8) (lv' := [(2, .int 8), (3, .int (((n.toUInt32 >>> ((16 : Int32).toUInt32 &&& Int32.toUInt32 31)).toInt32) &&& (255 : Int32))), (0, .ref tp), (1, .int n)]) hx hb dX10_put_51 hl (k := 1) rfl (by decide) (by decide) rfl (fun ls hl => ?_)
      refine lv_goto (tgt := 3) hx hb dX10_put_54 (by decide) ?_
      exact hL2 ((j + 1)) f15 H _ ls hj hP hD hS (lv_sub hl [0, 2, 3] rfl)
  have hL0 : ∀ (j : Nat) (g : Nat → Int32) (H : Heap) (locs : List Loc) (ls : Array Slot), j + bN (ub_by n 24) + bN (ub_by n 16) + bN (ub_by n 8) + bN (ub_by n 0) = J → va_P (dC, dI) vwCl [(tp, .inr (11, [.ref tby, .int (nI j), .int 0, .int 0, .ref tst, .int 0, .ref tla, .ref tbe, .ref tsu, .int 0])), (tby, .inl (cI, 200, .inl g))] H → va_D A [(tp, .inr (11, [.ref tby, .int (nI j), .int 0, .int 0, .ref tst, .int 0, .ref tla, .ref tbe, .ref tsu, .int 0])), (tby, .inl (cI, 200, .inl g))] → va_S A s.heap H locs → lv_has ls 4 [(2, .int 24), (0, .ref tp), (1, .int n)] → W p l e (headSpec v_c_put ({ frames := 0, cells := 0, slots := 0, locals := 0 })).room s m ([.ref tp, .int n] : List Value).toArray below meth c H locs 0 0 (MQ below (va_Qv (S := Nat → Int32) (fun _ => True) (fun u t => va_P (dC, dI) vwCl [(tp, .inr (11, [.ref tby, .int (nI J), .int 0, .int 0, .ref tst, .int 0, .ref tla, .ref tbe, .ref tsu, .int 0])), (tby, .inl (cI, 200, .inl u))] t.heap ∧ va_K (dC, dI) vwCl [(cI, .int)] t ∧ va_D (A) [(tp, .inr (11, [.ref tby, .int (nI J), .int 0, .int 0, .ref tst, .int 0, .ref tla, .ref tbe, .ref tsu, .int 0])), (tby, .inl (cI, 200, .inl u))]) (A)) ([.ref tp, .int n] : List Value).toArray s 0 0 (A)) (F0 m 3 ls []) := by
    intro j g H locs ls hj hP hD hS hl
    refine lv_iload_n hx hb dX10_put_3 rfl (lv_at hl 0 rfl) ?_
    refine lv_if_lt (tgt := 57) hx hb dX10_put_4 (by decide) (fun c17 => by first | exact absurd c17 (by decide) | exact absurd (by decide) c17) (fun c17 => ?_)
    refine lv_iload_n hx hb dX10_put_7 rfl (lv_at hl 2 rfl) ?_
    refine lv_iload_n hx hb dX10_put_8 rfl (lv_at hl 0 rfl) ?_
    refine lv_iushr hx hb dX10_put_9 rfl ?_
    refine lv_sipush (v := 255) hx hb dX10_put_10 (by decide) ?_
    refine lv_iand hx hb dX10_put_13 ?_
    refine lv_istore_n (lv' := [(3, .int (((n.toUInt32 >>> ((24 : Int32).toUInt32 &&& Int32.toUInt32 31)).toInt32) &&& (255 : Int32))), (2, .int 24), (0, .ref tp), (1, .int n)]) hx hb dX10_put_14 rfl hl (by decide) rfl (fun ls hl => ?_)
    refine lv_iload_n hx hb dX10_put_15 rfl (lv_at hl 0 rfl) ?_
    refine lv_if_eq (tgt := 51) hx hb dX10_put_16 (by decide) (fun c18 => ?_) (fun c18 => ?_)
    · --((n.toUInt32 >>> ((24 : Int32).toUInt32 &&& Int32.toUInt32 31)).toInt32) &&& (255 : Int32) = 0
      have hz : bN (ub_by n 24) = 0 := bN_0 c18
      rw [hz, Nat.add_zero] at hj
      refine lv_iinc (v := 16) (lv' := [(2, .int 16), (3, .int (((n.toUInt32 >>> ((24 : Int32).toUInt32 &&& Int32.toUInt32 31)).toInt32) &&& (255 : Int32))), (0, .ref tp), (1, .int n)]) hx hb dX10_put_51 hl (k := 1) rfl (by decide) (by decide) rfl (fun ls hl => ?_)
      refine lv_goto (tgt := 3) hx hb dX10_put_54 (by decide) ?_
      exact hL1 (j) g H _ ls hj hP hD hS (lv_sub hl [0, 2, 3] rfl)
    · --¬ ((n.toUInt32 >>> ((24 : Int32).toUInt32 &&& Int32.toUInt32 31)).toInt32) &&& (255 : Int32) = 0
      have hz : bN (ub_by n 24) = 1 := bN_1 c18
      rw [hz] at hj
      refine lv_aload_n hx hb dX10_put_19 rfl (lv_at hl 2 rfl) ?_
      refine va_get (D := (dC, dI)) (ci := 11) (v := .int (nI j)) (C := RX10) (T := TX10) (N := 10) hx hb hts iw_c_put_X10 hown hK hP 0 rfl rfl 1 (by decide) (hts (.fieldLink RX10 27 "UnlikeBoats$Tape" "length" "I") (List.mem_of_getElem? (i := 1) rfl)) (fun _ h9 => h9) rfl dX10_put_20 ?_
      refine lv_aload_n hx hb dX10_put_23 rfl (lv_at hl 2 rfl) ?_
      refine va_get (D := (dC, dI)) (ci := 11) (v := .ref tby) (C := RX10) (T := TX10) (N := 10) hx hb hts iw_c_put_X10 hown hK hP 0 rfl rfl 0 (by decide) (hts (.fieldLink RX10 9 "UnlikeBoats$Tape" "bytes" "[I") (List.mem_of_getElem? (i := 2) rfl)) (fun _ h9 => h9) rfl dX10_put_24 ?_
      refine va_alen (v := 200) hx hb hK hP 1 0 rfl rfl rfl dX10_put_27 ?_
      refine lv_icmp_ge (tgt := 51) hx hb dX10_put_28 (by decide) (fun c19 => by first | exact absurd c19 (nI_ge (a := j) (b := 200) (by omega) (by omega)) | exact absurd (nI_ge (a := j) (b := 200) (by omega) (by omega)) c19) (fun c19 => ?_)
      refine lv_aload_n hx hb dX10_put_31 rfl (lv_at hl 2 rfl) ?_
      refine va_get (D := (dC, dI)) (ci := 11) (v := .ref tby) (C := RX10) (T := TX10) (N := 10) hx hb hts iw_c_put_X10 hown hK hP 0 rfl rfl 0 (by decide) (hts (.fieldLink RX10 9 "UnlikeBoats$Tape" "bytes" "[I") (List.mem_of_getElem? (i := 2) rfl)) (fun _ h9 => h9) rfl dX10_put_32 ?_
      refine lv_aload_n hx hb dX10_put_35 rfl (lv_at hl 2 rfl) ?_
      refine va_get (D := (dC, dI)) (ci := 11) (v := .int (nI j)) (C := RX10) (T := TX10) (N := 10) hx hb hts iw_c_put_X10 hown hK hP 0 rfl rfl 1 (by decide) (hts (.fieldLink RX10 27 "UnlikeBoats$Tape" "length" "I") (List.mem_of_getElem? (i := 1) rfl)) (fun _ h9 => h9) rfl dX10_put_36 ?_
      refine lv_iload_n hx hb dX10_put_39 rfl (lv_at hl 0 rfl) ?_
      refine va_iast hx hb hK hP hD hS 1 0 rfl rfl (vp_in_nI (n := j) (N := 200) (by omega) (by omega)) dX10_put_40 (fun H locs hP hD hS => ?_)
      obtain ⟨f20, ef20⟩ : ∃ z9 : Nat → Int32, z9 = upd g (nI j).toNatClampNeg (((n.toUInt32 >>> ((24 : Int32).toUInt32 &&& Int32.toUInt32 31)).toInt32) &&& (255 : Int32)) := ⟨_, rfl⟩
      have hP : va_P (dC, dI) vwCl [(tp, .inr (11, [.ref tby, .int (nI j), .int 0, .int 0, .ref tst, .int 0, .ref tla, .ref tbe, .ref tsu, .int 0])), (tby, .inl (cI, 200, .inl (upd g (nI j).toNatClampNeg (((n.toUInt32 >>> ((24 : Int32).toUInt32 &&& Int32.toUInt32 31)).toInt32) &&& (255 : Int32)))))] H := hP
      have hD : va_D A [(tp, .inr (11, [.ref tby, .int (nI j), .int 0, .int 0, .ref tst, .int 0, .ref tla, .ref tbe, .ref tsu, .int 0])), (tby, .inl (cI, 200, .inl (upd g (nI j).toNatClampNeg (((n.toUInt32 >>> ((24 : Int32).toUInt32 &&& Int32.toUInt32 31)).toInt32) &&& (255 : Int32)))))] := hD
      rw [← ef20] at hP hD
      refine lv_aload_n hx hb dX10_put_41 rfl (lv_at hl 2 rfl) ?_
      refine lv_dup hx hb dX10_put_42 rfl ?_
      refine va_get (D := (dC, dI)) (ci := 11) (v := .int (nI j)) (C := RX10) (T := TX10) (N := 10) hx hb hts iw_c_put_X10 hown hK hP 0 rfl rfl 1 (by decide) (hts (.fieldLink RX10 27 "UnlikeBoats$Tape" "length" "I") (List.mem_of_getElem? (i := 1) rfl)) (fun _ h9 => h9) rfl dX10_put_43 ?_
      refine lv_iconst (v := 1) hx hb dX10_put_46 (by decide) ?_
      refine lv_iadd hx hb dX10_put_47 ?_
      refine lv_topi (fun y21 ey21 => ?_)
      obtain rfl : (nI (j + 1) : Int32) = y21 := (ey21.trans (nI_1 _)).symm
      refine va_put (D := (dC, dI)) (ci := 11) (v := .int (nI (j + 1))) (ty := .int) (C := RX10) (T := TX10) (N := 10) hx hb hts iw_c_put_X10 tyX10 tyX10_ok nmX10 hown hK hP hD hS 0 rfl rfl 1 (by decide) (hts (.fieldLink RX10 27 "UnlikeBoats$Tape" "length" "I") (List.mem_of_getElem? (i := 1) rfl)) (fun _ h9 => h9) rfl (by decide +kernel) rfl rfl (Nat.le_of_ble_eq_true rfl) dX10_put_48 (fun H locs hP hD hS => ?_)
      have hP : va_P (dC, dI) vwCl [(tp, .inr (11, [.ref tby, .int (nI (j + 1)), .int 0, .int 0, .ref tst, .int 0, .ref tla, .ref tbe, .ref tsu, .int 0])), (tby, .inl (cI, 200, .inl f20))] H := hP
      have hD : va_D A [(tp, .inr (11, [.ref tby, .int (nI (j + 1)), .int 0, .int 0, .ref tst, .int 0, .ref tla, .ref tbe, .ref tsu, .int 0])), (tby, .inl (cI, 200, .inl f20))] := hD
      refine lv_iinc (v := 16) (lv' := [(2, .int 16), (3, .int (((n.toUInt32 >>> ((24 : Int32).toUInt32 &&& Int32.toUInt32 31)).toInt32) &&& (255 : Int32))), (0, .ref tp), (1, .int n)]) hx hb dX10_put_51 hl (k := 1) rfl (by decide) (by decide) rfl (fun ls hl => ?_)
      refine lv_goto (tgt := 3) hx hb dX10_put_54 (by decide) ?_
      exact hL1 ((j + 1)) f20 H _ ls hj hP hD hS (lv_sub hl [0, 2, 3] rfl)
  exact hL0 j0 g0 _ _ ls (by rw [← hJ]; unfold nbN; omega) hP hD hS (lv_sub hl [0, 1, 2] rfl)
def A_m_put : List Cond := [.fieldLink RX13 28 "UnlikeBoatsModel" "tape" "[B", .fieldLink RX13 259 "UnlikeBoatsModel" "length" "I"]
def v_m_put : List Cond := .code yX13_put cX13_put 3 none :: (A_m_put ++ wsX130)
theorem iw_m_put_X13 : ∀ w ∈ wsX130, w ∈ v_m_put := fun _ h => List.mem_cons_of_mem _ (List.mem_append_right _ (h))
set_option maxHeartbeats 4000000 in
set_option maxRecDepth 100000 in
theorem m_put (l : Launch) (dC : Nat → ClassId) (dI : Nat → Nat → Nat) (h : Nat) (f : Nat → Value) (tb : Nat) (cB : ClassId) (g0 : Nat → Int32) (j0 : Nat) (J : Nat) (n : Int32) (sz : Nat) (hf_tape : f 10 = .ref tb) (hf_length : f 16 = .int (nI j0)) (hJ : j0 + nbN n = J) (hJ2 : J ≤ 200) : Met l yX13_put v_m_put ({ frames := 0, cells := 0, slots := 0, locals := 0 }) (va_Pc [.ref h, .int n] (fun U => U.heap.size = sz ∧ va_P (dC, dI) vwCl [(h, .inr (14, mL f)), (tb, .inl (cB, 200, .inl g0))] U.heap ∧ va_K (dC, dI) vwCl [(cB, .byte)] U ∧ va_D (fun _ => True) [(h, .inr (14, mL f)), (tb, .inl (cB, 200, .inl g0))])) (va_Qv (S := (Nat → Value) × (Nat → Int32)) (fun u => u.1 16 = .int (nI J) ∧ u.1 10 = .ref tb) (fun u t => va_P (dC, dI) vwCl [(h, .inr (14, mL u.1)), (tb, .inl (cB, 200, .inl u.2))] t.heap ∧ va_K (dC, dI) vwCl [(cB, .byte)] t ∧ va_D (va_A [(h, .inr (14, mL f)), (tb, .inl (cB, 200, .inl g0))] sz) [(h, .inr (14, mL u.1)), (tb, .inl (cB, 200, .inl u.2))]) (va_A [(h, .inr (14, mL f)), (tb, .inl (cB, 200, .inl g0))] sz)) 0 0 (va_A [(h, .inr (14, mL f)), (tb, .inl (cB, 200, .inl g0))] sz) := by
  refine Met.ofW (cc := cX13_put) (maxL := 3) (ret := none) (by decide) rfl ?_
  intro p e s m args below meth c s₁ B hml hv
  obtain ⟨rfl, hsz, hP, hK, hD0⟩ := hv
  have hx := B.exec
  have hb := B.bytes
  have hr := B.returns
  have hts := atoms_spec (ws := v_m_put) B.pre
  have hown : s.vm.findClass RX13 = some m.cls := findClass_of_methodNamed B.named
  have hlocks := B.notSynchronized
  subst hsz
  have hD := hD0.self (sz := s.heap.size)
  generalize hAe : va_A [(h, .inr (14, mL f)), (tb, .inl (cB, 200, .inl g0))] s.heap.size = A at hD ⊢
  have hA : ∀ q : Nat, s.heap.size ≤ q → A q := fun q h => by rw [← hAe]; exact Or.inr h
  have hS : va_S A s.heap s.heap [] := va_S.rf
  have hP : va_P (dC, dI) vwCl [(h, .inr (14, mL f)), (tb, .inl (cB, 200, .inl g0))] s.heap := hP
  have hl := lv_entry ([.ref h, .int n]) (n := 3) (Nat.le_of_ble_eq_true rfl)
  rw [lg_entry_eq]
  generalize (lg_sl ([.ref h, .int n]) ++ List.replicate (3 - (lg_sl ([.ref h, .int n])).length) Slot.unset).toArray = ls at hl ⊢
  have hl : lv_has ls 3 [(0, .ref h), (1, .int n)] := hl
  refine lv_bipush (v := 24) hx hb dX13_put_0 (by decide) ?_
  refine lv_istore_n (lv' := [(2, .int 24), (0, .ref h), (1, .int n)]) hx hb dX13_put_2 rfl hl (by decide) rfl (fun ls hl => ?_)
  have hL4 : ∀ (j : Nat) (mm : Nat → Value) (g : Nat → Int32) (H : Heap) (locs : List Loc) (ls : Array Slot), j = J → mm 10 = .ref tb → mm 16 = .int (nI j) → va_P (dC, dI) vwCl [(h, .inr (14, mL mm)), (tb, .inl (cB, 200, .inl g))] H → va_D A [(h, .inr (14, mL mm)), (tb, .inl (cB, 200, .inl g))] → va_S A s.heap H locs → lv_has ls 3 [(2, .int (-8)), (0, .ref h), (1, .int n)] → W p l e (headSpec v_m_put ({ frames := 0, cells := 0, slots := 0, locals := 0 })).room s m ([.ref h, .int n] : List Value).toArray below meth c H locs 0 0 (MQ below (va_Qv (S := (Nat → Value) × (Nat → Int32)) (fun u => u.1 16 = .int (nI J) ∧ u.1 10 = .ref tb) (fun u t => va_P (dC, dI) vwCl [(h, .inr (14, mL u.1)), (tb, .inl (cB, 200, .inl u.2))] t.heap ∧ va_K (dC, dI) vwCl [(cB, .byte)] t ∧ va_D (A) [(h, .inr (14, mL u.1)), (tb, .inl (cB, 200, .inl u.2))]) (A)) ([.ref h, .int n] : List Value).toArray s 0 0 (A)) (F0 m 3 ls []) := by
    intro j mm g H locs ls hj hm_10 hm_16 hP hD hS hl
    refine lv_iload_n hx hb dX13_put_3 rfl (lv_at hl 0 rfl) ?_
    refine lv_if_lt (tgt := 49) hx hb dX13_put_4 (by decide) (fun c1 => ?_) (fun c1 => by first | exact absurd c1 (by decide) | exact absurd (by decide) c1)
    obtain rfl : j = J := hj
    have hP9 := hP.sub (ws' := [(h, .inr (14, mL mm)), (tb, .inl (cB, 200, .inl g))]) [0, 1] rfl
    have hD9 := hD.sub (ws' := [(h, .inr (14, mL mm)), (tb, .inl (cB, 200, .inl g))]) [0, 1] (by decide) rfl
    have hK9 := hK.sub (tys' := [(cB, .byte)]) [0] rfl
    exact W.vret hx hb hr (fun t ht hW => ⟨⟨(mm, g), rfl, ⟨hm_16, hm_10⟩, (by rw [ht]; exact hP9), va_K.moved hW.alike hK9, hD9⟩, hS.F ht⟩) hS.2.2 dX13_put_49
  have hL3 : ∀ (j : Nat) (mm : Nat → Value) (g : Nat → Int32) (H : Heap) (locs : List Loc) (ls : Array Slot), j + bN (ub_by n 0) = J → mm 10 = .ref tb → mm 16 = .int (nI j) → va_P (dC, dI) vwCl [(h, .inr (14, mL mm)), (tb, .inl (cB, 200, .inl g))] H → va_D A [(h, .inr (14, mL mm)), (tb, .inl (cB, 200, .inl g))] → va_S A s.heap H locs → lv_has ls 3 [(2, .int 0), (0, .ref h), (1, .int n)] → W p l e (headSpec v_m_put ({ frames := 0, cells := 0, slots := 0, locals := 0 })).room s m ([.ref h, .int n] : List Value).toArray below meth c H locs 0 0 (MQ below (va_Qv (S := (Nat → Value) × (Nat → Int32)) (fun u => u.1 16 = .int (nI J) ∧ u.1 10 = .ref tb) (fun u t => va_P (dC, dI) vwCl [(h, .inr (14, mL u.1)), (tb, .inl (cB, 200, .inl u.2))] t.heap ∧ va_K (dC, dI) vwCl [(cB, .byte)] t ∧ va_D (A) [(h, .inr (14, mL u.1)), (tb, .inl (cB, 200, .inl u.2))]) (A)) ([.ref h, .int n] : List Value).toArray s 0 0 (A)) (F0 m 3 ls []) := by
    intro j mm g H locs ls hj hm_10 hm_16 hP hD hS hl
    refine lv_iload_n hx hb dX13_put_3 rfl (lv_at hl 0 rfl) ?_
    refine lv_if_lt (tgt := 49) hx hb dX13_put_4 (by decide) (fun c2 => by first | exact absurd c2 (by decide) | exact absurd (by decide) c2) (fun c2 => ?_)
    refine lv_iload_n hx hb dX13_put_7 rfl (lv_at hl 2 rfl) ?_
    refine lv_iload_n hx hb dX13_put_8 rfl (lv_at hl 0 rfl) ?_
    refine lv_ishr hx hb dX13_put_9 ?_
    refine lv_sipush (v := 255) hx hb dX13_put_10 (by decide) ?_
    refine lv_iand hx hb dX13_put_13 ?_
    refine lv_if_ne (tgt := 20) hx hb dX13_put_14 (by decide) (fun c3 => ?_) (fun c3 => ?_)
    · --¬ (n >>> ((0 : Int32) &&& 31)) &&& (255 : Int32) = 0
      have hz : bN (ub_by n 0) = 1 := bN_1 (fun hh => c3 ((ub_sh 0 (by decide) n).trans hh))
      rw [hz] at hj
      refine lv_aload_n hx hb dX13_put_20 rfl (lv_at hl 1 rfl) ?_
      refine va_get (D := (dC, dI)) (ci := 14) (v := .ref tb) (C := RX13) (T := TX13) (N := 97) hx hb hts iw_m_put_X13 hown hK hP 0 rfl rfl 10 (by decide) (hts (.fieldLink RX13 28 "UnlikeBoatsModel" "tape" "[B") (List.mem_of_getElem? (i := 1) rfl)) (fun _ h9 => h9) (mL_some (Nat.le_of_ble_eq_true rfl) hm_10) dX13_put_21 ?_
      refine lv_aload_n hx hb dX13_put_24 rfl (lv_at hl 1 rfl) ?_
      refine va_get (D := (dC, dI)) (ci := 14) (v := .int (nI j)) (C := RX13) (T := TX13) (N := 97) hx hb hts iw_m_put_X13 hown hK hP 0 rfl rfl 16 (by decide) (hts (.fieldLink RX13 259 "UnlikeBoatsModel" "length" "I") (List.mem_of_getElem? (i := 2) rfl)) (fun _ h9 => h9) (mL_some (Nat.le_of_ble_eq_true rfl) hm_16) dX13_put_25 ?_
      refine lv_iload_n hx hb dX13_put_28 rfl (lv_at hl 2 rfl) ?_
      refine lv_iload_n hx hb dX13_put_29 rfl (lv_at hl 0 rfl) ?_
      refine lv_ishr hx hb dX13_put_30 ?_
      refine lv_i2b hx hb dX13_put_31 rfl ?_
      refine va_bast hx hb hK hP hD hS 1 0 rfl rfl (vp_in_nI (n := j) (N := 200) (by omega) (by omega)) dX13_put_32 (fun H locs hP hD hS => ?_)
      obtain ⟨f4, ef4⟩ : ∃ z9 : Nat → Int32, z9 = upd g (nI j).toNatClampNeg (vp_nar .byte ((n >>> ((0 : Int32) &&& 31)).toInt8.toInt32)) := ⟨_, rfl⟩
      have hP : va_P (dC, dI) vwCl [(h, .inr (14, mL mm)), (tb, .inl (cB, 200, .inl (upd g (nI j).toNatClampNeg (vp_nar .byte ((n >>> ((0 : Int32) &&& 31)).toInt8.toInt32)))))] H := hP
      have hD : va_D A [(h, .inr (14, mL mm)), (tb, .inl (cB, 200, .inl (upd g (nI j).toNatClampNeg (vp_nar .byte ((n >>> ((0 : Int32) &&& 31)).toInt8.toInt32)))))] := hD
      rw [← ef4] at hP hD
      refine lv_aload_n hx hb dX13_put_33 rfl (lv_at hl 1 rfl) ?_
      refine lv_dup hx hb dX13_put_34 rfl ?_
      refine va_get (D := (dC, dI)) (ci := 14) (v := .int (nI j)) (C := RX13) (T := TX13) (N := 97) hx hb hts iw_m_put_X13 hown hK hP 0 rfl rfl 16 (by decide) (hts (.fieldLink RX13 259 "UnlikeBoatsModel" "length" "I") (List.mem_of_getElem? (i := 2) rfl)) (fun _ h9 => h9) (mL_some (Nat.le_of_ble_eq_true rfl) hm_16) dX13_put_35 ?_
      refine lv_iconst (v := 1) hx hb dX13_put_38 (by decide) ?_
      refine lv_iadd hx hb dX13_put_39 ?_
      refine lv_topi (fun y5 ey5 => ?_)
      obtain rfl : (nI (j + 1) : Int32) = y5 := (ey5.trans (nI_1 _)).symm
      refine va_put (D := (dC, dI)) (ci := 14) (v := .int (nI (j + 1))) (ty := .int) (C := RX13) (T := TX13) (N := 97) hx hb hts iw_m_put_X13 tyX13 tyX13_ok nmX13 hown hK hP hD hS 0 rfl rfl 16 (by decide) (hts (.fieldLink RX13 259 "UnlikeBoatsModel" "length" "I") (List.mem_of_getElem? (i := 2) rfl)) (fun _ h9 => h9) rfl (by decide +kernel) rfl rfl (mL_lt (Nat.le_of_ble_eq_true rfl)) dX13_put_40 (fun H locs hP hD hS => ?_)
      have hP : va_P (dC, dI) vwCl [(h, .inr (14, (mL mm).set 16 (.int (nI (j + 1))))), (tb, .inl (cB, 200, .inl f4))] H := hP
      have hD : va_D A [(h, .inr (14, (mL mm).set 16 (.int (nI (j + 1))))), (tb, .inl (cB, 200, .inl f4))] := hD
      obtain ⟨g6, eg6⟩ : ∃ z9, z9 = va_up mm 16 (.int (nI (j + 1))) := ⟨_, rfl⟩
      rw [mL_upd, ← eg6] at hP hD
      have hg6_10 : g6 10 = .ref tb := by rw [eg6]; exact (va_up_ne _ _ (by decide)).trans hm_10
      have hg6_16 : g6 16 = .int (nI (j + 1)) := by rw [eg6]; exact va_up_self _ _ _
      refine lv_iinc (v := -8) (lv' := [(2, .int (-8)), (0, .ref h), (1, .int n)]) hx hb dX13_put_43 hl (k := 0) rfl (by decide) (by decide) rfl (fun ls hl => ?_)
      refine lv_goto (tgt := 3) hx hb dX13_put_46 (by decide) ?_
      exact hL4 ((j + 1)) g6 f4 H _ ls hj hg6_10 hg6_16 hP hD hS (lv_sub hl [0, 1, 2] rfl)
    · --(n >>> ((0 : Int32) &&& 31)) &&& (255 : Int32) = 0
      have hz : bN (ub_by n 0) = 0 := bN_0 ((ub_sh 0 (by decide) n).symm.trans c3)
      rw [hz, Nat.add_zero] at hj
      refine lv_goto (tgt := 43) hx hb dX13_put_17 (by decide) ?_
      refine lv_iinc (v := -8) (lv' := [(2, .int (-8)), (0, .ref h), (1, .int n)]) hx hb dX13_put_43 hl (k := 0) rfl (by decide) (by decide) rfl (fun ls hl => ?_)
      refine lv_goto (tgt := 3) hx hb dX13_put_46 (by decide) ?_
      exact hL4 (j) mm g H _ ls hj hm_10 hm_16 hP hD hS (lv_sub hl [0, 1, 2] rfl)
  have hL2 : ∀ (j : Nat) (mm : Nat → Value) (g : Nat → Int32) (H : Heap) (locs : List Loc) (ls : Array Slot), j + bN (ub_by n 8) + bN (ub_by n 0) = J → mm 10 = .ref tb → mm 16 = .int (nI j) → va_P (dC, dI) vwCl [(h, .inr (14, mL mm)), (tb, .inl (cB, 200, .inl g))] H → va_D A [(h, .inr (14, mL mm)), (tb, .inl (cB, 200, .inl g))] → va_S A s.heap H locs → lv_has ls 3 [(2, .int 8), (0, .ref h), (1, .int n)] → W p l e (headSpec v_m_put ({ frames := 0, cells := 0, slots := 0, locals := 0 })).room s m ([.ref h, .int n] : List Value).toArray below meth c H locs 0 0 (MQ below (va_Qv (S := (Nat → Value) × (Nat → Int32)) (fun u => u.1 16 = .int (nI J) ∧ u.1 10 = .ref tb) (fun u t => va_P (dC, dI) vwCl [(h, .inr (14, mL u.1)), (tb, .inl (cB, 200, .inl u.2))] t.heap ∧ va_K (dC, dI) vwCl [(cB, .byte)] t ∧ va_D (A) [(h, .inr (14, mL u.1)), (tb, .inl (cB, 200, .inl u.2))]) (A)) ([.ref h, .int n] : List Value).toArray s 0 0 (A)) (F0 m 3 ls []) := by
    intro j mm g H locs ls hj hm_10 hm_16 hP hD hS hl
    refine lv_iload_n hx hb dX13_put_3 rfl (lv_at hl 0 rfl) ?_
    refine lv_if_lt (tgt := 49) hx hb dX13_put_4 (by decide) (fun c7 => by first | exact absurd c7 (by decide) | exact absurd (by decide) c7) (fun c7 => ?_)
    refine lv_iload_n hx hb dX13_put_7 rfl (lv_at hl 2 rfl) ?_
    refine lv_iload_n hx hb dX13_put_8 rfl (lv_at hl 0 rfl) ?_
    refine lv_ishr hx hb dX13_put_9 ?_
    refine lv_sipush (v := 255) hx hb dX13_put_10 (by decide) ?_
    refine lv_iand hx hb dX13_put_13 ?_
    refine lv_if_ne (tgt := 20) hx hb dX13_put_14 (by decide) (fun c8 => ?_) (fun c8 => ?_)
    · --¬ (n >>> ((8 : Int32) &&& 31)) &&& (255 : Int32) = 0
      have hz : bN (ub_by n 8) = 1 := bN_1 (fun hh => c8 ((ub_sh 8 (by decide) n).trans hh))
      rw [hz] at hj
      refine lv_aload_n hx hb dX13_put_20 rfl (lv_at hl 1 rfl) ?_
      refine va_get (D := (dC, dI)) (ci := 14) (v := .ref tb) (C := RX13) (T := TX13) (N := 97) hx hb hts iw_m_put_X13 hown hK hP 0 rfl rfl 10 (by decide) (hts (.fieldLink RX13 28 "UnlikeBoatsModel" "tape" "[B") (List.mem_of_getElem? (i := 1) rfl)) (fun _ h9 => h9) (mL_some (Nat.le_of_ble_eq_true rfl) hm_10) dX13_put_21 ?_
      refine lv_aload_n hx hb dX13_put_24 rfl (lv_at hl 1 rfl) ?_
      refine va_get (D := (dC, dI)) (ci := 14) (v := .int (nI j)) (C := RX13) (T := TX13) (N := 97) hx hb hts iw_m_put_X13 hown hK hP 0 rfl rfl 16 (by decide) (hts (.fieldLink RX13 259 "UnlikeBoatsModel" "length" "I") (List.mem_of_getElem? (i := 2) rfl)) (fun _ h9 => h9) (mL_some (Nat.le_of_ble_eq_true rfl) hm_16) dX13_put_25 ?_
      refine lv_iload_n hx hb dX13_put_28 rfl (lv_at hl 2 rfl) ?_
      refine lv_iload_n hx hb dX13_put_29 rfl (lv_at hl 0 rfl) ?_
      refine lv_ishr hx hb dX13_put_30 ?_
      refine lv_i2b hx hb dX13_put_31 rfl ?_
      refine va_bast hx hb hK hP hD hS 1 0 rfl rfl (vp_in_nI (n := j) (N := 200) (by omega) (by omega)) dX13_put_32 (fun H locs hP hD hS => ?_)
      obtain ⟨f9, ef9⟩ : ∃ z9 : Nat → Int32, z9 = upd g (nI j).toNatClampNeg (vp_nar .byte ((n >>> ((8 : Int32) &&& 31)).toInt8.toInt32)) := ⟨_, rfl⟩
      have hP : va_P (dC, dI) vwCl [(h, .inr (14, mL mm)), (tb, .inl (cB, 200, .inl (upd g (nI j).toNatClampNeg (vp_nar .byte ((n >>> ((8 : Int32) &&& 31)).toInt8.toInt32)))))] H := hP
      have hD : va_D A [(h, .inr (14, mL mm)), (tb, .inl (cB, 200, .inl (upd g (nI j).toNatClampNeg (vp_nar .byte ((n >>> ((8 : Int32) &&& 31)).toInt8.toInt32)))))] := hD
      rw [← ef9] at hP hD
      refine lv_aload_n hx hb dX13_put_33 rfl (lv_at hl 1 rfl) ?_
      refine lv_dup hx hb dX13_put_34 rfl ?_
      refine va_get (D := (dC, dI)) (ci := 14) (v := .int (nI j)) (C := RX13) (T := TX13) (N := 97) hx hb hts iw_m_put_X13 hown hK hP 0 rfl rfl 16 (by decide) (hts (.fieldLink RX13 259 "UnlikeBoatsModel" "length" "I") (List.mem_of_getElem? (i := 2) rfl)) (fun _ h9 => h9) (mL_some (Nat.le_of_ble_eq_true rfl) hm_16) dX13_put_35 ?_
      refine lv_iconst (v := 1) hx hb dX13_put_38 (by decide) ?_
      refine lv_iadd hx hb dX13_put_39 ?_
      refine lv_topi (fun y10 ey10 => ?_)
      obtain rfl : (nI (j + 1) : Int32) = y10 := (ey10.trans (nI_1 _)).symm
      refine va_put (D := (dC, dI)) (ci := 14) (v := .int (nI (j + 1))) (ty := .int) (C := RX13) (T := TX13) (N := 97) hx hb hts iw_m_put_X13 tyX13 tyX13_ok nmX13 hown hK hP hD hS 0 rfl rfl 16 (by decide) (hts (.fieldLink RX13 259 "UnlikeBoatsModel" "length" "I") (List.mem_of_getElem? (i := 2) rfl)) (fun _ h9 => h9) rfl (by decide +kernel) rfl rfl (mL_lt (Nat.le_of_ble_eq_true rfl)) dX13_put_40 (fun H locs hP hD hS => ?_)
      have hP : va_P (dC, dI) vwCl [(h, .inr (14, (mL mm).set 16 (.int (nI (j + 1))))), (tb, .inl (cB, 200, .inl f9))] H := hP
      have hD : va_D A [(h, .inr (14, (mL mm).set 16 (.int (nI (j + 1))))), (tb, .inl (cB, 200, .inl f9))] := hD
      obtain ⟨g11, eg11⟩ : ∃ z9, z9 = va_up mm 16 (.int (nI (j + 1))) := ⟨_, rfl⟩
      rw [mL_upd, ← eg11] at hP hD
      have hg11_10 : g11 10 = .ref tb := by rw [eg11]; exact (va_up_ne _ _ (by decide)).trans hm_10
      have hg11_16 : g11 16 = .int (nI (j + 1)) := by rw [eg11]; exact va_up_self _ _ _
      refine lv_iinc (v := 0) (lv' := [(2, .int 0), (0, .ref h), (1, .int n)]) hx hb dX13_put_43 hl (k := 0) rfl (by decide) (by decide) rfl (fun ls hl => ?_)
      refine lv_goto (tgt := 3) hx hb dX13_put_46 (by decide) ?_
      exact hL3 ((j + 1)) g11 f9 H _ ls hj hg11_10 hg11_16 hP hD hS (lv_sub hl [0, 1, 2] rfl)
    · --(n >>> ((8 : Int32) &&& 31)) &&& (255 : Int32) = 0
      have hz : bN (ub_by n 8) = 0 := bN_0 ((ub_sh 8 (by decide) n).symm.trans c8)
      rw [hz, Nat.add_zero] at hj
      refine lv_goto (tgt := 43) hx hb dX13_put_17 (by decide) ?_
      refine lv_iinc (v := 0) (lv' := [(2, .int 0), (0, .ref h), (1, .int n)]) hx hb dX13_put_43 hl (k := 0) rfl (by decide) (by decide) rfl (fun ls hl => ?_)
      refine lv_goto (tgt := 3) hx hb dX13_put_46 (by decide) ?_
      exact hL3 (j) mm g H _ ls hj hm_10 hm_16 hP hD hS (lv_sub hl [0, 1, 2] rfl)
  have hL1 : ∀ (j : Nat) (mm : Nat → Value) (g : Nat → Int32) (H : Heap) (locs : List Loc) (ls : Array Slot), j + bN (ub_by n 16) + bN (ub_by n 8) + bN (ub_by n 0) = J → mm 10 = .ref tb → mm 16 = .int (nI j) → va_P (dC, dI) vwCl [(h, .inr (14, mL mm)), (tb, .inl (cB, 200, .inl g))] H → va_D A [(h, .inr (14, mL mm)), (tb, .inl (cB, 200, .inl g))] → va_S A s.heap H locs → lv_has ls 3 [(2, .int 16), (0, .ref h), (1, .int n)] → W p l e (headSpec v_m_put ({ frames := 0, cells := 0, slots := 0, locals := 0 })).room s m ([.ref h, .int n] : List Value).toArray below meth c H locs 0 0 (MQ below (va_Qv (S := (Nat → Value) × (Nat → Int32)) (fun u => u.1 16 = .int (nI J) ∧ u.1 10 = .ref tb) (fun u t => va_P (dC, dI) vwCl [(h, .inr (14, mL u.1)), (tb, .inl (cB, 200, .inl u.2))] t.heap ∧ va_K (dC, dI) vwCl [(cB, .byte)] t ∧ va_D (A) [(h, .inr (14, mL u.1)), (tb, .inl (cB, 200, .inl u.2))]) (A)) ([.ref h, .int n] : List Value).toArray s 0 0 (A)) (F0 m 3 ls []) := by
    intro j mm g H locs ls hj hm_10 hm_16 hP hD hS hl
    refine lv_iload_n hx hb dX13_put_3 rfl (lv_at hl 0 rfl) ?_
    refine lv_if_lt (tgt := 49) hx hb dX13_put_4 (by decide) (fun c12 => by first | exact absurd c12 (by decide) | exact absurd (by decide) c12) (fun c12 => ?_)
    refine lv_iload_n hx hb dX13_put_7 rfl (lv_at hl 2 rfl) ?_
    refine lv_iload_n hx hb dX13_put_8 rfl (lv_at hl 0 rfl) ?_
    refine lv_ishr hx hb dX13_put_9 ?_
    refine lv_sipush (v := 255) hx hb dX13_put_10 (by decide) ?_
    refine lv_iand hx hb dX13_put_13 ?_
    refine lv_if_ne (tgt := 20) hx hb dX13_put_14 (by decide) (fun c13 => ?_) (fun c13 => ?_)
    · --¬ (n >>> ((16 : Int32) &&& 31)) &&& (255 : Int32) = 0
      have hz : bN (ub_by n 16) = 1 := bN_1 (fun hh => c13 ((ub_sh 16 (by decide) n).trans hh))
      rw [hz] at hj
      refine lv_aload_n hx hb dX13_put_20 rfl (lv_at hl 1 rfl) ?_
      refine va_get (D := (dC, dI)) (ci := 14) (v := .ref tb) (C := RX13) (T := TX13) (N := 97) hx hb hts iw_m_put_X13 hown hK hP 0 rfl rfl 10 (by decide) (hts (.fieldLink RX13 28 "UnlikeBoatsModel" "tape" "[B") (List.mem_of_getElem? (i := 1) rfl)) (fun _ h9 => h9) (mL_some (Nat.le_of_ble_eq_true rfl) hm_10) dX13_put_21 ?_
      refine lv_aload_n hx hb dX13_put_24 rfl (lv_at hl 1 rfl) ?_
      refine va_get (D := (dC, dI)) (ci := 14) (v := .int (nI j)) (C := RX13) (T := TX13) (N := 97) hx hb hts iw_m_put_X13 hown hK hP 0 rfl rfl 16 (by decide) (hts (.fieldLink RX13 259 "UnlikeBoatsModel" "length" "I") (List.mem_of_getElem? (i := 2) rfl)) (fun _ h9 => h9) (mL_some (Nat.le_of_ble_eq_true rfl) hm_16) dX13_put_25 ?_
      refine lv_iload_n hx hb dX13_put_28 rfl (lv_at hl 2 rfl) ?_
      refine lv_iload_n hx hb dX13_put_29 rfl (lv_at hl 0 rfl) ?_
      refine lv_ishr hx hb dX13_put_30 ?_
      refine lv_i2b hx hb dX13_put_31 rfl ?_
      refine va_bast hx hb hK hP hD hS 1 0 rfl rfl (vp_in_nI (n := j) (N := 200) (by omega) (by omega)) dX13_put_32 (fun H locs hP hD hS => ?_)
      obtain ⟨f14, ef14⟩ : ∃ z9 : Nat → Int32, z9 = upd g (nI j).toNatClampNeg (vp_nar .byte ((n >>> ((16 : Int32) &&& 31)).toInt8.toInt32)) := ⟨_, rfl⟩
      have hP : va_P (dC, dI) vwCl [(h, .inr (14, mL mm)), (tb, .inl (cB, 200, .inl (upd g (nI j).toNatClampNeg (vp_nar .byte ((n >>> ((16 : Int32) &&& 31)).toInt8.toInt32)))))] H := hP
      have hD : va_D A [(h, .inr (14, mL mm)), (tb, .inl (cB, 200, .inl (upd g (nI j).toNatClampNeg (vp_nar .byte ((n >>> ((16 : Int32) &&& 31)).toInt8.toInt32)))))] := hD
      rw [← ef14] at hP hD
      refine lv_aload_n hx hb dX13_put_33 rfl (lv_at hl 1 rfl) ?_
      refine lv_dup hx hb dX13_put_34 rfl ?_
      refine va_get (D := (dC, dI)) (ci := 14) (v := .int (nI j)) (C := RX13) (T := TX13) (N := 97) hx hb hts iw_m_put_X13 hown hK hP 0 rfl rfl 16 (by decide) (hts (.fieldLink RX13 259 "UnlikeBoatsModel" "length" "I") (List.mem_of_getElem? (i := 2) rfl)) (fun _ h9 => h9) (mL_some (Nat.le_of_ble_eq_true rfl) hm_16) dX13_put_35 ?_
      refine lv_iconst (v := 1) hx hb dX13_put_38 (by decide) ?_
      refine lv_iadd hx hb dX13_put_39 ?_
      refine lv_topi (fun y15 ey15 => ?_)
      obtain rfl : (nI (j + 1) : Int32) = y15 := (ey15.trans (nI_1 _)).symm
      refine va_put (D := (dC, dI)) (ci := 14) (v := .int (nI (j + 1))) (ty := .int) (C := RX13) (T := TX13) (N := 97) hx hb hts iw_m_put_X13 tyX13 tyX13_ok nmX13 hown hK hP hD hS 0 rfl rfl 16 (by decide) (hts (.fieldLink RX13 259 "UnlikeBoatsModel" "length" "I") (List.mem_of_getElem? (i := 2) rfl)) (fun _ h9 => h9) rfl (by decide +kernel) rfl rfl (mL_lt (Nat.le_of_ble_eq_true rfl)) dX13_put_40 (fun H locs hP hD hS => ?_)
      have hP : va_P (dC, dI) vwCl [(h, .inr (14, (mL mm).set 16 (.int (nI (j + 1))))), (tb, .inl (cB, 200, .inl f14))] H := hP
      have hD : va_D A [(h, .inr (14, (mL mm).set 16 (.int (nI (j + 1))))), (tb, .inl (cB, 200, .inl f14))] := hD
      obtain ⟨g16, eg16⟩ : ∃ z9, z9 = va_up mm 16 (.int (nI (j + 1))) := ⟨_, rfl⟩
      rw [mL_upd, ← eg16] at hP hD
      have hg16_10 : g16 10 = .ref tb := by rw [eg16]; exact (va_up_ne _ _ (by decide)).trans hm_10
      have hg16_16 : g16 16 = .int (nI (j + 1)) := by rw [eg16]; exact va_up_self _ _ _
      refine lv_iinc (v := 8) (lv' := [(2, .int 8), (0, .ref h), (1, .int n)]) hx hb dX13_put_43 hl (k := 0) rfl (by decide) (by decide) rfl (fun ls hl => ?_)
      refine lv_goto (tgt := 3) hx hb dX13_put_46 (by decide) ?_
      exact hL2 ((j + 1)) g16 f14 H _ ls hj hg16_10 hg16_16 hP hD hS (lv_sub hl [0, 1, 2] rfl)
    · --(n >>> ((16 : Int32) &&& 31)) &&& (255 : Int32) = 0
      have hz : bN (ub_by n 16) = 0 := bN_0 ((ub_sh 16 (by decide) n).symm.trans c13)
      rw [hz, Nat.add_zero] at hj
      refine lv_goto (tgt := 43) hx hb dX13_put_17 (by decide) ?_
      refine lv_iinc (v := 8) (lv' := [(2, .int 8), (0, .ref h), (1, .int n)]) hx hb dX13_put_43 hl (k := 0) rfl (by decide) (by decide) rfl (fun ls hl => ?_)
      refine lv_goto (tgt := 3) hx hb dX13_put_46 (by decide) ?_
      exact hL2 (j) mm g H _ ls hj hm_10 hm_16 hP hD hS (lv_sub hl [0, 1, 2] rfl)
  have hL0 : ∀ (j : Nat) (mm : Nat → Value) (g : Nat → Int32) (H : Heap) (locs : List Loc) (ls : Array Slot), j + bN (ub_by n 24) + bN (ub_by n 16) + bN (ub_by n 8) + bN (ub_by n 0) = J → mm 10 = .ref tb → mm 16 = .int (nI j) → va_P (dC, dI) vwCl [(h, .inr (14, mL mm)), (tb, .inl (cB, 200, .inl g))] H → va_D A [(h, .inr (14, mL mm)), (tb, .inl (cB, 200, .inl g))] → va_S A s.heap H locs → lv_has ls 3 [(2, .int 24), (0, .ref h), (1, .int n)] → W p l e (headSpec v_m_put ({ frames := 0, cells := 0, slots := 0, locals := 0 })).room s m ([.ref h, .int n] : List Value).toArray below meth c H locs 0 0 (MQ below (va_Qv (S := (Nat → Value) × (Nat → Int32)) (fun u => u.1 16 = .int (nI J) ∧ u.1 10 = .ref tb) (fun u t => va_P (dC, dI) vwCl [(h, .inr (14, mL u.1)), (tb, .inl (cB, 200, .inl u.2))] t.heap ∧ va_K (dC, dI) vwCl [(cB, .byte)] t ∧ va_D (A) [(h, .inr (14, mL u.1)), (tb, .inl (cB, 200, .inl u.2))]) (A)) ([.ref h, .int n] : List Value).toArray s 0 0 (A)) (F0 m 3 ls []) := by
    intro j mm g H locs ls hj hm_10 hm_16 hP hD hS hl
    refine lv_iload_n hx hb dX13_put_3 rfl (lv_at hl 0 rfl) ?_
    refine lv_if_lt (tgt := 49) hx hb dX13_put_4 (by decide) (fun c17 => by first | exact absurd c17 (by decide) | exact absurd (by decide) c17) (fun c17 => ?_)
    refine lv_iload_n hx hb dX13_put_7 rfl (lv_at hl 2 rfl) ?_
    refine lv_iload_n hx hb dX13_put_8 rfl (lv_at hl 0 rfl) ?_
    refine lv_ishr hx hb dX13_put_9 ?_
    refine lv_sipush (v := 255) hx hb dX13_put_10 (by decide) ?_
    refine lv_iand hx hb dX13_put_13 ?_
    refine lv_if_ne (tgt := 20) hx hb dX13_put_14 (by decide) (fun c18 => ?_) (fun c18 => ?_)
    · --¬ (n >>> ((24 : Int32) &&& 31)) &&& (255 : Int32) = 0
      have hz : bN (ub_by n 24) = 1 := bN_1 (fun hh => c18 ((ub_sh 24 (by decide) n).trans hh))
      rw [hz] at hj
      refine lv_aload_n hx hb dX13_put_20 rfl (lv_at hl 1 rfl) ?_
      refine va_get (D := (dC, dI)) (ci := 14) (v := .ref tb) (C := RX13) (T := TX13) (N := 97) hx hb hts iw_m_put_X13 hown hK hP 0 rfl rfl 10 (by decide) (hts (.fieldLink RX13 28 "UnlikeBoatsModel" "tape" "[B") (List.mem_of_getElem? (i := 1) rfl)) (fun _ h9 => h9) (mL_some (Nat.le_of_ble_eq_true rfl) hm_10) dX13_put_21 ?_
      refine lv_aload_n hx hb dX13_put_24 rfl (lv_at hl 1 rfl) ?_
      refine va_get (D := (dC, dI)) (ci := 14) (v := .int (nI j)) (C := RX13) (T := TX13) (N := 97) hx hb hts iw_m_put_X13 hown hK hP 0 rfl rfl 16 (by decide) (hts (.fieldLink RX13 259 "UnlikeBoatsModel" "length" "I") (List.mem_of_getElem? (i := 2) rfl)) (fun _ h9 => h9) (mL_some (Nat.le_of_ble_eq_true rfl) hm_16) dX13_put_25 ?_
      refine lv_iload_n hx hb dX13_put_28 rfl (lv_at hl 2 rfl) ?_
      refine lv_iload_n hx hb dX13_put_29 rfl (lv_at hl 0 rfl) ?_
      refine lv_ishr hx hb dX13_put_30 ?_
      refine lv_i2b hx hb dX13_put_31 rfl ?_
      refine va_bast hx hb hK hP hD hS 1 0 rfl rfl (vp_in_nI (n := j) (N := 200) (by omega) (by omega)) dX13_put_32 (fun H locs hP hD hS => ?_)
      obtain ⟨f19, ef19⟩ : ∃ z9 : Nat → Int32, z9 = upd g (nI j).toNatClampNeg (vp_nar .byte ((n >>> ((24 : Int32) &&& 31)).toInt8.toInt32)) := ⟨_, rfl⟩
      have hP : va_P (dC, dI) vwCl [(h, .inr (14, mL mm)), (tb, .inl (cB, 200, .inl (upd g (nI j).toNatClampNeg (vp_nar .byte ((n >>> ((24 : Int32) &&& 31)).toInt8.toInt32)))))] H := hP
      have hD : va_D A [(h, .inr (14, mL mm)), (tb, .inl (cB, 200, .inl (upd g (nI j).toNatClampNeg (vp_nar .byte ((n >>> ((24 : Int32) &&& 31)).toInt8.toInt32)))))] := hD
      rw [← ef19] at hP hD
      refine lv_aload_n hx hb dX13_put_33 rfl (lv_at hl 1 rfl) ?_
      refine lv_dup hx hb dX13_put_34 rfl ?_
      refine va_get (D := (dC, dI)) (ci := 14) (v := .int (nI j)) (C := RX13) (T := TX13) (N := 97) hx hb hts iw_m_put_X13 hown hK hP 0 rfl rfl 16 (by decide) (hts (.fieldLink RX13 259 "UnlikeBoatsModel" "length" "I") (List.mem_of_getElem? (i := 2) rfl)) (fun _ h9 => h9) (mL_some (Nat.le_of_ble_eq_true rfl) hm_16) dX13_put_35 ?_
      refine lv_iconst (v := 1) hx hb dX13_put_38 (by decide) ?_
      refine lv_iadd hx hb dX13_put_39 ?_
      refine lv_topi (fun y20 ey20 => ?_)
      obtain rfl : (nI (j + 1) : Int32) = y20 := (ey20.trans (nI_1 _)).symm
      refine va_put (D := (dC, dI)) (ci := 14) (v := .int (nI (j + 1))) (ty := .int) (C := RX13) (T := TX13) (N := 97) hx hb hts iw_m_put_X13 tyX13 tyX13_ok nmX13 hown hK hP hD hS 0 rfl rfl 16 (by decide) (hts (.fieldLink RX13 259 "UnlikeBoatsModel" "length" "I") (List.mem_of_getElem? (i := 2) rfl)) (fun _ h9 => h9) rfl (by decide +kernel) rfl rfl (mL_lt (Nat.le_of_ble_eq_true rfl)) dX13_put_40 (fun H locs hP hD hS => ?_)
      have hP : va_P (dC, dI) vwCl [(h, .inr (14, (mL mm).set 16 (.int (nI (j + 1))))), (tb, .inl (cB, 200, .inl f19))] H := hP
      have hD : va_D A [(h, .inr (14, (mL mm).set 16 (.int (nI (j + 1))))), (tb, .inl (cB, 200, .inl f19))] := hD
      obtain ⟨g21, eg21⟩ : ∃ z9, z9 = va_up mm 16 (.int (nI (j + 1))) := ⟨_, rfl⟩
      rw [mL_upd, ← eg21] at hP hD
      have hg21_10 : g21 10 = .ref tb := by rw [eg21]; exact (va_up_ne _ _ (by decide)).trans hm_10
      have hg21_16 : g21 16 = .int (nI (j + 1)) := by rw [eg21]; exact va_up_self _ _ _
      refine lv_iinc (v := 16) (lv' := [(2, .int 16), (0, .ref h), (1, .int n)]) hx hb dX13_put_43 hl (k := 0) rfl (by decide) (by decide) rfl (fun ls hl => ?_)
      refine lv_goto (tgt := 3) hx hb dX13_put_46 (by decide) ?_
      exact hL1 ((j + 1)) g21 f19 H _ ls hj hg21_10 hg21_16 hP hD hS (lv_sub hl [0, 1, 2] rfl)
    · --(n >>> ((24 : Int32) &&& 31)) &&& (255 : Int32) = 0
      have hz : bN (ub_by n 24) = 0 := bN_0 ((ub_sh 24 (by decide) n).symm.trans c18)
      rw [hz, Nat.add_zero] at hj
      refine lv_goto (tgt := 43) hx hb dX13_put_17 (by decide) ?_
      refine lv_iinc (v := 16) (lv' := [(2, .int 16), (0, .ref h), (1, .int n)]) hx hb dX13_put_43 hl (k := 0) rfl (by decide) (by decide) rfl (fun ls hl => ?_)
      refine lv_goto (tgt := 3) hx hb dX13_put_46 (by decide) ?_
      exact hL1 (j) mm g H _ ls hj hm_10 hm_16 hP hD hS (lv_sub hl [0, 1, 2] rfl)
  exact hL0 j0 f g0 _ _ ls (by rw [← hJ]; unfold nbN; omega) hf_tape hf_length hP hD hS (lv_sub hl [0, 1, 2] rfl)
def A_c_fill : List Cond := []
def v_c_fill : List Cond := .code yJ7_fill_53178 cJ7_fill_53178 4 none :: (A_c_fill)
set_option maxHeartbeats 4000000 in
set_option maxRecDepth 100000 in
theorem c_fill (l : Launch) (dC : Nat → ClassId) (dI : Nat → Nat → Nat) (a : Nat) (cA : ClassId) (n : Nat) (g0 : Nat → Int32) (v : Int32) (sz : Nat) (hn : n < 2 ^ 31) : Met l yJ7_fill_53178 v_c_fill ({ frames := 0, cells := 0, slots := 0, locals := 0 }) (va_Pc [.ref a, .int v] (fun U => U.heap.size = sz ∧ va_P (dC, dI) vwCl [(a, .inl (cA, n, .inl g0))] U.heap ∧ va_K (dC, dI) vwCl [(cA, .int)] U ∧ va_D (fun _ => True) [(a, .inl (cA, n, .inl g0))])) (va_Qv (S := Nat → Int32) (fun u => ∀ j, j < n → u j = v) (fun u t => va_P (dC, dI) vwCl [(a, .inl (cA, n, .inl u))] t.heap ∧ va_K (dC, dI) vwCl [(cA, .int)] t ∧ va_D (va_A [(a, .inl (cA, n, .inl g0))] sz) [(a, .inl (cA, n, .inl u))]) (va_A [(a, .inl (cA, n, .inl g0))] sz)) 0 0 (va_A [(a, .inl (cA, n, .inl g0))] sz) := by
  refine Met.ofW (cc := cJ7_fill_53178) (maxL := 4) (ret := none) (by decide) rfl ?_
  intro p e s m args below meth c s₁ B hml hv
  obtain ⟨rfl, hsz, hP, hK, hD0⟩ := hv
  have hx := B.exec
  have hb := B.bytes
  have hr := B.returns
  have hts := atoms_spec (ws := v_c_fill) B.pre
  have hown : s.vm.findClass RJ7 = some m.cls := findClass_of_methodNamed B.named
  have hlocks := B.notSynchronized
  subst hsz
  have hD := hD0.self (sz := s.heap.size)
  generalize hAe : va_A [(a, .inl (cA, n, .inl g0))] s.heap.size = A at hD ⊢
  have hA : ∀ q : Nat, s.heap.size ≤ q → A q := fun q h => by rw [← hAe]; exact Or.inr h
  have hS : va_S A s.heap s.heap [] := va_S.rf
  have hP : va_P (dC, dI) vwCl [(a, .inl (cA, n, .inl g0))] s.heap := hP
  have hl := lv_entry ([.ref a, .int v]) (n := 4) (Nat.le_of_ble_eq_true rfl)
  rw [lg_entry_eq]
  generalize (lg_sl ([.ref a, .int v]) ++ List.replicate (4 - (lg_sl ([.ref a, .int v])).length) Slot.unset).toArray = ls at hl ⊢
  have hl : lv_has ls 4 [(0, .ref a), (1, .int v)] := hl
  refine lv_iconst (v := 0) hx hb dJ7_fill_53178_0 (by decide) ?_
  refine lv_istore_n (lv' := [(2, .int 0), (0, .ref a), (1, .int v)]) hx hb dJ7_fill_53178_1 rfl hl (by decide) rfl (fun ls hl => ?_)
  refine lv_aload_n hx hb dJ7_fill_53178_2 rfl (lv_at hl 1 rfl) ?_
  refine va_alen (v := Int32.ofNat n) hx hb hK hP 0 0 rfl rfl rfl dJ7_fill_53178_3 ?_
  refine lv_istore_n (lv' := [(3, .int (Int32.ofNat n)), (2, .int 0), (0, .ref a), (1, .int v)]) hx hb dJ7_fill_53178_4 rfl hl (by decide) rfl (fun ls hl => ?_)
  have hLp : ∀ (d i : Nat) (gl0 : Nat → Int32) (H : Heap) (locs : List Loc) (ls : Array Slot), i + d = n → (∀ j, j < i → gl0 j = v) → va_P (dC, dI) vwCl [(a, .inl (cA, n, .inl gl0))] H → va_D A [(a, .inl (cA, n, .inl gl0))] → va_S A s.heap H locs → lv_has ls 4 [(3, .int (Int32.ofNat n)), (2, .int (nI i)), (0, .ref a), (1, .int v)] → W p l e (headSpec v_c_fill ({ frames := 0, cells := 0, slots := 0, locals := 0 })).room s m ([.ref a, .int v] : List Value).toArray below meth c H locs 0 0 (MQ below (va_Qv (S := Nat → Int32) (fun u => ∀ j, j < n → u j = v) (fun u t => va_P (dC, dI) vwCl [(a, .inl (cA, n, .inl u))] t.heap ∧ va_K (dC, dI) vwCl [(cA, .int)] t ∧ va_D (A) [(a, .inl (cA, n, .inl u))]) (A)) ([.ref a, .int v] : List Value).toArray s 0 0 (A)) (F0 m 5 ls []) := by
    intro d
    induction d with
    | zero =>
      intro i gl0 H locs ls hi hinv hP hD hS hl
      refine lv_iload_n hx hb dJ7_fill_53178_5 rfl (lv_at hl 1 rfl) ?_
      refine lv_iload_n hx hb dJ7_fill_53178_6 rfl (lv_at hl 0 rfl) ?_
      refine lv_icmp_ge (tgt := 20) hx hb dJ7_fill_53178_7 (by decide) (fun c1 => ?_) (fun c1 => by first | exact absurd c1 (nI_le (a := n) (b := i) (by omega) (by omega)) | exact absurd (nI_le (a := n) (b := i) (by omega) (by omega)) c1)
      obtain rfl : n = i := by omega
      have hP9 := hP.sub (ws' := [(a, .inl (cA, n, .inl gl0))]) [0] rfl
      have hD9 := hD.sub (ws' := [(a, .inl (cA, n, .inl gl0))]) [0] (by decide) rfl
      have hK9 := hK.sub (tys' := [(cA, .int)]) [0] rfl
      exact W.vret hx hb hr (fun t ht hW => ⟨⟨gl0, rfl, hinv, (by rw [ht]; exact hP9), va_K.moved hW.alike hK9, hD9⟩, hS.F ht⟩) hS.2.2 dJ7_fill_53178_20
    | succ d ih =>
      intro i gl0 H locs ls hi hinv hP hD hS hl
      refine lv_iload_n hx hb dJ7_fill_53178_5 rfl (lv_at hl 1 rfl) ?_
      refine lv_iload_n hx hb dJ7_fill_53178_6 rfl (lv_at hl 0 rfl) ?_
      refine lv_icmp_ge (tgt := 20) hx hb dJ7_fill_53178_7 (by decide) (fun c2 => by first | exact absurd c2 (nI_ge (a := i) (b := n) (by omega) (by omega)) | exact absurd (nI_ge (a := i) (b := n) (by omega) (by omega)) c2) (fun c2 => ?_)
      refine lv_aload_n hx hb dJ7_fill_53178_10 rfl (lv_at hl 2 rfl) ?_
      refine lv_iload_n hx hb dJ7_fill_53178_11 rfl (lv_at hl 1 rfl) ?_
      refine lv_iload_n hx hb dJ7_fill_53178_12 rfl (lv_at hl 3 rfl) ?_
      refine va_iast hx hb hK hP hD hS 0 0 rfl rfl (vp_in_nI (n := i) (N := n) (by omega) hn) dJ7_fill_53178_13 (fun H locs hP hD hS => ?_)
      obtain ⟨f3, ef3⟩ : ∃ z9 : Nat → Int32, z9 = upd gl0 (nI i).toNatClampNeg v := ⟨_, rfl⟩
      have hP : va_P (dC, dI) vwCl [(a, .inl (cA, n, .inl (upd gl0 (nI i).toNatClampNeg v)))] H := hP
      have hD : va_D A [(a, .inl (cA, n, .inl (upd gl0 (nI i).toNatClampNeg v)))] := hD
      rw [← ef3] at hP hD
      refine lv_iinc (v := nI (i + 1)) (lv' := [(2, .int (nI (i + 1))), (3, .int (Int32.ofNat n)), (0, .ref a), (1, .int v)]) hx hb dJ7_fill_53178_14 hl (k := 1) rfl (nI_1 _) (by decide) rfl (fun ls hl => ?_)
      refine lv_goto (tgt := 5) hx hb dJ7_fill_53178_17 (by decide) ?_
      exact ih (i + 1) f3 _ _ ls (by omega) (by rw [ef3, nI_clamp (by omega)]; exact upd_all hinv) hP hD hS (lv_sub hl [1, 0, 2, 3] rfl)
  exact hLp n 0 g0 _ _ ls (by omega) (fun j hj => absurd hj (Nat.not_lt_zero _)) hP hD hS (lv_sub hl [0, 1, 2, 3] rfl)
def A_m_clear : List Cond := [.fieldLink RX13 44 "UnlikeBoatsModel" "letters" "[I"]
def v_m_clear : List Cond := .code yX13_clear cX13_clear 2 none :: (A_m_clear ++ wsX130)
theorem iw_m_clear_X13 : ∀ w ∈ wsX130, w ∈ v_m_clear := fun _ h => List.mem_cons_of_mem _ (List.mem_append_right _ (h))
set_option maxHeartbeats 4000000 in
set_option maxRecDepth 100000 in
theorem m_clear (l : Launch) (dC : Nat → ClassId) (dI : Nat → Nat → Nat) (h : Nat) (f : Nat → Value) (ltr : Nat) (cI : ClassId) (gt : Nat → Int32) (sz : Nat) (hf_letters : f 15 = .ref ltr) : Met l yX13_clear v_m_clear ({ frames := 0, cells := 0, slots := 0, locals := 0 }) (va_Pc [.ref h] (fun U => U.heap.size = sz ∧ va_P (dC, dI) vwCl [(h, .inr (14, mL f)), (ltr, .inl (cI, 128, .inl gt))] U.heap ∧ va_K (dC, dI) vwCl [(cI, .int)] U ∧ va_D (fun _ => True) [(h, .inr (14, mL f)), (ltr, .inl (cI, 128, .inl gt))])) (va_Qv (S := Nat → Int32) (fun _ => True) (fun u t => va_P (dC, dI) vwCl [(h, .inr (14, mL f)), (ltr, .inl (cI, 128, .inl u))] t.heap ∧ va_K (dC, dI) vwCl [(cI, .int)] t ∧ va_D (va_A [(h, .inr (14, mL f)), (ltr, .inl (cI, 128, .inl gt))] sz) [(h, .inr (14, mL f)), (ltr, .inl (cI, 128, .inl u))]) (va_A [(h, .inr (14, mL f)), (ltr, .inl (cI, 128, .inl gt))] sz)) 0 0 (va_A [(h, .inr (14, mL f)), (ltr, .inl (cI, 128, .inl gt))] sz) := by
  refine Met.ofW (cc := cX13_clear) (maxL := 2) (ret := none) (by decide) rfl ?_
  intro p e s m args below meth c s₁ B hml hv
  obtain ⟨rfl, hsz, hP, hK, hD0⟩ := hv
  have hx := B.exec
  have hb := B.bytes
  have hr := B.returns
  have hts := atoms_spec (ws := v_m_clear) B.pre
  have hown : s.vm.findClass RX13 = some m.cls := findClass_of_methodNamed B.named
  have hlocks := B.notSynchronized
  subst hsz
  have hD := hD0.self (sz := s.heap.size)
  generalize hAe : va_A [(h, .inr (14, mL f)), (ltr, .inl (cI, 128, .inl gt))] s.heap.size = A at hD ⊢
  have hA : ∀ q : Nat, s.heap.size ≤ q → A q := fun q h => by rw [← hAe]; exact Or.inr h
  have hS : va_S A s.heap s.heap [] := va_S.rf
  have hP : va_P (dC, dI) vwCl [(h, .inr (14, mL f)), (ltr, .inl (cI, 128, .inl gt))] s.heap := hP
  have hl := lv_entry ([.ref h]) (n := 2) (Nat.le_of_ble_eq_true rfl)
  rw [lg_entry_eq]
  generalize (lg_sl ([.ref h]) ++ List.replicate (2 - (lg_sl ([.ref h])).length) Slot.unset).toArray = ls at hl ⊢
  have hl : lv_has ls 2 [(0, .ref h)] := hl
  refine lv_iconst (v := 0) hx hb dX13_clear_0 (by decide) ?_
  refine lv_istore_n (lv' := [(1, .int 0), (0, .ref h)]) hx hb dX13_clear_1 rfl hl (by decide) rfl (fun ls hl => ?_)
  have hLp : ∀ (d i : Nat) (gl0 : Nat → Int32) (H : Heap) (locs : List Loc) (ls : Array Slot), i + d = 128 → va_P (dC, dI) vwCl [(h, .inr (14, mL f)), (ltr, .inl (cI, 128, .inl gl0))] H → va_D A [(h, .inr (14, mL f)), (ltr, .inl (cI, 128, .inl gl0))] → va_S A s.heap H locs → lv_has ls 2 [(1, .int (nI i)), (0, .ref h)] → W p l e (headSpec v_m_clear ({ frames := 0, cells := 0, slots := 0, locals := 0 })).room s m ([.ref h] : List Value).toArray below meth c H locs 0 0 (MQ below (va_Qv (S := Nat → Int32) (fun _ => True) (fun u t => va_P (dC, dI) vwCl [(h, .inr (14, mL f)), (ltr, .inl (cI, 128, .inl u))] t.heap ∧ va_K (dC, dI) vwCl [(cI, .int)] t ∧ va_D (A) [(h, .inr (14, mL f)), (ltr, .inl (cI, 128, .inl u))]) (A)) ([.ref h] : List Value).toArray s 0 0 (A)) (F0 m 2 ls []) := by
    intro d
    induction d with
    | zero =>
      intro i gl0 H locs ls hi  hP hD hS hl
      refine lv_iload_n hx hb dX13_clear_2 rfl (lv_at hl 0 rfl) ?_
      refine lv_sipush (v := 128) hx hb dX13_clear_3 (by decide) ?_
      refine lv_icmp_ge (tgt := 22) hx hb dX13_clear_6 (by decide) (fun c1 => ?_) (fun c1 => by first | exact absurd c1 (nI_le (a := 128) (b := i) (by omega) (by omega)) | exact absurd (nI_le (a := 128) (b := i) (by omega) (by omega)) c1)
      have hP9 := hP.sub (ws' := [(h, .inr (14, mL f)), (ltr, .inl (cI, 128, .inl gl0))]) [0, 1] rfl
      have hD9 := hD.sub (ws' := [(h, .inr (14, mL f)), (ltr, .inl (cI, 128, .inl gl0))]) [0, 1] (by decide) rfl
      have hK9 := hK.sub (tys' := [(cI, .int)]) [0] rfl
      exact W.vret hx hb hr (fun t ht hW => ⟨⟨gl0, rfl, trivial, (by rw [ht]; exact hP9), va_K.moved hW.alike hK9, hD9⟩, hS.F ht⟩) hS.2.2 dX13_clear_22
    | succ d ih =>
      intro i gl0 H locs ls hi  hP hD hS hl
      refine lv_iload_n hx hb dX13_clear_2 rfl (lv_at hl 0 rfl) ?_
      refine lv_sipush (v := 128) hx hb dX13_clear_3 (by decide) ?_
      refine lv_icmp_ge (tgt := 22) hx hb dX13_clear_6 (by decide) (fun c2 => by first | exact absurd c2 (nI_ge (a := i) (b := 128) (by omega) (by omega)) | exact absurd (nI_ge (a := i) (b := 128) (by omega) (by omega)) c2) (fun c2 => ?_)
      refine lv_aload_n hx hb dX13_clear_9 rfl (lv_at hl 1 rfl) ?_
      refine va_get (D := (dC, dI)) (ci := 14) (v := .ref ltr) (C := RX13) (T := TX13) (N := 97) hx hb hts iw_m_clear_X13 hown hK hP 0 rfl rfl 15 (by decide) (hts (.fieldLink RX13 44 "UnlikeBoatsModel" "letters" "[I") (List.mem_of_getElem? (i := 1) rfl)) (fun _ h9 => h9) (mL_some (Nat.le_of_ble_eq_true rfl) hf_letters) dX13_clear_10 ?_
      refine lv_iload_n hx hb dX13_clear_13 rfl (lv_at hl 0 rfl) ?_
      refine lv_iconst (v := 0) hx hb dX13_clear_14 (by decide) ?_
      refine va_iast hx hb hK hP hD hS 1 0 rfl rfl (vp_in_nI (n := i) (N := 128) (by omega) (by omega)) dX13_clear_15 (fun H locs hP hD hS => ?_)
      obtain ⟨f3, ef3⟩ : ∃ z9 : Nat → Int32, z9 = upd gl0 (nI i).toNatClampNeg 0 := ⟨_, rfl⟩
      have hP : va_P (dC, dI) vwCl [(h, .inr (14, mL f)), (ltr, .inl (cI, 128, .inl (upd gl0 (nI i).toNatClampNeg 0)))] H := hP
      have hD : va_D A [(h, .inr (14, mL f)), (ltr, .inl (cI, 128, .inl (upd gl0 (nI i).toNatClampNeg 0)))] := hD
      rw [← ef3] at hP hD
      refine lv_iinc (v := nI (i + 1)) (lv' := [(1, .int (nI (i + 1))), (0, .ref h)]) hx hb dX13_clear_16 hl (k := 0) rfl (nI_1 _) (by decide) rfl (fun ls hl => ?_)
      refine lv_goto (tgt := 2) hx hb dX13_clear_19 (by decide) ?_
      exact ih (i + 1) f3 _ _ ls (by omega)  hP hD hS (lv_sub hl [0, 1] rfl)
  exact hLp 128 0 gt _ _ ls (by omega)  hP hD hS (lv_sub hl [0, 1] rfl)
