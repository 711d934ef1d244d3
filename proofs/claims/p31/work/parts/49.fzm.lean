set_option maxRecDepth 100000 in
theorem zh_dX12_corrected_0_0 : zc cX12_corrected 0 [42, 180, 0, 10, 27, 29, 182, 0, 162, 153, 0, 14, 42, 180, 0, 10] = true := by decide +kernel
set_option maxRecDepth 100000 in
theorem zh_dX12_corrected_16_16 : zc cX12_corrected 16 [28, 182, 0, 66, 154, 0, 6, 18, 172, 172, 42, 180, 0, 28, 27, 29] = true := by decide +kernel
set_option maxRecDepth 100000 in
theorem zh_dX12_corrected_32_32 : zc cX12_corrected 32 [182, 0, 173, 42, 180, 0, 28, 180, 0, 169, 28, 46, 154, 0, 15, 42] = true := by decide +kernel
set_option maxRecDepth 100000 in
theorem zh_dX12_corrected_48_48 : zc cX12_corrected 48 [180, 0, 28, 180, 0, 175, 28, 46, 167, 0, 5, 18, 172, 172] = true := by decide +kernel
set_option maxRecDepth 100000 in
theorem zh_dX12_placed_0_0 : zc cX12_placed 0 [42, 180, 0, 10, 27, 29, 182, 0, 162, 153, 0, 14, 42, 180, 0, 10] = true := by decide +kernel
set_option maxRecDepth 100000 in
theorem zh_dX12_placed_16_16 : zc cX12_placed 16 [28, 182, 0, 66, 154, 0, 5, 2, 172, 42, 180, 0, 28, 27, 29, 182] = true := by decide +kernel
set_option maxRecDepth 100000 in
theorem zh_dX12_placed_31_32 : zc cX12_placed 32 [0, 173, 42, 180, 0, 28, 180, 0, 169, 28, 46, 154, 0, 15, 42, 180] = true := by decide +kernel
set_option maxRecDepth 100000 in
theorem zh_dX12_placed_47_48 : zc cX12_placed 48 [0, 28, 180, 0, 178, 28, 46, 167, 0, 4, 2, 172] = true := by decide +kernel
theorem dX12_corrected_0 : decode cX12_corrected 0 = .ok (.aload_n 0, 1) := zo_42 (zi_at zh_dX12_corrected_0_0 0 rfl)
theorem dX12_corrected_1 : decode cX12_corrected 1 = .ok (.getfield 10, 3) := zo_180 (zi_at zh_dX12_corrected_0_0 1 rfl) (zi_at zh_dX12_corrected_0_0 2 rfl) (zi_at zh_dX12_corrected_0_0 3 rfl) rfl
theorem dX12_corrected_4 : decode cX12_corrected 4 = .ok (.iload_n 1, 1) := zo_27 (zi_at zh_dX12_corrected_0_0 4 rfl)
theorem dX12_corrected_5 : decode cX12_corrected 5 = .ok (.iload_n 3, 1) := zo_29 (zi_at zh_dX12_corrected_0_0 5 rfl)
theorem dX12_corrected_6 : decode cX12_corrected 6 = .ok (.invokevirtual 162, 3) := zo_182 (zi_at zh_dX12_corrected_0_0 6 rfl) (zi_at zh_dX12_corrected_0_0 7 rfl) (zi_at zh_dX12_corrected_0_0 8 rfl) rfl
theorem dX12_corrected_9 : decode cX12_corrected 9 = .ok (.ifCond .eq 14, 3) := zo_153 (zi_at zh_dX12_corrected_0_0 9 rfl) (zi_at zh_dX12_corrected_0_0 10 rfl) (zi_at zh_dX12_corrected_0_0 11 rfl) rfl
theorem dX12_corrected_12 : decode cX12_corrected 12 = .ok (.aload_n 0, 1) := zo_42 (zi_at zh_dX12_corrected_0_0 12 rfl)
theorem dX12_corrected_13 : decode cX12_corrected 13 = .ok (.getfield 10, 3) := zo_180 (zi_at zh_dX12_corrected_0_0 13 rfl) (zi_at zh_dX12_corrected_0_0 14 rfl) (zi_at zh_dX12_corrected_0_0 15 rfl) rfl
theorem dX12_corrected_16 : decode cX12_corrected 16 = .ok (.iload_n 2, 1) := zo_28 (zi_at zh_dX12_corrected_16_16 0 rfl)
theorem dX12_corrected_17 : decode cX12_corrected 17 = .ok (.invokevirtual 66, 3) := zo_182 (zi_at zh_dX12_corrected_16_16 1 rfl) (zi_at zh_dX12_corrected_16_16 2 rfl) (zi_at zh_dX12_corrected_16_16 3 rfl) rfl
theorem dX12_corrected_20 : decode cX12_corrected 20 = .ok (.ifCond .ne 6, 3) := zo_154 (zi_at zh_dX12_corrected_16_16 4 rfl) (zi_at zh_dX12_corrected_16_16 5 rfl) (zi_at zh_dX12_corrected_16_16 6 rfl) rfl
theorem dX12_corrected_23 : decode cX12_corrected 23 = .ok (.ldc 172, 2) := zo_18 (zi_at zh_dX12_corrected_16_16 7 rfl) (zi_at zh_dX12_corrected_16_16 8 rfl)
theorem dX12_corrected_25 : decode cX12_corrected 25 = .ok (.ireturn, 1) := zo_172 (zi_at zh_dX12_corrected_16_16 9 rfl)
theorem dX12_corrected_26 : decode cX12_corrected 26 = .ok (.aload_n 0, 1) := zo_42 (zi_at zh_dX12_corrected_16_16 10 rfl)
theorem dX12_corrected_27 : decode cX12_corrected 27 = .ok (.getfield 28, 3) := zo_180 (zi_at zh_dX12_corrected_16_16 11 rfl) (zi_at zh_dX12_corrected_16_16 12 rfl) (zi_at zh_dX12_corrected_16_16 13 rfl) rfl
theorem dX12_corrected_30 : decode cX12_corrected 30 = .ok (.iload_n 1, 1) := zo_27 (zi_at zh_dX12_corrected_16_16 14 rfl)
theorem dX12_corrected_31 : decode cX12_corrected 31 = .ok (.iload_n 3, 1) := zo_29 (zi_at zh_dX12_corrected_16_16 15 rfl)
theorem dX12_corrected_32 : decode cX12_corrected 32 = .ok (.invokevirtual 173, 3) := zo_182 (zi_at zh_dX12_corrected_32_32 0 rfl) (zi_at zh_dX12_corrected_32_32 1 rfl) (zi_at zh_dX12_corrected_32_32 2 rfl) rfl
theorem dX12_corrected_35 : decode cX12_corrected 35 = .ok (.aload_n 0, 1) := zo_42 (zi_at zh_dX12_corrected_32_32 3 rfl)
theorem dX12_corrected_36 : decode cX12_corrected 36 = .ok (.getfield 28, 3) := zo_180 (zi_at zh_dX12_corrected_32_32 4 rfl) (zi_at zh_dX12_corrected_32_32 5 rfl) (zi_at zh_dX12_corrected_32_32 6 rfl) rfl
theorem dX12_corrected_39 : decode cX12_corrected 39 = .ok (.getfield 169, 3) := zo_180 (zi_at zh_dX12_corrected_32_32 7 rfl) (zi_at zh_dX12_corrected_32_32 8 rfl) (zi_at zh_dX12_corrected_32_32 9 rfl) rfl
theorem dX12_corrected_42 : decode cX12_corrected 42 = .ok (.iload_n 2, 1) := zo_28 (zi_at zh_dX12_corrected_32_32 10 rfl)
theorem dX12_corrected_43 : decode cX12_corrected 43 = .ok (.iaload, 1) := zo_46 (zi_at zh_dX12_corrected_32_32 11 rfl)
theorem dX12_corrected_44 : decode cX12_corrected 44 = .ok (.ifCond .ne 15, 3) := zo_154 (zi_at zh_dX12_corrected_32_32 12 rfl) (zi_at zh_dX12_corrected_32_32 13 rfl) (zi_at zh_dX12_corrected_32_32 14 rfl) rfl
theorem dX12_corrected_47 : decode cX12_corrected 47 = .ok (.aload_n 0, 1) := zo_42 (zi_at zh_dX12_corrected_32_32 15 rfl)
theorem dX12_corrected_48 : decode cX12_corrected 48 = .ok (.getfield 28, 3) := zo_180 (zi_at zh_dX12_corrected_48_48 0 rfl) (zi_at zh_dX12_corrected_48_48 1 rfl) (zi_at zh_dX12_corrected_48_48 2 rfl) rfl
theorem dX12_corrected_51 : decode cX12_corrected 51 = .ok (.getfield 175, 3) := zo_180 (zi_at zh_dX12_corrected_48_48 3 rfl) (zi_at zh_dX12_corrected_48_48 4 rfl) (zi_at zh_dX12_corrected_48_48 5 rfl) rfl
theorem dX12_corrected_54 : decode cX12_corrected 54 = .ok (.iload_n 2, 1) := zo_28 (zi_at zh_dX12_corrected_48_48 6 rfl)
theorem dX12_corrected_55 : decode cX12_corrected 55 = .ok (.iaload, 1) := zo_46 (zi_at zh_dX12_corrected_48_48 7 rfl)
theorem dX12_corrected_56 : decode cX12_corrected 56 = .ok (.goto 5, 3) := zo_167 (zi_at zh_dX12_corrected_48_48 8 rfl) (zi_at zh_dX12_corrected_48_48 9 rfl) (zi_at zh_dX12_corrected_48_48 10 rfl) rfl
theorem dX12_corrected_59 : decode cX12_corrected 59 = .ok (.ldc 172, 2) := zo_18 (zi_at zh_dX12_corrected_48_48 11 rfl) (zi_at zh_dX12_corrected_48_48 12 rfl)
theorem dX12_corrected_61 : decode cX12_corrected 61 = .ok (.ireturn, 1) := zo_172 (zi_at zh_dX12_corrected_48_48 13 rfl)
theorem dX12_placed_0 : decode cX12_placed 0 = .ok (.aload_n 0, 1) := zo_42 (zi_at zh_dX12_placed_0_0 0 rfl)
theorem dX12_placed_1 : decode cX12_placed 1 = .ok (.getfield 10, 3) := zo_180 (zi_at zh_dX12_placed_0_0 1 rfl) (zi_at zh_dX12_placed_0_0 2 rfl) (zi_at zh_dX12_placed_0_0 3 rfl) rfl
theorem dX12_placed_4 : decode cX12_placed 4 = .ok (.iload_n 1, 1) := zo_27 (zi_at zh_dX12_placed_0_0 4 rfl)
theorem dX12_placed_5 : decode cX12_placed 5 = .ok (.iload_n 3, 1) := zo_29 (zi_at zh_dX12_placed_0_0 5 rfl)
theorem dX12_placed_6 : decode cX12_placed 6 = .ok (.invokevirtual 162, 3) := zo_182 (zi_at zh_dX12_placed_0_0 6 rfl) (zi_at zh_dX12_placed_0_0 7 rfl) (zi_at zh_dX12_placed_0_0 8 rfl) rfl
theorem dX12_placed_9 : decode cX12_placed 9 = .ok (.ifCond .eq 14, 3) := zo_153 (zi_at zh_dX12_placed_0_0 9 rfl) (zi_at zh_dX12_placed_0_0 10 rfl) (zi_at zh_dX12_placed_0_0 11 rfl) rfl
theorem dX12_placed_12 : decode cX12_placed 12 = .ok (.aload_n 0, 1) := zo_42 (zi_at zh_dX12_placed_0_0 12 rfl)
theorem dX12_placed_13 : decode cX12_placed 13 = .ok (.getfield 10, 3) := zo_180 (zi_at zh_dX12_placed_0_0 13 rfl) (zi_at zh_dX12_placed_0_0 14 rfl) (zi_at zh_dX12_placed_0_0 15 rfl) rfl
theorem dX12_placed_16 : decode cX12_placed 16 = .ok (.iload_n 2, 1) := zo_28 (zi_at zh_dX12_placed_16_16 0 rfl)
theorem dX12_placed_17 : decode cX12_placed 17 = .ok (.invokevirtual 66, 3) := zo_182 (zi_at zh_dX12_placed_16_16 1 rfl) (zi_at zh_dX12_placed_16_16 2 rfl) (zi_at zh_dX12_placed_16_16 3 rfl) rfl
theorem dX12_placed_20 : decode cX12_placed 20 = .ok (.ifCond .ne 5, 3) := zo_154 (zi_at zh_dX12_placed_16_16 4 rfl) (zi_at zh_dX12_placed_16_16 5 rfl) (zi_at zh_dX12_placed_16_16 6 rfl) rfl
theorem dX12_placed_23 : decode cX12_placed 23 = .ok (.iconst (-1), 1) := zo_2 (zi_at zh_dX12_placed_16_16 7 rfl)
theorem dX12_placed_24 : decode cX12_placed 24 = .ok (.ireturn, 1) := zo_172 (zi_at zh_dX12_placed_16_16 8 rfl)
theorem dX12_placed_25 : decode cX12_placed 25 = .ok (.aload_n 0, 1) := zo_42 (zi_at zh_dX12_placed_16_16 9 rfl)
theorem dX12_placed_26 : decode cX12_placed 26 = .ok (.getfield 28, 3) := zo_180 (zi_at zh_dX12_placed_16_16 10 rfl) (zi_at zh_dX12_placed_16_16 11 rfl) (zi_at zh_dX12_placed_16_16 12 rfl) rfl
theorem dX12_placed_29 : decode cX12_placed 29 = .ok (.iload_n 1, 1) := zo_27 (zi_at zh_dX12_placed_16_16 13 rfl)
theorem dX12_placed_30 : decode cX12_placed 30 = .ok (.iload_n 3, 1) := zo_29 (zi_at zh_dX12_placed_16_16 14 rfl)
theorem dX12_placed_31 : decode cX12_placed 31 = .ok (.invokevirtual 173, 3) := zo_182 (zi_at zh_dX12_placed_16_16 15 rfl) (zi_at zh_dX12_placed_31_32 0 rfl) (zi_at zh_dX12_placed_31_32 1 rfl) rfl
theorem dX12_placed_34 : decode cX12_placed 34 = .ok (.aload_n 0, 1) := zo_42 (zi_at zh_dX12_placed_31_32 2 rfl)
theorem dX12_placed_35 : decode cX12_placed 35 = .ok (.getfield 28, 3) := zo_180 (zi_at zh_dX12_placed_31_32 3 rfl) (zi_at zh_dX12_placed_31_32 4 rfl) (zi_at zh_dX12_placed_31_32 5 rfl) rfl
theorem dX12_placed_38 : decode cX12_placed 38 = .ok (.getfield 169, 3) := zo_180 (zi_at zh_dX12_placed_31_32 6 rfl) (zi_at zh_dX12_placed_31_32 7 rfl) (zi_at zh_dX12_placed_31_32 8 rfl) rfl
theorem dX12_placed_41 : decode cX12_placed 41 = .ok (.iload_n 2, 1) := zo_28 (zi_at zh_dX12_placed_31_32 9 rfl)
theorem dX12_placed_42 : decode cX12_placed 42 = .ok (.iaload, 1) := zo_46 (zi_at zh_dX12_placed_31_32 10 rfl)
theorem dX12_placed_43 : decode cX12_placed 43 = .ok (.ifCond .ne 15, 3) := zo_154 (zi_at zh_dX12_placed_31_32 11 rfl) (zi_at zh_dX12_placed_31_32 12 rfl) (zi_at zh_dX12_placed_31_32 13 rfl) rfl
theorem dX12_placed_46 : decode cX12_placed 46 = .ok (.aload_n 0, 1) := zo_42 (zi_at zh_dX12_placed_31_32 14 rfl)
theorem dX12_placed_47 : decode cX12_placed 47 = .ok (.getfield 28, 3) := zo_180 (zi_at zh_dX12_placed_31_32 15 rfl) (zi_at zh_dX12_placed_47_48 0 rfl) (zi_at zh_dX12_placed_47_48 1 rfl) rfl
theorem dX12_placed_50 : decode cX12_placed 50 = .ok (.getfield 178, 3) := zo_180 (zi_at zh_dX12_placed_47_48 2 rfl) (zi_at zh_dX12_placed_47_48 3 rfl) (zi_at zh_dX12_placed_47_48 4 rfl) rfl
theorem dX12_placed_53 : decode cX12_placed 53 = .ok (.iload_n 2, 1) := zo_28 (zi_at zh_dX12_placed_47_48 5 rfl)
theorem dX12_placed_54 : decode cX12_placed 54 = .ok (.iaload, 1) := zo_46 (zi_at zh_dX12_placed_47_48 6 rfl)
theorem dX12_placed_55 : decode cX12_placed 55 = .ok (.goto 4, 3) := zo_167 (zi_at zh_dX12_placed_47_48 7 rfl) (zi_at zh_dX12_placed_47_48 8 rfl) (zi_at zh_dX12_placed_47_48 9 rfl) rfl
theorem dX12_placed_58 : decode cX12_placed 58 = .ok (.iconst (-1), 1) := zo_2 (zi_at zh_dX12_placed_47_48 10 rfl)
theorem dX12_placed_59 : decode cX12_placed 59 = .ok (.ireturn, 1) := zo_172 (zi_at zh_dX12_placed_47_48 11 rfl)
theorem hz_yX9_read_2 : yX9_read.cls ≠ "java/lang/invoke/MethodHandle" ∧ yX9_read.cls ≠ "java/lang/invoke/VarHandle" ∧ (parseMethodDescriptor yX9_read.desc).map (fun d => d.parameters.length) = some 2 := by decide +kernel

def v_u_correctedX : List Cond := .code yX12_corrected cX12_corrected 4 (some .int) :: vA
abbrev rm_u_correctedX : Room := { frames := 6, cells := 0, slots := 0, locals := 240 }
def w_u_correctedX : Nat → Nat → Bool := wl [19, 20, 26, 27, 28, 29, 30] [(3, 6), (3, 7), (3, 8)]
set_option maxHeartbeats 4000000 in
set_option maxRecDepth 100000 in
theorem q_u_correctedX (l : Launch) (dC : Nat → ClassId) (dI : Nat → Nat → Nat) (cT : Nat → ClassId) (cf : Nat → Nat) (hC : CF cf) (ad : Nat → Nat) (E : Nat → va_E) (sz : Nat) (a0 : Int32) (a1 : Int32) (a2 : Int32) (hI0 : IXL cT (shC cf) (spC cf) (LC cf) ad E) (hh0 : RulAll cf E) : Met l yX12_corrected v_u_correctedX rm_u_correctedX (va_Pc [.ref (ad 0), .int a0, .int a1, .int a2] (HWL dC dI (TYC cT) cf ad E sz)) (va_Qi (S := Nat → va_E) (fun r u => IXL cT (shC cf) (spC cf) (LC cf) ad u ∧ Kp w_u_correctedX E u ∧ (((((((0 ≤ a2.toInt ∧ a2.toInt ≤ (xi (E 1) 0).toInt) ∧ (0 ≤ a0.toInt ∧ a0.toInt < ((cf 2 : Nat) : Int)) ∧ (xi (E (64 * (a0.toNatClampNeg + 1) + 6)) 0).toInt ≤ a2.toInt) ∧ (0 ≤ a1.toInt ∧ a1.toInt < (xi (E 1) 1).toInt)) → (CoR cf E a0 a2 a1.toNatClampNeg r)) ∧ (¬ (((0 ≤ a2.toInt ∧ a2.toInt ≤ (xi (E 1) 0).toInt) ∧ (0 ≤ a0.toInt ∧ a0.toInt < ((cf 2 : Nat) : Int)) ∧ (xi (E (64 * (a0.toNatClampNeg + 1) + 6)) 0).toInt ≤ a2.toInt) ∧ (0 ≤ a1.toInt ∧ a1.toInt < (xi (E 1) 1).toInt)) → (r.toInt = -1000000000)))))) (HBL dC dI (LC cf) ad) (va_A (WL (LC cf) ad E) sz)) 0 0 (va_A (WL (LC cf) ad E) sz) := by
  obtain ⟨⟨hc0, hc1, hc2, hc3, hc4, hc5⟩, hcr⟩ := id hC
  refine Met.ofW (cc := cX12_corrected) (maxL := 4) (ret := (some .int)) (by decide) rfl ?_
  intro p e s m args below meth c s₁ B hml hv
  obtain ⟨hargs, hsz, hP, hK, hD0, hEV⟩ := hv
  subst hsz
  have hx := B.exec
  have hb := B.bytes
  have hr := B.returns
  have hts := atoms_spec (ws := v_u_correctedX) B.pre
  have hown : s.vm.findClass RX12 = some m.cls := findClass_of_methodNamed B.named
  have hlocks := B.notSynchronized
  have hinX12 : ∀ w ∈ u_ws RX12 TX12 6, w ∈ v_u_correctedX := fun w h => vA_in _ w (in_X12 w h)
  have hinX9 : ∀ w ∈ u_ws RX9 TX9 9, w ∈ v_u_correctedX := fun w h => vA_in _ w (in_X9 w h)
  generalize hAe : va_A (WL (LC cf) ad E) s.heap.size = A at hEV ⊢
  have hA : ∀ q : Nat, s.heap.size ≤ q → A q := fun q h => by rw [← hAe]; exact Or.inr h
  have hD : va_D A (WL (LC cf) ad E) := by rw [← hAe]; exact hD0.self
  have hS : va_S A s.heap s.heap [] := va_S.rf
  have hI := hI0
  have hKp : Kp w_u_correctedX E E := Kp.rf
  have hl := lv_entry ([.ref (ad 0), .int a0, .int a1, .int a2]) (n := 4) (Nat.le_of_ble_eq_true rfl)
  obtain ⟨Q, hQ⟩ : ∃ Q, Q = MQ below (va_Qi (S := Nat → va_E) (fun r u => IXL cT (shC cf) (spC cf) (LC cf) ad u ∧ Kp w_u_correctedX E u ∧ (((((((0 ≤ a2.toInt ∧ a2.toInt ≤ (xi (E 1) 0).toInt) ∧ (0 ≤ a0.toInt ∧ a0.toInt < ((cf 2 : Nat) : Int)) ∧ (xi (E (64 * (a0.toNatClampNeg + 1) + 6)) 0).toInt ≤ a2.toInt) ∧ (0 ≤ a1.toInt ∧ a1.toInt < (xi (E 1) 1).toInt)) → (CoR cf E a0 a2 a1.toNatClampNeg r)) ∧ (¬ (((0 ≤ a2.toInt ∧ a2.toInt ≤ (xi (E 1) 0).toInt) ∧ (0 ≤ a0.toInt ∧ a0.toInt < ((cf 2 : Nat) : Int)) ∧ (xi (E (64 * (a0.toNatClampNeg + 1) + 6)) 0).toInt ≤ a2.toInt) ∧ (0 ≤ a1.toInt ∧ a1.toInt < (xi (E 1) 1).toInt)) → (r.toInt = -1000000000)))))) (HBL dC dI (LC cf) ad) (A)) args s 0 0 (A) := ⟨_, rfl⟩
  rw [← hQ, show entryFrame m args 4 = _ from (congrArg (fun z => entryFrame m z 4) hargs).trans (lg_entry_eq _ _ _)]
  generalize (lg_sl ([.ref (ad 0), .int a0, .int a1, .int a2]) ++ List.replicate (4 - (lg_sl ([.ref (ad 0), .int a0, .int a1, .int a2])).length) Slot.unset).toArray = ls at hl ⊢
  have hl : lv_has ls 4 [(0, .ref (ad 0)), (1, .int a0), (2, .int a1), (3, .int a2)] := hl
  refine lv_aload_n hx hb dX12_corrected_0 rfl (lv_at hl 0 rfl) ?_
  refine th_getL (ci := 13) (C := RX12) (T := TX12) (N := 6) (v := .ref (ad 1)) hx hb hts hinX12 hown hK hP hI 0 (mF 0 rfl) rfl rfl 0 (Nat.le_of_ble_eq_true rfl) (hts _ (vA_in _ _ (in_10 _ (zs16 (zs1 (zs0)))))) (fun _ h9 => h9) (hI.fr 0 (mF 0 rfl) rfl (Nat.le_of_ble_eq_true rfl) 1 rfl) dX12_corrected_1 ?_
  refine lv_iload_n hx hb dX12_corrected_4 rfl (lv_at hl 1 rfl) ?_
  refine lv_iload_n hx hb dX12_corrected_5 rfl (lv_at hl 3 rfl) ?_
  refine th_riL (va_runV (As := [.int a0, .int a2]) (rest := []) ⟨hx, hb, hml, hown, hts⟩ (q_isCountedC l dC dI cT cf hC ad E s.heap.size a0 a2 hI) (cwV 2 hts (gi_V (in_13 _ (zs16 (zs16 (zs4 (zs1 (zs1 (zs0))))))) (in_13 _ (zs16 (zs16 (zs4 (zs1 (zs1 (zs1 (zs0)))))))) (in_14 _ zs0) (in_5 _ (zs4 (zs1 (zs1 (zs0))))) (in_5 _ (zs16 (zs16 (zs4 (zs1 (zs1 (zs1 (zs0))))))))) rfl rfl rfl ⟨rfl, hz_yX0_isCounted_2⟩ ⟨Nat.le_of_ble_eq_true rfl, Nat.le_of_ble_eq_true rfl⟩) ⟨HWL_bl, va_recv hK hP (ci := 1) (q0 := posL 1 (LC cf)) rfl (hI.ob 1 (mF 1 rfl) rfl), (HWL_wi hP hK (WL_D hD) hS hA hEV)⟩ rfl rfl hl.1 rfl (lv_room (Nat.le_of_ble_eq_true rfl)) dX12_corrected_6 ⟨Nat.le_of_ble_eq_true rfl, Nat.le_of_ble_eq_true rfl⟩) hS hP (fun r1 H locs hw hP hS => ?_)
  rcases hw with hw | hw
  · -- isCountedC, case 0
    obtain ⟨rfl, f2, f3, f4⟩ := hw
    have i5 : 0 ≤ (xi (E 1) 0).toInt ∧ (xi (E 1) 0).toInt ≤ 400 := hI0.iv 1 (mF 1 rfl) rfl (Nat.le_of_ble_eq_true rfl) rfl
    refine lv_if_eq (tgt := 23) hx hb dX12_corrected_9 (by decide) (fun c6 => ?_) (fun c6 => ?_)
    · --9 taken
      exact absurd c6 (by decide)
    · --9 not
      refine lv_aload_n hx hb dX12_corrected_12 rfl (lv_at hl 0 rfl) ?_
      refine th_getL (ci := 13) (C := RX12) (T := TX12) (N := 6) (v := .ref (ad 1)) hx hb hts hinX12 hown hK hP hI 0 (mF 0 rfl) rfl rfl 0 (Nat.le_of_ble_eq_true rfl) (hts _ (vA_in _ _ (in_10 _ (zs16 (zs1 (zs0)))))) (fun _ h9 => h9) (hI.fr 0 (mF 0 rfl) rfl (Nat.le_of_ble_eq_true rfl) 1 rfl) dX12_corrected_13 ?_
      refine lv_iload_n hx hb dX12_corrected_16 rfl (lv_at hl 2 rfl) ?_
      refine th_riL (va_runV (As := [.int a1]) (rest := []) ⟨hx, hb, hml, hown, hts⟩ (q_isBoatC l dC dI cT cf hC ad E H.size a1 hI) (cwV 1 hts (gi_V (in_10 _ (zs16 (zs4 (zs4 (zs1 (zs1 (zs1 (zs0)))))))) (in_6 _ (zs4 (zs4 (zs4 (zs0))))) (in_6 _ (zs4 (zs4 (zs4 (zs1 (zs0)))))) (in_5 _ (zs4 (zs1 (zs1 (zs0))))) (in_5 _ (zs16 (zs16 (zs4 (zs1 (zs1 (zs0)))))))) rfl rfl rfl ⟨rfl, hz_yX0_isBoat_1⟩ ⟨Nat.le_of_ble_eq_true rfl, Nat.le_of_ble_eq_true rfl⟩) ⟨HWL_bl, va_recv hK hP (ci := 1) (q0 := posL 1 (LC cf)) rfl (hI.ob 1 (mF 1 rfl) rfl), (HWL_wi hP hK (WL_D hD) hS hA hEV)⟩ rfl rfl hl.1 rfl (lv_room (Nat.le_of_ble_eq_true rfl)) dX12_corrected_17 ⟨Nat.le_of_ble_eq_true rfl, Nat.le_of_ble_eq_true rfl⟩) hS hP (fun r7 H locs hw hP hS => ?_)
      rcases hw with hw | hw
      · -- isBoatC, case 0
        obtain ⟨rfl, f8, f9⟩ := hw
        have i10 : 0 ≤ (xi (E 1) 1).toInt ∧ (xi (E 1) 1).toInt ≤ 16 := hI0.iv 1 (mF 1 rfl) rfl (Nat.le_of_ble_eq_true rfl) rfl
        refine lv_if_ne (tgt := 26) hx hb dX12_corrected_20 (by decide) (fun c11 => ?_) (fun c11 => ?_)
        · --20 taken
          refine lv_aload_n hx hb dX12_corrected_26 rfl (lv_at hl 0 rfl) ?_
          refine th_getL (ci := 13) (C := RX12) (T := TX12) (N := 6) (v := .ref (ad 3)) hx hb hts hinX12 hown hK hP hI 0 (mF 0 rfl) rfl rfl 2 (Nat.le_of_ble_eq_true rfl) (hts _ (vA_in _ _ (in_13 _ (zs16 (zs16 (zs4 (zs0))))))) (fun _ h9 => h9) (hI.fr 0 (mF 0 rfl) rfl (Nat.le_of_ble_eq_true rfl) 3 rfl) dX12_corrected_27 ?_
          refine lv_iload_n hx hb dX12_corrected_30 rfl (lv_at hl 1 rfl) ?_
          refine lv_iload_n hx hb dX12_corrected_31 rfl (lv_at hl 3 rfl) ?_
          refine th_vL (va_runV (As := [.int a0, .int a2]) (rest := []) ⟨hx, hb, hml, hown, hts⟩ (q_sheetX l dC dI cT cf hC ad E H.size a0 a2 hI f3 (by omega) (by exact hh0)) (cwV 2 hts (gi_V (in_14 _ (zs4 (zs0))) (in_11 _ (zs16 (zs16 (zs1 (zs1 (zs1 (zs0))))))) (in_11 _ (zs16 (zs16 (zs4 (zs0))))) (in_11 _ (zs16 (zs16 (zs4 (zs1 (zs0)))))) (in_11 _ (zs16 (zs16 (zs4 (zs1 (zs1 (zs0)))))))) rfl rfl rfl ⟨rfl, hz_yX9_read_2⟩ ⟨Nat.le_of_ble_eq_true rfl, Nat.le_of_ble_eq_true rfl⟩) ⟨HWL_bl, va_recv hK hP (ci := 10) (q0 := posL 3 (LC cf)) rfl (hI.ob 3 (mF 3 rfl) rfl), (HWL_wi hP hK (WL_D hD) hS hA hEV)⟩ rfl rfl hl.1 rfl (lv_room (Nat.le_of_ble_eq_true rfl)) dX12_corrected_32 ⟨Nat.le_of_ble_eq_true rfl, Nat.le_of_ble_eq_true rfl⟩) (WL_D hD) hS hA (fun E13 H locs hw hP hS => ?_)
          obtain ⟨hI, kq14, hw⟩ := hw
          have hKb := hKp
          have hKp := hKp.tr kq14 (wl_sub rfl rfl)
          obtain ⟨y15, ey15⟩ : ∃ y, xi (E13 3) 6 = y := ⟨_, rfl⟩
          have fy15 : xv (E13 3) 6 = .int y15 := (hI.fi 3 (mF 3 rfl) rfl (Nat.le_of_ble_eq_true rfl) rfl).trans (congrArg Value.int ey15)
          have i16 : -1 ≤ y15.toInt ∧ y15.toInt ≤ 15 := by rw [← ey15]; exact hI.iv 3 (mF 3 rfl) rfl (Nat.le_of_ble_eq_true rfl) rfl
          obtain ⟨y17, ey17⟩ : ∃ y, xi (E13 3) 7 = y := ⟨_, rfl⟩
          have fy17 : xv (E13 3) 7 = .int y17 := (hI.fi 3 (mF 3 rfl) rfl (Nat.le_of_ble_eq_true rfl) rfl).trans (congrArg Value.int ey17)
          have i18 : 0 ≤ y17.toInt ∧ y17.toInt ≤ 16 := by rw [← ey17]; exact hI.iv 3 (mF 3 rfl) rfl (Nat.le_of_ble_eq_true rfl) rfl
          obtain ⟨y19, ey19⟩ : ∃ y, xi (E13 3) 8 = y := ⟨_, rfl⟩
          have fy19 : xv (E13 3) 8 = .int y19 := (hI.fi 3 (mF 3 rfl) rfl (Nat.le_of_ble_eq_true rfl) rfl).trans (congrArg Value.int ey19)
          have i20 : 0 ≤ y19.toInt ∧ y19.toInt ≤ 16 := by rw [← ey19]; exact hI.iv 3 (mF 3 rfl) rfl (Nat.le_of_ble_eq_true rfl) rfl
          have f21 := hw
          refine lv_aload_n hx hb dX12_corrected_35 rfl (lv_at hl 0 rfl) ?_
          refine th_getL (ci := 13) (C := RX12) (T := TX12) (N := 6) (v := .ref (ad 3)) hx hb hts hinX12 hown hK hP hI 0 (mF 0 rfl) rfl rfl 2 (Nat.le_of_ble_eq_true rfl) (hts _ (vA_in _ _ (in_13 _ (zs16 (zs16 (zs4 (zs0))))))) (fun _ h9 => h9) (hI.fr 0 (mF 0 rfl) rfl (Nat.le_of_ble_eq_true rfl) 3 rfl) dX12_corrected_36 ?_
          refine th_getL (ci := 10) (C := RX9) (T := TX9) (N := 9) (v := .ref (ad 26)) hx hb hts hinX9 hown hK hP hI 3 (mF 3 rfl) rfl rfl 1 (Nat.le_of_ble_eq_true rfl) (hts _ (vA_in _ _ (in_13 _ (zs16 (zs16 (zs4 (zs1 (zs0)))))))) (fun _ h9 => h9) (hI.fr 3 (mF 3 rfl) rfl (Nat.le_of_ble_eq_true rfl) 26 rfl) dX12_corrected_39 ?_
          refine lv_iload_n hx hb dX12_corrected_42 rfl (lv_at hl 2 rfl) ?_
          have n23 : vp_in a1 16 := (iv_in (n := 16) f9 (by decide))
          refine th_ialdL hx hb hK hP hI 26 (mF 26 rfl) rfl rfl n23 dX12_corrected_43 (fun y22 ey22 => ?_)
          have iy22 : -1 ≤ y22.toInt ∧ y22.toInt ≤ 5 := hI.el 26 (mF 26 rfl) rfl n23 (fun _ => rfl) ey22
          refine lv_if_ne (tgt := 59) hx hb dX12_corrected_44 (by decide) (fun c24 => ?_) (fun c24 => ?_)
          · --44 taken
            have t25 : ¬ y22.toInt = 0 := ti_ne c24
            refine lv_ldc hx hb hown (hts _ (vA_in _ _ (in_11 _ (zs4 (zs1 (zs1 (zs1 (zs0)))))))) dX12_corrected_59 ?_
            rw [hQ]
            exact W.iret (v := (-1000000000)) hx hb hr (fun t ht hW => ⟨⟨(-1000000000), E13, rfl, ⟨hI, hKp, ⟨fun _ => CoR.n (c := y22) (r := (-1000000000 : Int32)) f21 (by rw [tn_]; omega) ey22 (by omega) rfl, fun g9 => by exfalso; omega⟩⟩, by show va_P (dC, dI) vwCl (WL (LC cf) ad E13) t.heap; rw [ht]; exact hP⟩, hS.F ht⟩) hS.2.2 dX12_corrected_61
          · --44 not
            have t26 : y22.toInt = 0 := ti_eq c24
            have i27 : 0 ≤ y22.toInt ∧ y22.toInt ≤ 0 := iv_eqi t26 iy22 (il_ 0) (by decide)
            refine lv_aload_n hx hb dX12_corrected_47 rfl (lv_at hl 0 rfl) ?_
            refine th_getL (ci := 13) (C := RX12) (T := TX12) (N := 6) (v := .ref (ad 3)) hx hb hts hinX12 hown hK hP hI 0 (mF 0 rfl) rfl rfl 2 (Nat.le_of_ble_eq_true rfl) (hts _ (vA_in _ _ (in_13 _ (zs16 (zs16 (zs4 (zs0))))))) (fun _ h9 => h9) (hI.fr 0 (mF 0 rfl) rfl (Nat.le_of_ble_eq_true rfl) 3 rfl) dX12_corrected_48 ?_
            refine th_getL (ci := 10) (C := RX9) (T := TX9) (N := 9) (v := .ref (ad 29)) hx hb hts hinX9 hown hK hP hI 3 (mF 3 rfl) rfl rfl 4 (Nat.le_of_ble_eq_true rfl) (hts _ (vA_in _ _ (in_14 _ (zs1 (zs1 (zs1 (zs0))))))) (fun _ h9 => h9) (hI.fr 3 (mF 3 rfl) rfl (Nat.le_of_ble_eq_true rfl) 29 rfl) dX12_corrected_51 ?_
            refine lv_iload_n hx hb dX12_corrected_54 rfl (lv_at hl 2 rfl) ?_
            have n29 : vp_in a1 16 := (iv_in (n := 16) f9 (by decide))
            refine th_ialdL hx hb hK hP hI 29 (mF 29 rfl) rfl rfl n29 dX12_corrected_55 (fun y28 ey28 => ?_)
            have iy28 : -100000 ≤ y28.toInt ∧ y28.toInt ≤ 400000 := hI.el 29 (mF 29 rfl) rfl n29 (fun _ => rfl) ey28
            refine lv_goto (tgt := 61) hx hb dX12_corrected_56 (by decide) ?_
            rw [hQ]
            exact W.iret (v := y28) hx hb hr (fun t ht hW => ⟨⟨y28, E13, rfl, ⟨hI, hKp, ⟨fun _ => CoR.y (c := y22) f21 (by rw [tn_]; omega) ey22 (by omega) ey28, fun g9 => by exfalso; omega⟩⟩, by show va_P (dC, dI) vwCl (WL (LC cf) ad E13) t.heap; rw [ht]; exact hP⟩, hS.F ht⟩) hS.2.2 dX12_corrected_61
        · --20 not
          exact absurd c11 (by decide)
      · -- isBoatC, case 1
        obtain ⟨rfl, f30⟩ := hw
        have i31 : 0 ≤ (xi (E 1) 1).toInt ∧ (xi (E 1) 1).toInt ≤ 16 := hI0.iv 1 (mF 1 rfl) rfl (Nat.le_of_ble_eq_true rfl) rfl
        refine lv_if_ne (tgt := 26) hx hb dX12_corrected_20 (by decide) (fun c32 => ?_) (fun c32 => ?_)
        · --20 taken
          exact absurd c32 (by decide)
        · --20 not
          refine lv_ldc hx hb hown (hts _ (vA_in _ _ (in_11 _ (zs4 (zs1 (zs1 (zs1 (zs0)))))))) dX12_corrected_23 ?_
          rw [hQ]
          exact W.iret (v := (-1000000000)) hx hb hr (fun t ht hW => ⟨⟨(-1000000000), E, rfl, ⟨hI, hKp, ⟨fun g9 => by exfalso; omega, fun _ => rfl⟩⟩, by show va_P (dC, dI) vwCl (WL (LC cf) ad E) t.heap; rw [ht]; exact hP⟩, hS.F ht⟩) hS.2.2 dX12_corrected_25
  · -- isCountedC, case 1
    obtain ⟨rfl, f33⟩ := hw
    have i34 : 0 ≤ (xi (E 1) 0).toInt ∧ (xi (E 1) 0).toInt ≤ 400 := hI0.iv 1 (mF 1 rfl) rfl (Nat.le_of_ble_eq_true rfl) rfl
    refine lv_if_eq (tgt := 23) hx hb dX12_corrected_9 (by decide) (fun c35 => ?_) (fun c35 => ?_)
    · --9 taken
      refine lv_ldc hx hb hown (hts _ (vA_in _ _ (in_11 _ (zs4 (zs1 (zs1 (zs1 (zs0)))))))) dX12_corrected_23 ?_
      rw [hQ]
      exact W.iret (v := (-1000000000)) hx hb hr (fun t ht hW => ⟨⟨(-1000000000), E, rfl, ⟨hI, hKp, ⟨fun g9 => by exfalso; omega, fun _ => rfl⟩⟩, by show va_P (dC, dI) vwCl (WL (LC cf) ad E) t.heap; rw [ht]; exact hP⟩, hS.F ht⟩) hS.2.2 dX12_corrected_25
    · --9 not
      exact absurd c35 (by decide)
def v_u_placedX : List Cond := .code yX12_placed cX12_placed 4 (some .int) :: vA
abbrev rm_u_placedX : Room := { frames := 6, cells := 0, slots := 0, locals := 240 }
def w_u_placedX : Nat → Nat → Bool := wl [19, 20, 26, 27, 28, 29, 30] [(3, 6), (3, 7), (3, 8)]
set_option maxHeartbeats 4000000 in
set_option maxRecDepth 100000 in
theorem q_u_placedX (l : Launch) (dC : Nat → ClassId) (dI : Nat → Nat → Nat) (cT : Nat → ClassId) (cf : Nat → Nat) (hC : CF cf) (ad : Nat → Nat) (E : Nat → va_E) (sz : Nat) (a0 : Int32) (a1 : Int32) (a2 : Int32) (hI0 : IXL cT (shC cf) (spC cf) (LC cf) ad E) (hh0 : RulAll cf E) : Met l yX12_placed v_u_placedX rm_u_placedX (va_Pc [.ref (ad 0), .int a0, .int a1, .int a2] (HWL dC dI (TYC cT) cf ad E sz)) (va_Qi (S := Nat → va_E) (fun r u => IXL cT (shC cf) (spC cf) (LC cf) ad u ∧ Kp w_u_placedX E u ∧ (((((((0 ≤ a2.toInt ∧ a2.toInt ≤ (xi (E 1) 0).toInt) ∧ (0 ≤ a0.toInt ∧ a0.toInt < ((cf 2 : Nat) : Int)) ∧ (xi (E (64 * (a0.toNatClampNeg + 1) + 6)) 0).toInt ≤ a2.toInt) ∧ (0 ≤ a1.toInt ∧ a1.toInt < (xi (E 1) 1).toInt)) → (PlX cf E a0 a2 a1.toNatClampNeg r.toInt)) ∧ (¬ (((0 ≤ a2.toInt ∧ a2.toInt ≤ (xi (E 1) 0).toInt) ∧ (0 ≤ a0.toInt ∧ a0.toInt < ((cf 2 : Nat) : Int)) ∧ (xi (E (64 * (a0.toNatClampNeg + 1) + 6)) 0).toInt ≤ a2.toInt) ∧ (0 ≤ a1.toInt ∧ a1.toInt < (xi (E 1) 1).toInt)) → (r.toInt = -1)))))) (HBL dC dI (LC cf) ad) (va_A (WL (LC cf) ad E) sz)) 0 0 (va_A (WL (LC cf) ad E) sz) := by
  obtain ⟨⟨hc0, hc1, hc2, hc3, hc4, hc5⟩, hcr⟩ := id hC
  refine Met.ofW (cc := cX12_placed) (maxL := 4) (ret := (some .int)) (by decide) rfl ?_
  intro p e s m args below meth c s₁ B hml hv
  obtain ⟨hargs, hsz, hP, hK, hD0, hEV⟩ := hv
  subst hsz
  have hx := B.exec
  have hb := B.bytes
  have hr := B.returns
  have hts := atoms_spec (ws := v_u_placedX) B.pre
  have hown : s.vm.findClass RX12 = some m.cls := findClass_of_methodNamed B.named
  have hlocks := B.notSynchronized
  have hinX12 : ∀ w ∈ u_ws RX12 TX12 6, w ∈ v_u_placedX := fun w h => vA_in _ w (in_X12 w h)
  have hinX9 : ∀ w ∈ u_ws RX9 TX9 9, w ∈ v_u_placedX := fun w h => vA_in _ w (in_X9 w h)
  generalize hAe : va_A (WL (LC cf) ad E) s.heap.size = A at hEV ⊢
  have hA : ∀ q : Nat, s.heap.size ≤ q → A q := fun q h => by rw [← hAe]; exact Or.inr h
  have hD : va_D A (WL (LC cf) ad E) := by rw [← hAe]; exact hD0.self
  have hS : va_S A s.heap s.heap [] := va_S.rf
  have hI := hI0
  have hKp : Kp w_u_placedX E E := Kp.rf
  have hl := lv_entry ([.ref (ad 0), .int a0, .int a1, .int a2]) (n := 4) (Nat.le_of_ble_eq_true rfl)
  obtain ⟨Q, hQ⟩ : ∃ Q, Q = MQ below (va_Qi (S := Nat → va_E) (fun r u => IXL cT (shC cf) (spC cf) (LC cf) ad u ∧ Kp w_u_placedX E u ∧ (((((((0 ≤ a2.toInt ∧ a2.toInt ≤ (xi (E 1) 0).toInt) ∧ (0 ≤ a0.toInt ∧ a0.toInt < ((cf 2 : Nat) : Int)) ∧ (xi (E (64 * (a0.toNatClampNeg + 1) + 6)) 0).toInt ≤ a2.toInt) ∧ (0 ≤ a1.toInt ∧ a1.toInt < (xi (E 1) 1).toInt)) → (PlX cf E a0 a2 a1.toNatClampNeg r.toInt)) ∧ (¬ (((0 ≤ a2.toInt ∧ a2.toInt ≤ (xi (E 1) 0).toInt) ∧ (0 ≤ a0.toInt ∧ a0.toInt < ((cf 2 : Nat) : Int)) ∧ (xi (E (64 * (a0.toNatClampNeg + 1) + 6)) 0).toInt ≤ a2.toInt) ∧ (0 ≤ a1.toInt ∧ a1.toInt < (xi (E 1) 1).toInt)) → (r.toInt = -1)))))) (HBL dC dI (LC cf) ad) (A)) args s 0 0 (A) := ⟨_, rfl⟩
  rw [← hQ, show entryFrame m args 4 = _ from (congrArg (fun z => entryFrame m z 4) hargs).trans (lg_entry_eq _ _ _)]
  generalize (lg_sl ([.ref (ad 0), .int a0, .int a1, .int a2]) ++ List.replicate (4 - (lg_sl ([.ref (ad 0), .int a0, .int a1, .int a2])).length) Slot.unset).toArray = ls at hl ⊢
  have hl : lv_has ls 4 [(0, .ref (ad 0)), (1, .int a0), (2, .int a1), (3, .int a2)] := hl
  refine lv_aload_n hx hb dX12_placed_0 rfl (lv_at hl 0 rfl) ?_
  refine th_getL (ci := 13) (C := RX12) (T := TX12) (N := 6) (v := .ref (ad 1)) hx hb hts hinX12 hown hK hP hI 0 (mF 0 rfl) rfl rfl 0 (Nat.le_of_ble_eq_true rfl) (hts _ (vA_in _ _ (in_10 _ (zs16 (zs1 (zs0)))))) (fun _ h9 => h9) (hI.fr 0 (mF 0 rfl) rfl (Nat.le_of_ble_eq_true rfl) 1 rfl) dX12_placed_1 ?_
  refine lv_iload_n hx hb dX12_placed_4 rfl (lv_at hl 1 rfl) ?_
  refine lv_iload_n hx hb dX12_placed_5 rfl (lv_at hl 3 rfl) ?_
  refine th_riL (va_runV (As := [.int a0, .int a2]) (rest := []) ⟨hx, hb, hml, hown, hts⟩ (q_isCountedC l dC dI cT cf hC ad E s.heap.size a0 a2 hI) (cwV 2 hts (gi_V (in_13 _ (zs16 (zs16 (zs4 (zs1 (zs1 (zs0))))))) (in_13 _ (zs16 (zs16 (zs4 (zs1 (zs1 (zs1 (zs0)))))))) (in_14 _ zs0) (in_5 _ (zs4 (zs1 (zs1 (zs0))))) (in_5 _ (zs16 (zs16 (zs4 (zs1 (zs1 (zs1 (zs0))))))))) rfl rfl rfl ⟨rfl, hz_yX0_isCounted_2⟩ ⟨Nat.le_of_ble_eq_true rfl, Nat.le_of_ble_eq_true rfl⟩) ⟨HWL_bl, va_recv hK hP (ci := 1) (q0 := posL 1 (LC cf)) rfl (hI.ob 1 (mF 1 rfl) rfl), (HWL_wi hP hK (WL_D hD) hS hA hEV)⟩ rfl rfl hl.1 rfl (lv_room (Nat.le_of_ble_eq_true rfl)) dX12_placed_6 ⟨Nat.le_of_ble_eq_true rfl, Nat.le_of_ble_eq_true rfl⟩) hS hP (fun r1 H locs hw hP hS => ?_)
  rcases hw with hw | hw
  · -- isCountedC, case 0
    obtain ⟨rfl, f2, f3, f4⟩ := hw
    have i5 : 0 ≤ (xi (E 1) 0).toInt ∧ (xi (E 1) 0).toInt ≤ 400 := hI0.iv 1 (mF 1 rfl) rfl (Nat.le_of_ble_eq_true rfl) rfl
    refine lv_if_eq (tgt := 23) hx hb dX12_placed_9 (by decide) (fun c6 => ?_) (fun c6 => ?_)
    · --9 taken
      exact absurd c6 (by decide)
    · --9 not
      refine lv_aload_n hx hb dX12_placed_12 rfl (lv_at hl 0 rfl) ?_
      refine th_getL (ci := 13) (C := RX12) (T := TX12) (N := 6) (v := .ref (ad 1)) hx hb hts hinX12 hown hK hP hI 0 (mF 0 rfl) rfl rfl 0 (Nat.le_of_ble_eq_true rfl) (hts _ (vA_in _ _ (in_10 _ (zs16 (zs1 (zs0)))))) (fun _ h9 => h9) (hI.fr 0 (mF 0 rfl) rfl (Nat.le_of_ble_eq_true rfl) 1 rfl) dX12_placed_13 ?_
      refine lv_iload_n hx hb dX12_placed_16 rfl (lv_at hl 2 rfl) ?_
      refine th_riL (va_runV (As := [.int a1]) (rest := []) ⟨hx, hb, hml, hown, hts⟩ (q_isBoatC l dC dI cT cf hC ad E H.size a1 hI) (cwV 1 hts (gi_V (in_10 _ (zs16 (zs4 (zs4 (zs1 (zs1 (zs1 (zs0)))))))) (in_6 _ (zs4 (zs4 (zs4 (zs0))))) (in_6 _ (zs4 (zs4 (zs4 (zs1 (zs0)))))) (in_5 _ (zs4 (zs1 (zs1 (zs0))))) (in_5 _ (zs16 (zs16 (zs4 (zs1 (zs1 (zs0)))))))) rfl rfl rfl ⟨rfl, hz_yX0_isBoat_1⟩ ⟨Nat.le_of_ble_eq_true rfl, Nat.le_of_ble_eq_true rfl⟩) ⟨HWL_bl, va_recv hK hP (ci := 1) (q0 := posL 1 (LC cf)) rfl (hI.ob 1 (mF 1 rfl) rfl), (HWL_wi hP hK (WL_D hD) hS hA hEV)⟩ rfl rfl hl.1 rfl (lv_room (Nat.le_of_ble_eq_true rfl)) dX12_placed_17 ⟨Nat.le_of_ble_eq_true rfl, Nat.le_of_ble_eq_true rfl⟩) hS hP (fun r7 H locs hw hP hS => ?_)
      rcases hw with hw | hw
      · -- isBoatC, case 0
        obtain ⟨rfl, f8, f9⟩ := hw
        have i10 : 0 ≤ (xi (E 1) 1).toInt ∧ (xi (E 1) 1).toInt ≤ 16 := hI0.iv 1 (mF 1 rfl) rfl (Nat.le_of_ble_eq_true rfl) rfl
        refine lv_if_ne (tgt := 25) hx hb dX12_placed_20 (by decide) (fun c11 => ?_) (fun c11 => ?_)
        · --20 taken
          refine lv_aload_n hx hb dX12_placed_25 rfl (lv_at hl 0 rfl) ?_
          refine th_getL (ci := 13) (C := RX12) (T := TX12) (N := 6) (v := .ref (ad 3)) hx hb hts hinX12 hown hK hP hI 0 (mF 0 rfl) rfl rfl 2 (Nat.le_of_ble_eq_true rfl) (hts _ (vA_in _ _ (in_13 _ (zs16 (zs16 (zs4 (zs0))))))) (fun _ h9 => h9) (hI.fr 0 (mF 0 rfl) rfl (Nat.le_of_ble_eq_true rfl) 3 rfl) dX12_placed_26 ?_
          refine lv_iload_n hx hb dX12_placed_29 rfl (lv_at hl 1 rfl) ?_
          refine lv_iload_n hx hb dX12_placed_30 rfl (lv_at hl 3 rfl) ?_
          refine th_vL (va_runV (As := [.int a0, .int a2]) (rest := []) ⟨hx, hb, hml, hown, hts⟩ (q_sheetX l dC dI cT cf hC ad E H.size a0 a2 hI f3 (by omega) (by exact hh0)) (cwV 2 hts (gi_V (in_14 _ (zs4 (zs0))) (in_11 _ (zs16 (zs16 (zs1 (zs1 (zs1 (zs0))))))) (in_11 _ (zs16 (zs16 (zs4 (zs0))))) (in_11 _ (zs16 (zs16 (zs4 (zs1 (zs0)))))) (in_11 _ (zs16 (zs16 (zs4 (zs1 (zs1 (zs0)))))))) rfl rfl rfl ⟨rfl, hz_yX9_read_2⟩ ⟨Nat.le_of_ble_eq_true rfl, Nat.le_of_ble_eq_true rfl⟩) ⟨HWL_bl, va_recv hK hP (ci := 10) (q0 := posL 3 (LC cf)) rfl (hI.ob 3 (mF 3 rfl) rfl), (HWL_wi hP hK (WL_D hD) hS hA hEV)⟩ rfl rfl hl.1 rfl (lv_room (Nat.le_of_ble_eq_true rfl)) dX12_placed_31 ⟨Nat.le_of_ble_eq_true rfl, Nat.le_of_ble_eq_true rfl⟩) (WL_D hD) hS hA (fun E13 H locs hw hP hS => ?_)
          obtain ⟨hI, kq14, hw⟩ := hw
          have hKb := hKp
          have hKp := hKp.tr kq14 (wl_sub rfl rfl)
          obtain ⟨y15, ey15⟩ : ∃ y, xi (E13 3) 6 = y := ⟨_, rfl⟩
          have fy15 : xv (E13 3) 6 = .int y15 := (hI.fi 3 (mF 3 rfl) rfl (Nat.le_of_ble_eq_true rfl) rfl).trans (congrArg Value.int ey15)
          have i16 : -1 ≤ y15.toInt ∧ y15.toInt ≤ 15 := by rw [← ey15]; exact hI.iv 3 (mF 3 rfl) rfl (Nat.le_of_ble_eq_true rfl) rfl
          obtain ⟨y17, ey17⟩ : ∃ y, xi (E13 3) 7 = y := ⟨_, rfl⟩
          have fy17 : xv (E13 3) 7 = .int y17 := (hI.fi 3 (mF 3 rfl) rfl (Nat.le_of_ble_eq_true rfl) rfl).trans (congrArg Value.int ey17)
          have i18 : 0 ≤ y17.toInt ∧ y17.toInt ≤ 16 := by rw [← ey17]; exact hI.iv 3 (mF 3 rfl) rfl (Nat.le_of_ble_eq_true rfl) rfl
          obtain ⟨y19, ey19⟩ : ∃ y, xi (E13 3) 8 = y := ⟨_, rfl⟩
          have fy19 : xv (E13 3) 8 = .int y19 := (hI.fi 3 (mF 3 rfl) rfl (Nat.le_of_ble_eq_true rfl) rfl).trans (congrArg Value.int ey19)
          have i20 : 0 ≤ y19.toInt ∧ y19.toInt ≤ 16 := by rw [← ey19]; exact hI.iv 3 (mF 3 rfl) rfl (Nat.le_of_ble_eq_true rfl) rfl
          have f21 := hw
          refine lv_aload_n hx hb dX12_placed_34 rfl (lv_at hl 0 rfl) ?_
          refine th_getL (ci := 13) (C := RX12) (T := TX12) (N := 6) (v := .ref (ad 3)) hx hb hts hinX12 hown hK hP hI 0 (mF 0 rfl) rfl rfl 2 (Nat.le_of_ble_eq_true rfl) (hts _ (vA_in _ _ (in_13 _ (zs16 (zs16 (zs4 (zs0))))))) (fun _ h9 => h9) (hI.fr 0 (mF 0 rfl) rfl (Nat.le_of_ble_eq_true rfl) 3 rfl) dX12_placed_35 ?_
          refine th_getL (ci := 10) (C := RX9) (T := TX9) (N := 9) (v := .ref (ad 26)) hx hb hts hinX9 hown hK hP hI 3 (mF 3 rfl) rfl rfl 1 (Nat.le_of_ble_eq_true rfl) (hts _ (vA_in _ _ (in_13 _ (zs16 (zs16 (zs4 (zs1 (zs0)))))))) (fun _ h9 => h9) (hI.fr 3 (mF 3 rfl) rfl (Nat.le_of_ble_eq_true rfl) 26 rfl) dX12_placed_38 ?_
          refine lv_iload_n hx hb dX12_placed_41 rfl (lv_at hl 2 rfl) ?_
          have n23 : vp_in a1 16 := (iv_in (n := 16) f9 (by decide))
          refine th_ialdL hx hb hK hP hI 26 (mF 26 rfl) rfl rfl n23 dX12_placed_42 (fun y22 ey22 => ?_)
          have iy22 : -1 ≤ y22.toInt ∧ y22.toInt ≤ 5 := hI.el 26 (mF 26 rfl) rfl n23 (fun _ => rfl) ey22
          refine lv_if_ne (tgt := 58) hx hb dX12_placed_43 (by decide) (fun c24 => ?_) (fun c24 => ?_)
          · --43 taken
            have t25 : ¬ y22.toInt = 0 := ti_ne c24
            refine lv_iconst (v := -1) hx hb dX12_placed_58 (by decide) ?_
            rw [hQ]
            exact W.iret (v := (-1)) hx hb hr (fun t ht hW => ⟨⟨(-1), E13, rfl, ⟨hI, hKp, ⟨fun _ => PlX.n (c := y22) (r := (-1 : Int32)) f21 (by rw [tn_]; omega) ey22 (by omega) rfl, fun g9 => by exfalso; omega⟩⟩, by show va_P (dC, dI) vwCl (WL (LC cf) ad E13) t.heap; rw [ht]; exact hP⟩, hS.F ht⟩) hS.2.2 dX12_placed_59
          · --43 not
            have t26 : y22.toInt = 0 := ti_eq c24
            have i27 : 0 ≤ y22.toInt ∧ y22.toInt ≤ 0 := iv_eqi t26 iy22 (il_ 0) (by decide)
            refine lv_aload_n hx hb dX12_placed_46 rfl (lv_at hl 0 rfl) ?_
            refine th_getL (ci := 13) (C := RX12) (T := TX12) (N := 6) (v := .ref (ad 3)) hx hb hts hinX12 hown hK hP hI 0 (mF 0 rfl) rfl rfl 2 (Nat.le_of_ble_eq_true rfl) (hts _ (vA_in _ _ (in_13 _ (zs16 (zs16 (zs4 (zs0))))))) (fun _ h9 => h9) (hI.fr 0 (mF 0 rfl) rfl (Nat.le_of_ble_eq_true rfl) 3 rfl) dX12_placed_47 ?_
            refine th_getL (ci := 10) (C := RX9) (T := TX9) (N := 9) (v := .ref (ad 30)) hx hb hts hinX9 hown hK hP hI 3 (mF 3 rfl) rfl rfl 5 (Nat.le_of_ble_eq_true rfl) (hts _ (vA_in _ _ (in_20 _ (zs4 (zs0))))) (fun _ h9 => h9) (hI.fr 3 (mF 3 rfl) rfl (Nat.le_of_ble_eq_true rfl) 30 rfl) dX12_placed_50 ?_
            refine lv_iload_n hx hb dX12_placed_53 rfl (lv_at hl 2 rfl) ?_
            have n29 : vp_in a1 16 := (iv_in (n := 16) f9 (by decide))
            refine th_ialdL hx hb hK hP hI 30 (mF 30 rfl) rfl rfl n29 dX12_placed_54 (fun y28 ey28 => ?_)
            have iy28 : 0 ≤ y28.toInt ∧ y28.toInt ≤ 245 := hI.el 30 (mF 30 rfl) rfl n29 (fun _ => rfl) ey28
            refine lv_goto (tgt := 59) hx hb dX12_placed_55 (by decide) ?_
            rw [hQ]
            exact W.iret (v := y28) hx hb hr (fun t ht hW => ⟨⟨y28, E13, rfl, ⟨hI, hKp, ⟨fun _ => PlX.y (c := y22) f21 (by rw [tn_]; omega) ey22 (by omega) ey28, fun g9 => by exfalso; omega⟩⟩, by show va_P (dC, dI) vwCl (WL (LC cf) ad E13) t.heap; rw [ht]; exact hP⟩, hS.F ht⟩) hS.2.2 dX12_placed_59
        · --20 not
          exact absurd c11 (by decide)
      · -- isBoatC, case 1
        obtain ⟨rfl, f30⟩ := hw
        have i31 : 0 ≤ (xi (E 1) 1).toInt ∧ (xi (E 1) 1).toInt ≤ 16 := hI0.iv 1 (mF 1 rfl) rfl (Nat.le_of_ble_eq_true rfl) rfl
        refine lv_if_ne (tgt := 25) hx hb dX12_placed_20 (by decide) (fun c32 => ?_) (fun c32 => ?_)
        · --20 taken
          exact absurd c32 (by decide)
        · --20 not
          refine lv_iconst (v := -1) hx hb dX12_placed_23 (by decide) ?_
          rw [hQ]
          exact W.iret (v := (-1)) hx hb hr (fun t ht hW => ⟨⟨(-1), E, rfl, ⟨hI, hKp, ⟨fun g9 => by exfalso; omega, fun _ => rfl⟩⟩, by show va_P (dC, dI) vwCl (WL (LC cf) ad E) t.heap; rw [ht]; exact hP⟩, hS.F ht⟩) hS.2.2 dX12_placed_24
  · -- isCountedC, case 1
    obtain ⟨rfl, f33⟩ := hw
    have i34 : 0 ≤ (xi (E 1) 0).toInt ∧ (xi (E 1) 0).toInt ≤ 400 := hI0.iv 1 (mF 1 rfl) rfl (Nat.le_of_ble_eq_true rfl) rfl
    refine lv_if_eq (tgt := 23) hx hb dX12_placed_9 (by decide) (fun c35 => ?_) (fun c35 => ?_)
    · --9 taken
      refine lv_iconst (v := -1) hx hb dX12_placed_23 (by decide) ?_
      rw [hQ]
      exact W.iret (v := (-1)) hx hb hr (fun t ht hW => ⟨⟨(-1), E, rfl, ⟨hI, hKp, ⟨fun g9 => by exfalso; omega, fun _ => rfl⟩⟩, by show va_P (dC, dI) vwCl (WL (LC cf) ad E) t.heap; rw [ht]; exact hP⟩, hS.F ht⟩) hS.2.2 dX12_placed_24
    · --9 not
      exact absurd c35 (by decide)
