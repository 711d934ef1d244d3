set_option maxRecDepth 100000 in
theorem zh_dX12_enter_0_0 : zc cX12_enter 0 [42, 180, 0, 10, 27, 182, 0, 135, 153, 0, 26, 42, 180, 0, 10, 28] = true := by decide +kernel
set_option maxRecDepth 100000 in
theorem zh_dX12_enter_16_16 : zc cX12_enter 16 [182, 0, 66, 153, 0, 15, 42, 180, 0, 10, 27, 28, 182, 0, 146, 153] = true := by decide +kernel
set_option maxRecDepth 100000 in
theorem zh_dX12_enter_31_32 : zc cX12_enter 32 [0, 5, 3, 172, 42, 180, 0, 10, 180, 0, 127, 27, 182, 0, 138, 192] = true := by decide +kernel
set_option maxRecDepth 100000 in
theorem zh_dX12_enter_47_48 : zc cX12_enter 48 [0, 130, 180, 0, 150, 28, 42, 180, 0, 10, 180, 0, 55, 79, 4, 172] = true := by decide +kernel
set_option maxRecDepth 100000 in
theorem zh_dX13_enter_0_0 : zc cX13_enter 0 [42, 3, 181, 0, 228, 42, 27, 182, 1, 137, 153, 0, 24, 42, 28, 182] = true := by decide +kernel
set_option maxRecDepth 100000 in
theorem zh_dX13_enter_15_16 : zc cX13_enter 16 [0, 245, 153, 0, 16, 42, 27, 28, 42, 180, 0, 232, 182, 1, 140, 153] = true := by decide +kernel
set_option maxRecDepth 100000 in
theorem zh_dX13_enter_31_32 : zc cX13_enter 32 [0, 5, 3, 172, 42, 180, 0, 74, 16, 16, 27, 104, 28, 96, 42, 180] = true := by decide +kernel
set_option maxRecDepth 100000 in
theorem zh_dX13_enter_47_48 : zc cX13_enter 48 [0, 232, 79, 4, 172] = true := by decide +kernel
theorem dX12_enter_0 : decode cX12_enter 0 = .ok (.aload_n 0, 1) := zo_42 (zi_at zh_dX12_enter_0_0 0 rfl)
theorem dX12_enter_1 : decode cX12_enter 1 = .ok (.getfield 10, 3) := zo_180 (zi_at zh_dX12_enter_0_0 1 rfl) (zi_at zh_dX12_enter_0_0 2 rfl) (zi_at zh_dX12_enter_0_0 3 rfl) rfl
theorem dX12_enter_4 : decode cX12_enter 4 = .ok (.iload_n 1, 1) := zo_27 (zi_at zh_dX12_enter_0_0 4 rfl)
theorem dX12_enter_5 : decode cX12_enter 5 = .ok (.invokevirtual 135, 3) := zo_182 (zi_at zh_dX12_enter_0_0 5 rfl) (zi_at zh_dX12_enter_0_0 6 rfl) (zi_at zh_dX12_enter_0_0 7 rfl) rfl
theorem dX12_enter_8 : decode cX12_enter 8 = .ok (.ifCond .eq 26, 3) := zo_153 (zi_at zh_dX12_enter_0_0 8 rfl) (zi_at zh_dX12_enter_0_0 9 rfl) (zi_at zh_dX12_enter_0_0 10 rfl) rfl
theorem dX12_enter_11 : decode cX12_enter 11 = .ok (.aload_n 0, 1) := zo_42 (zi_at zh_dX12_enter_0_0 11 rfl)
theorem dX12_enter_12 : decode cX12_enter 12 = .ok (.getfield 10, 3) := zo_180 (zi_at zh_dX12_enter_0_0 12 rfl) (zi_at zh_dX12_enter_0_0 13 rfl) (zi_at zh_dX12_enter_0_0 14 rfl) rfl
theorem dX12_enter_15 : decode cX12_enter 15 = .ok (.iload_n 2, 1) := zo_28 (zi_at zh_dX12_enter_0_0 15 rfl)
theorem dX12_enter_16 : decode cX12_enter 16 = .ok (.invokevirtual 66, 3) := zo_182 (zi_at zh_dX12_enter_16_16 0 rfl) (zi_at zh_dX12_enter_16_16 1 rfl) (zi_at zh_dX12_enter_16_16 2 rfl) rfl
theorem dX12_enter_19 : decode cX12_enter 19 = .ok (.ifCond .eq 15, 3) := zo_153 (zi_at zh_dX12_enter_16_16 3 rfl) (zi_at zh_dX12_enter_16_16 4 rfl) (zi_at zh_dX12_enter_16_16 5 rfl) rfl
theorem dX12_enter_22 : decode cX12_enter 22 = .ok (.aload_n 0, 1) := zo_42 (zi_at zh_dX12_enter_16_16 6 rfl)
theorem dX12_enter_23 : decode cX12_enter 23 = .ok (.getfield 10, 3) := zo_180 (zi_at zh_dX12_enter_16_16 7 rfl) (zi_at zh_dX12_enter_16_16 8 rfl) (zi_at zh_dX12_enter_16_16 9 rfl) rfl
theorem dX12_enter_26 : decode cX12_enter 26 = .ok (.iload_n 1, 1) := zo_27 (zi_at zh_dX12_enter_16_16 10 rfl)
theorem dX12_enter_27 : decode cX12_enter 27 = .ok (.iload_n 2, 1) := zo_28 (zi_at zh_dX12_enter_16_16 11 rfl)
theorem dX12_enter_28 : decode cX12_enter 28 = .ok (.invokevirtual 146, 3) := zo_182 (zi_at zh_dX12_enter_16_16 12 rfl) (zi_at zh_dX12_enter_16_16 13 rfl) (zi_at zh_dX12_enter_16_16 14 rfl) rfl
theorem dX12_enter_31 : decode cX12_enter 31 = .ok (.ifCond .eq 5, 3) := zo_153 (zi_at zh_dX12_enter_16_16 15 rfl) (zi_at zh_dX12_enter_31_32 0 rfl) (zi_at zh_dX12_enter_31_32 1 rfl) rfl
theorem dX12_enter_34 : decode cX12_enter 34 = .ok (.iconst 0, 1) := zo_3 (zi_at zh_dX12_enter_31_32 2 rfl)
theorem dX12_enter_35 : decode cX12_enter 35 = .ok (.ireturn, 1) := zo_172 (zi_at zh_dX12_enter_31_32 3 rfl)
theorem dX12_enter_36 : decode cX12_enter 36 = .ok (.aload_n 0, 1) := zo_42 (zi_at zh_dX12_enter_31_32 4 rfl)
theorem dX12_enter_37 : decode cX12_enter 37 = .ok (.getfield 10, 3) := zo_180 (zi_at zh_dX12_enter_31_32 5 rfl) (zi_at zh_dX12_enter_31_32 6 rfl) (zi_at zh_dX12_enter_31_32 7 rfl) rfl
theorem dX12_enter_40 : decode cX12_enter 40 = .ok (.getfield 127, 3) := zo_180 (zi_at zh_dX12_enter_31_32 8 rfl) (zi_at zh_dX12_enter_31_32 9 rfl) (zi_at zh_dX12_enter_31_32 10 rfl) rfl
theorem dX12_enter_43 : decode cX12_enter 43 = .ok (.iload_n 1, 1) := zo_27 (zi_at zh_dX12_enter_31_32 11 rfl)
theorem dX12_enter_44 : decode cX12_enter 44 = .ok (.invokevirtual 138, 3) := zo_182 (zi_at zh_dX12_enter_31_32 12 rfl) (zi_at zh_dX12_enter_31_32 13 rfl) (zi_at zh_dX12_enter_31_32 14 rfl) rfl
theorem dX12_enter_47 : decode cX12_enter 47 = .ok (.checkcast 130, 3) := zo_192 (zi_at zh_dX12_enter_31_32 15 rfl) (zi_at zh_dX12_enter_47_48 0 rfl) (zi_at zh_dX12_enter_47_48 1 rfl) rfl
theorem dX12_enter_50 : decode cX12_enter 50 = .ok (.getfield 150, 3) := zo_180 (zi_at zh_dX12_enter_47_48 2 rfl) (zi_at zh_dX12_enter_47_48 3 rfl) (zi_at zh_dX12_enter_47_48 4 rfl) rfl
theorem dX12_enter_53 : decode cX12_enter 53 = .ok (.iload_n 2, 1) := zo_28 (zi_at zh_dX12_enter_47_48 5 rfl)
theorem dX12_enter_54 : decode cX12_enter 54 = .ok (.aload_n 0, 1) := zo_42 (zi_at zh_dX12_enter_47_48 6 rfl)
theorem dX12_enter_55 : decode cX12_enter 55 = .ok (.getfield 10, 3) := zo_180 (zi_at zh_dX12_enter_47_48 7 rfl) (zi_at zh_dX12_enter_47_48 8 rfl) (zi_at zh_dX12_enter_47_48 9 rfl) rfl
theorem dX12_enter_58 : decode cX12_enter 58 = .ok (.getfield 55, 3) := zo_180 (zi_at zh_dX12_enter_47_48 10 rfl) (zi_at zh_dX12_enter_47_48 11 rfl) (zi_at zh_dX12_enter_47_48 12 rfl) rfl
theorem dX12_enter_61 : decode cX12_enter 61 = .ok (.iastore, 1) := zo_79 (zi_at zh_dX12_enter_47_48 13 rfl)
theorem dX12_enter_62 : decode cX12_enter 62 = .ok (.iconst 1, 1) := zo_4 (zi_at zh_dX12_enter_47_48 14 rfl)
theorem dX12_enter_63 : decode cX12_enter 63 = .ok (.ireturn, 1) := zo_172 (zi_at zh_dX12_enter_47_48 15 rfl)
theorem dX13_enter_0 : decode cX13_enter 0 = .ok (.aload_n 0, 1) := zo_42 (zi_at zh_dX13_enter_0_0 0 rfl)
theorem dX13_enter_1 : decode cX13_enter 1 = .ok (.iconst 0, 1) := zo_3 (zi_at zh_dX13_enter_0_0 1 rfl)
theorem dX13_enter_2 : decode cX13_enter 2 = .ok (.putfield 228, 3) := zo_181 (zi_at zh_dX13_enter_0_0 2 rfl) (zi_at zh_dX13_enter_0_0 3 rfl) (zi_at zh_dX13_enter_0_0 4 rfl) rfl
theorem dX13_enter_5 : decode cX13_enter 5 = .ok (.aload_n 0, 1) := zo_42 (zi_at zh_dX13_enter_0_0 5 rfl)
theorem dX13_enter_6 : decode cX13_enter 6 = .ok (.iload_n 1, 1) := zo_27 (zi_at zh_dX13_enter_0_0 6 rfl)
theorem dX13_enter_7 : decode cX13_enter 7 = .ok (.invokevirtual 393, 3) := zo_182 (zi_at zh_dX13_enter_0_0 7 rfl) (zi_at zh_dX13_enter_0_0 8 rfl) (zi_at zh_dX13_enter_0_0 9 rfl) rfl
theorem dX13_enter_10 : decode cX13_enter 10 = .ok (.ifCond .eq 24, 3) := zo_153 (zi_at zh_dX13_enter_0_0 10 rfl) (zi_at zh_dX13_enter_0_0 11 rfl) (zi_at zh_dX13_enter_0_0 12 rfl) rfl
theorem dX13_enter_13 : decode cX13_enter 13 = .ok (.aload_n 0, 1) := zo_42 (zi_at zh_dX13_enter_0_0 13 rfl)
theorem dX13_enter_14 : decode cX13_enter 14 = .ok (.iload_n 2, 1) := zo_28 (zi_at zh_dX13_enter_0_0 14 rfl)
theorem dX13_enter_15 : decode cX13_enter 15 = .ok (.invokevirtual 245, 3) := zo_182 (zi_at zh_dX13_enter_0_0 15 rfl) (zi_at zh_dX13_enter_15_16 0 rfl) (zi_at zh_dX13_enter_15_16 1 rfl) rfl
theorem dX13_enter_18 : decode cX13_enter 18 = .ok (.ifCond .eq 16, 3) := zo_153 (zi_at zh_dX13_enter_15_16 2 rfl) (zi_at zh_dX13_enter_15_16 3 rfl) (zi_at zh_dX13_enter_15_16 4 rfl) rfl
theorem dX13_enter_21 : decode cX13_enter 21 = .ok (.aload_n 0, 1) := zo_42 (zi_at zh_dX13_enter_15_16 5 rfl)
theorem dX13_enter_22 : decode cX13_enter 22 = .ok (.iload_n 1, 1) := zo_27 (zi_at zh_dX13_enter_15_16 6 rfl)
theorem dX13_enter_23 : decode cX13_enter 23 = .ok (.iload_n 2, 1) := zo_28 (zi_at zh_dX13_enter_15_16 7 rfl)
theorem dX13_enter_24 : decode cX13_enter 24 = .ok (.aload_n 0, 1) := zo_42 (zi_at zh_dX13_enter_15_16 8 rfl)
theorem dX13_enter_25 : decode cX13_enter 25 = .ok (.getfield 232, 3) := zo_180 (zi_at zh_dX13_enter_15_16 9 rfl) (zi_at zh_dX13_enter_15_16 10 rfl) (zi_at zh_dX13_enter_15_16 11 rfl) rfl
theorem dX13_enter_28 : decode cX13_enter 28 = .ok (.invokevirtual 396, 3) := zo_182 (zi_at zh_dX13_enter_15_16 12 rfl) (zi_at zh_dX13_enter_15_16 13 rfl) (zi_at zh_dX13_enter_15_16 14 rfl) rfl
theorem dX13_enter_31 : decode cX13_enter 31 = .ok (.ifCond .eq 5, 3) := zo_153 (zi_at zh_dX13_enter_15_16 15 rfl) (zi_at zh_dX13_enter_31_32 0 rfl) (zi_at zh_dX13_enter_31_32 1 rfl) rfl
theorem dX13_enter_34 : decode cX13_enter 34 = .ok (.iconst 0, 1) := zo_3 (zi_at zh_dX13_enter_31_32 2 rfl)
theorem dX13_enter_35 : decode cX13_enter 35 = .ok (.ireturn, 1) := zo_172 (zi_at zh_dX13_enter_31_32 3 rfl)
theorem dX13_enter_36 : decode cX13_enter 36 = .ok (.aload_n 0, 1) := zo_42 (zi_at zh_dX13_enter_31_32 4 rfl)
theorem dX13_enter_37 : decode cX13_enter 37 = .ok (.getfield 74, 3) := zo_180 (zi_at zh_dX13_enter_31_32 5 rfl) (zi_at zh_dX13_enter_31_32 6 rfl) (zi_at zh_dX13_enter_31_32 7 rfl) rfl
theorem dX13_enter_40 : decode cX13_enter 40 = .ok (.bipush 16, 2) := zo_16 (zi_at zh_dX13_enter_31_32 8 rfl) (zi_at zh_dX13_enter_31_32 9 rfl) rfl
theorem dX13_enter_42 : decode cX13_enter 42 = .ok (.iload_n 1, 1) := zo_27 (zi_at zh_dX13_enter_31_32 10 rfl)
theorem dX13_enter_43 : decode cX13_enter 43 = .ok (.imul, 1) := zo_104 (zi_at zh_dX13_enter_31_32 11 rfl)
theorem dX13_enter_44 : decode cX13_enter 44 = .ok (.iload_n 2, 1) := zo_28 (zi_at zh_dX13_enter_31_32 12 rfl)
theorem dX13_enter_45 : decode cX13_enter 45 = .ok (.iadd, 1) := zo_96 (zi_at zh_dX13_enter_31_32 13 rfl)
theorem dX13_enter_46 : decode cX13_enter 46 = .ok (.aload_n 0, 1) := zo_42 (zi_at zh_dX13_enter_31_32 14 rfl)
theorem dX13_enter_47 : decode cX13_enter 47 = .ok (.getfield 232, 3) := zo_180 (zi_at zh_dX13_enter_31_32 15 rfl) (zi_at zh_dX13_enter_47_48 0 rfl) (zi_at zh_dX13_enter_47_48 1 rfl) rfl
theorem dX13_enter_50 : decode cX13_enter 50 = .ok (.iastore, 1) := zo_79 (zi_at zh_dX13_enter_47_48 2 rfl)
theorem dX13_enter_51 : decode cX13_enter 51 = .ok (.iconst 1, 1) := zo_4 (zi_at zh_dX13_enter_47_48 3 rfl)
theorem dX13_enter_52 : decode cX13_enter 52 = .ok (.ireturn, 1) := zo_172 (zi_at zh_dX13_enter_47_48 4 rfl)
def v_enterX : List Cond := .code yX13_enter cX13_enter 3 (some .boolean) :: vA
abbrev rm_enterX : Room := { frames := 1, cells := 0, slots := 0, locals := 40 }
def w_enterX : Nat → Nat → Bool := wl [21] [(0, 0)]
set_option maxHeartbeats 4000000 in
set_option maxRecDepth 100000 in
theorem q_enterX (l : Launch) (dC : Nat → ClassId) (dI : Nat → Nat → Nat) (cT : Nat → ClassId) (ad : Nat → Nat) (E : Nat → va_E) (sz : Nat) (a0 : Int32) (a1 : Int32) (hI0 : IX cT shM spM 72 ad E)  : Met l yX13_enter v_enterX rm_enterX (va_Pc [.ref (ad 0), .int a0, .int a1] (HW dC dI (TYM cT) 72 ad E sz)) (va_Qi (S := Nat → va_E) (fun r u => IX cT shM spM 72 ad u ∧ Kp w_enterX E u ∧ ((r = 1 ∧ ((0 ≤ a0.toInt ∧ a0.toInt < (xi (E 0) 46).toInt) ∧ (0 ≤ a1.toInt ∧ a1.toInt < (xi (E 0) 8).toInt) ∧ ¬ (xi (E 21) (16 * a0.toInt + a1.toInt).toNat).toInt ≤ (xi (E 0) 1).toInt) ∧ (xi (u 21) = upd (xi (E 21)) (16 * a0.toInt + a1.toInt).toNat (xi (E 0) 1))) ∨ (r = 0 ∧ (¬ ((0 ≤ a0.toInt ∧ a0.toInt < (xi (E 0) 46).toInt) ∧ (0 ≤ a1.toInt ∧ a1.toInt < (xi (E 0) 8).toInt) ∧ ¬ (xi (E 21) (16 * a0.toInt + a1.toInt).toNat).toInt ≤ (xi (E 0) 1).toInt)) ∧ (xi (u 21) = xi (E 21))))) (HB dC dI 72 ad) (va_A (WX 72 ad E) sz)) 0 0 (va_A (WX 72 ad E) sz) := by
  refine Met.ofW (cc := cX13_enter) (maxL := 3) (ret := (some .boolean)) (by decide) rfl ?_
  intro p e s m args below meth c s₁ B hml hv
  obtain ⟨hargs, hsz, hP, hK, hD0, hEV⟩ := hv
  subst hsz
  have hx := B.exec
  have hb := B.bytes
  have hr := B.returns
  have hts := atoms_spec (ws := v_enterX) B.pre
  have hown : s.vm.findClass RX13 = some m.cls := findClass_of_methodNamed B.named
  have hlocks := B.notSynchronized
  have hinX13 : ∀ w ∈ u_ws RX13 TX13 97, w ∈ v_enterX := fun w h => vA_in _ w (in_X13 w h)
  generalize hAe : va_A (WX 72 ad E) s.heap.size = A at hEV ⊢
  have hA : ∀ q : Nat, s.heap.size ≤ q → A q := fun q h => by rw [← hAe]; exact Or.inr h
  have hD : va_D A (WX 72 ad E) := by rw [← hAe]; exact hD0.self
  have hS : va_S A s.heap s.heap [] := va_S.rf
  have hI := hI0
  have hKp : Kp w_enterX E E := Kp.rf
  have hl := lv_entry ([.ref (ad 0), .int a0, .int a1]) (n := 3) (Nat.le_of_ble_eq_true rfl)
  obtain ⟨Q, hQ⟩ : ∃ Q, Q = MQ below (va_Qi (S := Nat → va_E) (fun r u => IX cT shM spM 72 ad u ∧ Kp w_enterX E u ∧ ((r = 1 ∧ ((0 ≤ a0.toInt ∧ a0.toInt < (xi (E 0) 46).toInt) ∧ (0 ≤ a1.toInt ∧ a1.toInt < (xi (E 0) 8).toInt) ∧ ¬ (xi (E 21) (16 * a0.toInt + a1.toInt).toNat).toInt ≤ (xi (E 0) 1).toInt) ∧ (xi (u 21) = upd (xi (E 21)) (16 * a0.toInt + a1.toInt).toNat (xi (E 0) 1))) ∨ (r = 0 ∧ (¬ ((0 ≤ a0.toInt ∧ a0.toInt < (xi (E 0) 46).toInt) ∧ (0 ≤ a1.toInt ∧ a1.toInt < (xi (E 0) 8).toInt) ∧ ¬ (xi (E 21) (16 * a0.toInt + a1.toInt).toNat).toInt ≤ (xi (E 0) 1).toInt)) ∧ (xi (u 21) = xi (E 21))))) (HB dC dI 72 ad) (A)) args s 0 0 (A) := ⟨_, rfl⟩
  rw [← hQ, show entryFrame m args 3 = _ from (congrArg (fun z => entryFrame m z 3) hargs).trans (lg_entry_eq _ _ _)]
  generalize (lg_sl ([.ref (ad 0), .int a0, .int a1]) ++ List.replicate (3 - (lg_sl ([.ref (ad 0), .int a0, .int a1])).length) Slot.unset).toArray = ls at hl ⊢
  have hl : lv_has ls 3 [(0, .ref (ad 0)), (1, .int a0), (2, .int a1)] := hl
  obtain ⟨g1, hg1⟩ : ∃ g, xi (E 21) = g := ⟨_, rfl⟩
  refine lv_aload_n hx hb dX13_enter_0 rfl (lv_at hl 0 rfl) ?_
  refine lv_iconst (v := 0) hx hb dX13_enter_1 (by decide) ?_
  refine th_put (ci := 14) (C := RX13) (T := TX13) (N := 97) (v := .int 0) (ty := .int) hx hb hts hinX13 tyX13 tyX13_ok nmX13 hown hK hP (WX_D hD) hS hI 0 (Nat.le_of_ble_eq_true rfl) rfl rfl 0 (Nat.le_of_ble_eq_true rfl) (hts _ (vA_in _ _ (in_24 _ (zs4 (zs4 (zs1 (zs1 (zs0)))))))) (fun _ h9 => h9) rfl (by decide +kernel) rfl rfl (okI rfl (iv_w ln_0 (by decide))) dX13_enter_2 (fun H locs E2 pw3 hI hP hS => ?_)
  have hKp := hKp.pw pw3 rfl
  refine lv_aload_n hx hb dX13_enter_5 rfl (lv_at hl 0 rfl) ?_
  refine lv_iload_n hx hb dX13_enter_6 rfl (lv_at hl 1 rfl) ?_
  refine th_ri (va_runV (As := [.int a0]) (rest := []) ⟨hx, hb, hml, hown, hts⟩ (q_isRace l dC dI cT ad E2 H.size a0 hI) (cwV 1 hts (gi_V (in_24 _ (zs4 (zs4 (zs4 (zs0))))) (in_24 _ (zs4 (zs4 (zs4 (zs1 (zs0)))))) (in_24 _ (zs4 (zs4 (zs4 (zs1 (zs1 (zs0))))))) (in_24 _ (zs4 (zs4 (zs4 (zs1 (zs1 (zs1 (zs0)))))))) (in_24 _ (zs16 (zs0)))) rfl rfl rfl ⟨rfl, hz_yX13_isRace_1⟩ ⟨Nat.le_of_ble_eq_true rfl, Nat.le_of_ble_eq_true rfl⟩) ⟨HW_bl, va_recv hK hP (ci := 14) (q0 := 0) rfl (hI.ob 0 (Nat.le_of_ble_eq_true rfl) rfl), (HW_wi hP hK (WX_D hD) hS hA hEV)⟩ rfl rfl hl.1 rfl (lv_room (Nat.le_of_ble_eq_true rfl)) dX13_enter_7 ⟨Nat.le_of_ble_eq_true rfl, Nat.le_of_ble_eq_true rfl⟩) hS hP (fun r4 H locs hw hP hS => ?_)
  rcases hw with hw | hw
  · -- isRace, case 0
    obtain ⟨rfl, f5, f6⟩ := hw
    have i7 : 0 ≤ (xi (E 0) 46).toInt ∧ (xi (E 0) 46).toInt ≤ 20 := (show 0 ≤ (xi (E 0) 46).toInt ∧ (xi (E 0) 46).toInt ≤ 20 from hI0.iv 0 (Nat.le_of_ble_eq_true rfl) rfl (Nat.le_of_ble_eq_true rfl) rfl)
    try rw [hKp.ei 0 46 rfl] at f5
    refine lv_if_eq (tgt := 34) hx hb dX13_enter_10 (by decide) (fun c8 => ?_) (fun c8 => ?_)
    · --10 taken
      exact absurd c8 (by decide)
    · --10 not
      refine lv_aload_n hx hb dX13_enter_13 rfl (lv_at hl 0 rfl) ?_
      refine lv_iload_n hx hb dX13_enter_14 rfl (lv_at hl 2 rfl) ?_
      refine th_ri (va_runV (As := [.int a1]) (rest := []) ⟨hx, hb, hml, hown, hts⟩ (q_isBoat l dC dI cT ad E2 H.size a1 hI) (cwV 1 hts (gi_V (in_24 _ (zs16 (zs1 (zs1 (zs0))))) (in_24 _ (zs16 (zs1 (zs1 (zs1 (zs0)))))) (in_24 _ (zs16 (zs4 (zs0)))) (in_24 _ (zs4 (zs4 (zs4 (zs1 (zs1 (zs1 (zs0)))))))) (in_24 _ (zs16 (zs4 (zs1 (zs0)))))) rfl rfl rfl ⟨rfl, hz_yX13_isBoat_1⟩ ⟨Nat.le_of_ble_eq_true rfl, Nat.le_of_ble_eq_true rfl⟩) ⟨HW_bl, va_recv hK hP (ci := 14) (q0 := 0) rfl (hI.ob 0 (Nat.le_of_ble_eq_true rfl) rfl), (HW_wi hP hK (WX_D hD) hS hA hEV)⟩ rfl rfl hl.1 rfl (lv_room (Nat.le_of_ble_eq_true rfl)) dX13_enter_15 ⟨Nat.le_of_ble_eq_true rfl, Nat.le_of_ble_eq_true rfl⟩) hS hP (fun r9 H locs hw hP hS => ?_)
      rcases hw with hw | hw
      · -- isBoat, case 0
        obtain ⟨rfl, f10, f11⟩ := hw
        have i12 : 0 ≤ (xi (E 0) 8).toInt ∧ (xi (E 0) 8).toInt ≤ 16 := (show 0 ≤ (xi (E 0) 8).toInt ∧ (xi (E 0) 8).toInt ≤ 16 from hI0.iv 0 (Nat.le_of_ble_eq_true rfl) rfl (Nat.le_of_ble_eq_true rfl) rfl)
        try rw [hKp.ei 0 8 rfl] at f10
        refine lv_if_eq (tgt := 34) hx hb dX13_enter_18 (by decide) (fun c13 => ?_) (fun c13 => ?_)
        · --18 taken
          exact absurd c13 (by decide)
        · --18 not
          refine lv_aload_n hx hb dX13_enter_21 rfl (lv_at hl 0 rfl) ?_
          refine lv_iload_n hx hb dX13_enter_22 rfl (lv_at hl 1 rfl) ?_
          refine lv_iload_n hx hb dX13_enter_23 rfl (lv_at hl 2 rfl) ?_
          refine lv_aload_n hx hb dX13_enter_24 rfl (lv_at hl 0 rfl) ?_
          have i14 : 0 ≤ (xi (E 0) 1).toInt ∧ (xi (E 0) 1).toInt ≤ 400 := hI0.iv 0 (Nat.le_of_ble_eq_true rfl) rfl (Nat.le_of_ble_eq_true rfl) rfl
          refine th_get (ci := 14) (C := RX13) (T := TX13) (N := 97) (v := .int (xi (E 0) 1)) hx hb hts hinX13 hown hK hP hI 0 (Nat.le_of_ble_eq_true rfl) rfl rfl 1 (Nat.le_of_ble_eq_true rfl) (hts _ (vA_in _ _ (in_24 _ (zs16 (zs4 (zs4 (zs1 (zs1 (zs1 (zs0)))))))))) (fun _ h9 => h9) (th_v0 hKp hI0 0 (Nat.le_of_ble_eq_true rfl) rfl (Nat.le_of_ble_eq_true rfl) rfl rfl) dX13_enter_25 ?_
          have hq9 : xi (E2 21) = xi (E 21) := (show xi (E2 21) = g1 from ((pw3.ef 21 (Nat.ne_of_beq_eq_false rfl)).trans hg1)).trans (show xi (E 21) = g1 from hg1).symm
          refine th_ri (va_runV (As := [.int a0, .int a1, .int (xi (E 0) 1)]) (rest := []) ⟨hx, hb, hml, hown, hts⟩ (q_isEntered l dC dI cT ad E2 H.size a0 a1 (xi (E 0) 1) hI f6 f11) (cwV 3 hts (gi_V (in_24 _ (zs16 (zs16 (zs1 (zs1 (zs1 (zs0))))))) (in_24 _ (zs16 (zs16 (zs4 (zs0))))) (in_24 _ (zs16 (zs16 (zs4 (zs1 (zs0)))))) (in_24 _ (zs4 (zs4 (zs4 (zs1 (zs1 (zs1 (zs0)))))))) (in_24 _ (zs16 (zs16 (zs4 (zs1 (zs1 (zs0)))))))) rfl rfl rfl ⟨rfl, hz_yX13_isEntered_3⟩ ⟨Nat.le_of_ble_eq_true rfl, Nat.le_of_ble_eq_true rfl⟩) ⟨HW_bl, va_recv hK hP (ci := 14) (q0 := 0) rfl (hI.ob 0 (Nat.le_of_ble_eq_true rfl) rfl), (HW_wi hP hK (WX_D hD) hS hA hEV)⟩ rfl rfl hl.1 rfl (lv_room (Nat.le_of_ble_eq_true rfl)) dX13_enter_28 ⟨Nat.le_of_ble_eq_true rfl, Nat.le_of_ble_eq_true rfl⟩) hS hP (fun r15 H locs hw hP hS => ?_)
          rcases hw with hw | hw
          · -- isEntered, case 0
            obtain ⟨rfl, f16⟩ := hw
            refine lv_if_eq (tgt := 36) hx hb dX13_enter_31 (by decide) (fun c17 => ?_) (fun c17 => ?_)
            · --31 taken
              exact absurd c17 (by decide)
            · --31 not
              refine lv_iconst (v := 0) hx hb dX13_enter_34 (by decide) ?_
              rw [hQ]
              exact W.zret (v := 0) hx hb hr rfl (fun t ht hW => ⟨⟨0, E2, rfl, ⟨hI, hKp, Or.inr (⟨rfl, by (try rw [← hq9]); omega, (show xi (E2 21) = g1 from ((pw3.ef 21 (Nat.ne_of_beq_eq_false rfl)).trans hg1)).trans (show xi (E 21) = g1 from hg1).symm⟩)⟩, by show va_P (dC, dI) vwCl (WX 72 ad E2) t.heap; rw [ht]; exact hP⟩, hS.F ht⟩) hS.2.2 dX13_enter_35
          · -- isEntered, case 1
            obtain ⟨rfl, f18⟩ := hw
            refine lv_if_eq (tgt := 36) hx hb dX13_enter_31 (by decide) (fun c19 => ?_) (fun c19 => ?_)
            · --31 taken
              refine lv_aload_n hx hb dX13_enter_36 rfl (lv_at hl 0 rfl) ?_
              refine th_get (ci := 14) (C := RX13) (T := TX13) (N := 97) (v := .ref (ad 21)) hx hb hts hinX13 hown hK hP hI 0 (Nat.le_of_ble_eq_true rfl) rfl rfl 35 (Nat.le_of_ble_eq_true rfl) (hts _ (vA_in _ _ (in_24 _ (zs16 (zs16 (zs4 (zs1 (zs1 (zs1 (zs0)))))))))) (fun _ h9 => h9) (hI.fr 0 (Nat.le_of_ble_eq_true rfl) rfl (Nat.le_of_ble_eq_true rfl) 21 rfl) dX13_enter_37 ?_
              refine lv_bipush (v := 16) hx hb dX13_enter_40 (by decide) ?_
              refine lv_iload_n hx hb dX13_enter_42 rfl (lv_at hl 1 rfl) ?_
              refine lv_imul hx hb dX13_enter_43 ?_
              refine lv_topi (fun y20 ey20 => ?_)
              obtain ⟨ty20, iy20⟩ := ti_mul (e := 0) (f := 304) ln_16 f6 ey20 (by decide)
              have ty20 : y20.toInt = 16 * a0.toInt := ty20
              have iy20 : 0 ≤ y20.toInt ∧ y20.toInt ≤ 304 := iy20
              refine lv_iload_n hx hb dX13_enter_44 rfl (lv_at hl 2 rfl) ?_
              refine lv_iadd hx hb dX13_enter_45 ?_
              refine lv_topi (fun y21 ey21 => ?_)
              obtain ⟨ty21, iy21⟩ := ti_add (e := 0) (f := 319) iy20 f11 ey21 (by decide)
              have ty21 : y21.toInt = y20.toInt + a1.toInt := ty21
              have iy21 : 0 ≤ y21.toInt ∧ y21.toInt ≤ 319 := iy21
              refine lv_aload_n hx hb dX13_enter_46 rfl (lv_at hl 0 rfl) ?_
              refine th_get (ci := 14) (C := RX13) (T := TX13) (N := 97) (v := .int (xi (E 0) 1)) hx hb hts hinX13 hown hK hP hI 0 (Nat.le_of_ble_eq_true rfl) rfl rfl 1 (Nat.le_of_ble_eq_true rfl) (hts _ (vA_in _ _ (in_24 _ (zs16 (zs4 (zs4 (zs1 (zs1 (zs1 (zs0)))))))))) (fun _ h9 => h9) (th_v0 hKp hI0 0 (Nat.le_of_ble_eq_true rfl) rfl (Nat.le_of_ble_eq_true rfl) rfl rfl) dX13_enter_47 ?_
              have n22 : vp_in y21 320 := (iv_in (n := 320) iy21 (by decide))
              refine th_iast hx hb hK hP (WX_D hD) hS hI 21 (Nat.le_of_ble_eq_true rfl) rfl rfl n22 (okI rfl (iv_w i14 (by decide))) dX13_enter_50 (fun H locs E23 pw24 hI hP hS => ?_)
              have hKp := hKp.pw pw24 rfl
              obtain ⟨g25, eg25⟩ : ∃ z : Nat → Int32, z = upd g1 y21.toNatClampNeg (xi (E 0) 1) := ⟨_, rfl⟩
              have hg25 : xi (E23 21) = g25 := by rw [pw24.eu, ((pw3.ef 21 (Nat.ne_of_beq_eq_false rfl)).trans hg1), eg25]
              refine lv_iconst (v := 1) hx hb dX13_enter_51 (by decide) ?_
              rw [hQ]
              exact W.zret (v := 1) hx hb hr rfl (fun t ht hW => ⟨⟨1, E23, rfl, ⟨hI, hKp, Or.inl ⟨rfl, by (try rw [← hq9]); omega, by rw [show xi (E23 21) = g25 from hg25, show xi (E 21) = g1 from hg1]; rw [eg25]; congr 1; rw [tn_]; omega⟩⟩, by show va_P (dC, dI) vwCl (WX 72 ad E23) t.heap; rw [ht]; exact hP⟩, hS.F ht⟩) hS.2.2 dX13_enter_52
            · --31 not
              exact absurd c19 (by decide)
      · -- isBoat, case 1
        obtain ⟨rfl, f26⟩ := hw
        have i27 : 0 ≤ (xi (E 0) 8).toInt ∧ (xi (E 0) 8).toInt ≤ 16 := (show 0 ≤ (xi (E 0) 8).toInt ∧ (xi (E 0) 8).toInt ≤ 16 from hI0.iv 0 (Nat.le_of_ble_eq_true rfl) rfl (Nat.le_of_ble_eq_true rfl) rfl)
        try rw [hKp.ei 0 8 rfl] at f26
        refine lv_if_eq (tgt := 34) hx hb dX13_enter_18 (by decide) (fun c28 => ?_) (fun c28 => ?_)
        · --18 taken
          refine lv_iconst (v := 0) hx hb dX13_enter_34 (by decide) ?_
          rw [hQ]
          exact W.zret (v := 0) hx hb hr rfl (fun t ht hW => ⟨⟨0, E2, rfl, ⟨hI, hKp, Or.inr (⟨rfl, by omega, (show xi (E2 21) = g1 from ((pw3.ef 21 (Nat.ne_of_beq_eq_false rfl)).trans hg1)).trans (show xi (E 21) = g1 from hg1).symm⟩)⟩, by show va_P (dC, dI) vwCl (WX 72 ad E2) t.heap; rw [ht]; exact hP⟩, hS.F ht⟩) hS.2.2 dX13_enter_35
        · --18 not
          exact absurd c28 (by decide)
  · -- isRace, case 1
    obtain ⟨rfl, f29⟩ := hw
    have i30 : 0 ≤ (xi (E 0) 46).toInt ∧ (xi (E 0) 46).toInt ≤ 20 := (show 0 ≤ (xi (E 0) 46).toInt ∧ (xi (E 0) 46).toInt ≤ 20 from hI0.iv 0 (Nat.le_of_ble_eq_true rfl) rfl (Nat.le_of_ble_eq_true rfl) rfl)
    try rw [hKp.ei 0 46 rfl] at f29
    refine lv_if_eq (tgt := 34) hx hb dX13_enter_10 (by decide) (fun c31 => ?_) (fun c31 => ?_)
    · --10 taken
      refine lv_iconst (v := 0) hx hb dX13_enter_34 (by decide) ?_
      rw [hQ]
      exact W.zret (v := 0) hx hb hr rfl (fun t ht hW => ⟨⟨0, E2, rfl, ⟨hI, hKp, Or.inr (⟨rfl, by omega, (show xi (E2 21) = g1 from ((pw3.ef 21 (Nat.ne_of_beq_eq_false rfl)).trans hg1)).trans (show xi (E 21) = g1 from hg1).symm⟩)⟩, by show va_P (dC, dI) vwCl (WX 72 ad E2) t.heap; rw [ht]; exact hP⟩, hS.F ht⟩) hS.2.2 dX13_enter_35
    · --10 not
      exact absurd c31 (by decide)
def v_u_enterX : List Cond := .code yX12_enter cX12_enter 3 (some .boolean) :: vA
abbrev rm_u_enterX : Room := { frames := 4, cells := 0, slots := 0, locals := 160 }
set_option maxHeartbeats 4000000 in
set_option maxRecDepth 100000 in
theorem q_u_enterX (l : Launch) (dC : Nat → ClassId) (dI : Nat → Nat → Nat) (cT : Nat → ClassId) (cf : Nat → Nat) (hC : CF cf) (ad : Nat → Nat) (E : Nat → va_E) (sz : Nat) (a0 : Int32) (a1 : Int32) (hI0 : IXL cT (shC cf) (spC cf) (LC cf) ad E)  : Met l yX12_enter v_u_enterX rm_u_enterX (va_Pc [.ref (ad 0), .int a0, .int a1] (HWL dC dI (TYC cT) cf ad E sz)) (va_Qi (S := Nat → va_E) (fun r u => IXL cT (shC cf) (spC cf) (LC cf) ad u ∧ Kp (wl [64 * (a0.toNatClampNeg + 1) + 7] []) E u ∧ ((r = 1 ∧ ((0 ≤ a0.toInt ∧ a0.toInt < ((cf 2 : Nat) : Int)) ∧ (0 ≤ a1.toInt ∧ a1.toInt < (xi (E 1) 1).toInt) ∧ ¬ (¬ (xi (E (64 * (a0.toNatClampNeg + 1) + 7)) a1.toNatClampNeg).toInt = -1 ∧ (xi (E (64 * (a0.toNatClampNeg + 1) + 7)) a1.toNatClampNeg).toInt ≤ (xi (E 1) 0).toInt)) ∧ (xi (u (64 * (a0.toNatClampNeg + 1) + 7)) = upd (xi (E (64 * (a0.toNatClampNeg + 1) + 7))) a1.toNatClampNeg (xi (E 1) 0))) ∨ (r = 0 ∧ (¬ ((0 ≤ a0.toInt ∧ a0.toInt < ((cf 2 : Nat) : Int)) ∧ (0 ≤ a1.toInt ∧ a1.toInt < (xi (E 1) 1).toInt) ∧ ¬ (¬ (xi (E (64 * (a0.toNatClampNeg + 1) + 7)) a1.toNatClampNeg).toInt = -1 ∧ (xi (E (64 * (a0.toNatClampNeg + 1) + 7)) a1.toNatClampNeg).toInt ≤ (xi (E 1) 0).toInt))) ∧ (xi (u (64 * (a0.toNatClampNeg + 1) + 7)) = xi (E (64 * (a0.toNatClampNeg + 1) + 7)))))) (HBL dC dI (LC cf) ad) (va_A (WL (LC cf) ad E) sz)) 0 0 (va_A (WL (LC cf) ad E) sz) := by
  obtain ⟨⟨hc0, hc1, hc2, hc3, hc4, hc5⟩, hcr⟩ := id hC
  refine Met.ofW (cc := cX12_enter) (maxL := 3) (ret := (some .boolean)) (by decide) rfl ?_
  intro p e s m args below meth c s₁ B hml hv
  obtain ⟨hargs, hsz, hP, hK, hD0, hEV⟩ := hv
  subst hsz
  have hx := B.exec
  have hb := B.bytes
  have hr := B.returns
  have hts := atoms_spec (ws := v_u_enterX) B.pre
  have hown : s.vm.findClass RX12 = some m.cls := findClass_of_methodNamed B.named
  have hlocks := B.notSynchronized
  have hinX0 : ∀ w ∈ u_ws RX0 TX0 11, w ∈ v_u_enterX := fun w h => vA_in _ w (in_X0 w h)
  have hinX12 : ∀ w ∈ u_ws RX12 TX12 6, w ∈ v_u_enterX := fun w h => vA_in _ w (in_X12 w h)
  have hinX5 : ∀ w ∈ u_ws RX5 TX5 12, w ∈ v_u_enterX := fun w h => vA_in _ w (in_X5 w h)
  generalize hAe : va_A (WL (LC cf) ad E) s.heap.size = A at hEV ⊢
  have hA : ∀ q : Nat, s.heap.size ≤ q → A q := fun q h => by rw [← hAe]; exact Or.inr h
  have hD : va_D A (WL (LC cf) ad E) := by rw [← hAe]; exact hD0.self
  have hS : va_S A s.heap s.heap [] := va_S.rf
  have hI := hI0
  have hKp : Kp (wl [64 * (a0.toNatClampNeg + 1) + 7] []) E E := Kp.rf
  have hl := lv_entry ([.ref (ad 0), .int a0, .int a1]) (n := 3) (Nat.le_of_ble_eq_true rfl)
  obtain ⟨Q, hQ⟩ : ∃ Q, Q = MQ below (va_Qi (S := Nat → va_E) (fun r u => IXL cT (shC cf) (spC cf) (LC cf) ad u ∧ Kp (wl [64 * (a0.toNatClampNeg + 1) + 7] []) E u ∧ ((r = 1 ∧ ((0 ≤ a0.toInt ∧ a0.toInt < ((cf 2 : Nat) : Int)) ∧ (0 ≤ a1.toInt ∧ a1.toInt < (xi (E 1) 1).toInt) ∧ ¬ (¬ (xi (E (64 * (a0.toNatClampNeg + 1) + 7)) a1.toNatClampNeg).toInt = -1 ∧ (xi (E (64 * (a0.toNatClampNeg + 1) + 7)) a1.toNatClampNeg).toInt ≤ (xi (E 1) 0).toInt)) ∧ (xi (u (64 * (a0.toNatClampNeg + 1) + 7)) = upd (xi (E (64 * (a0.toNatClampNeg + 1) + 7))) a1.toNatClampNeg (xi (E 1) 0))) ∨ (r = 0 ∧ (¬ ((0 ≤ a0.toInt ∧ a0.toInt < ((cf 2 : Nat) : Int)) ∧ (0 ≤ a1.toInt ∧ a1.toInt < (xi (E 1) 1).toInt) ∧ ¬ (¬ (xi (E (64 * (a0.toNatClampNeg + 1) + 7)) a1.toNatClampNeg).toInt = -1 ∧ (xi (E (64 * (a0.toNatClampNeg + 1) + 7)) a1.toNatClampNeg).toInt ≤ (xi (E 1) 0).toInt))) ∧ (xi (u (64 * (a0.toNatClampNeg + 1) + 7)) = xi (E (64 * (a0.toNatClampNeg + 1) + 7)))))) (HBL dC dI (LC cf) ad) (A)) args s 0 0 (A) := ⟨_, rfl⟩
  rw [← hQ, show entryFrame m args 3 = _ from (congrArg (fun z => entryFrame m z 3) hargs).trans (lg_entry_eq _ _ _)]
  generalize (lg_sl ([.ref (ad 0), .int a0, .int a1]) ++ List.replicate (3 - (lg_sl ([.ref (ad 0), .int a0, .int a1])).length) Slot.unset).toArray = ls at hl ⊢
  have hl : lv_has ls 3 [(0, .ref (ad 0)), (1, .int a0), (2, .int a1)] := hl
  refine lv_aload_n hx hb dX12_enter_0 rfl (lv_at hl 0 rfl) ?_
  refine th_getL (ci := 13) (C := RX12) (T := TX12) (N := 6) (v := .ref (ad 1)) hx hb hts hinX12 hown hK hP hI 0 (mF 0 rfl) rfl rfl 0 (Nat.le_of_ble_eq_true rfl) (hts _ (vA_in _ _ (in_10 _ (zs16 (zs1 (zs0)))))) (fun _ h9 => h9) (hI.fr 0 (mF 0 rfl) rfl (Nat.le_of_ble_eq_true rfl) 1 rfl) dX12_enter_1 ?_
  refine lv_iload_n hx hb dX12_enter_4 rfl (lv_at hl 1 rfl) ?_
  refine th_riL (va_runV (As := [.int a0]) (rest := []) ⟨hx, hb, hml, hown, hts⟩ (q_isRaceC l dC dI cT cf hC ad E s.heap.size a0 hI) (cwV 1 hts (gi_V (in_18 _ zs0) (in_6 _ (zs4 (zs1 (zs1 (zs1 (zs0)))))) (in_6 _ (zs4 (zs4 (zs0)))) (in_5 _ (zs4 (zs1 (zs1 (zs0))))) (in_6 _ (zs4 (zs4 (zs1 (zs0)))))) rfl rfl rfl ⟨rfl, hz_yX0_isRace_1⟩ ⟨Nat.le_of_ble_eq_true rfl, Nat.le_of_ble_eq_true rfl⟩) ⟨HWL_bl, va_recv hK hP (ci := 1) (q0 := posL 1 (LC cf)) rfl (hI.ob 1 (mF 1 rfl) rfl), (HWL_wi hP hK (WL_D hD) hS hA hEV)⟩ rfl rfl hl.1 rfl (lv_room (Nat.le_of_ble_eq_true rfl)) dX12_enter_5 ⟨Nat.le_of_ble_eq_true rfl, Nat.le_of_ble_eq_true rfl⟩) hS hP (fun r1 H locs hw hP hS => ?_)
  rcases hw with hw | hw
  · -- isRaceC, case 0
    obtain ⟨rfl, f2, f3⟩ := hw
    refine lv_if_eq (tgt := 34) hx hb dX12_enter_8 (by decide) (fun c4 => ?_) (fun c4 => ?_)
    · --8 taken
      exact absurd c4 (by decide)
    · --8 not
      refine lv_aload_n hx hb dX12_enter_11 rfl (lv_at hl 0 rfl) ?_
      refine th_getL (ci := 13) (C := RX12) (T := TX12) (N := 6) (v := .ref (ad 1)) hx hb hts hinX12 hown hK hP hI 0 (mF 0 rfl) rfl rfl 0 (Nat.le_of_ble_eq_true rfl) (hts _ (vA_in _ _ (in_10 _ (zs16 (zs1 (zs0)))))) (fun _ h9 => h9) (hI.fr 0 (mF 0 rfl) rfl (Nat.le_of_ble_eq_true rfl) 1 rfl) dX12_enter_12 ?_
      refine lv_iload_n hx hb dX12_enter_15 rfl (lv_at hl 2 rfl) ?_
      refine th_riL (va_runV (As := [.int a1]) (rest := []) ⟨hx, hb, hml, hown, hts⟩ (q_isBoatC l dC dI cT cf hC ad E H.size a1 hI) (cwV 1 hts (gi_V (in_10 _ (zs16 (zs4 (zs4 (zs1 (zs1 (zs1 (zs0)))))))) (in_6 _ (zs4 (zs4 (zs4 (zs0))))) (in_6 _ (zs4 (zs4 (zs4 (zs1 (zs0)))))) (in_5 _ (zs4 (zs1 (zs1 (zs0))))) (in_5 _ (zs16 (zs16 (zs4 (zs1 (zs1 (zs0)))))))) rfl rfl rfl ⟨rfl, hz_yX0_isBoat_1⟩ ⟨Nat.le_of_ble_eq_true rfl, Nat.le_of_ble_eq_true rfl⟩) ⟨HWL_bl, va_recv hK hP (ci := 1) (q0 := posL 1 (LC cf)) rfl (hI.ob 1 (mF 1 rfl) rfl), (HWL_wi hP hK (WL_D hD) hS hA hEV)⟩ rfl rfl hl.1 rfl (lv_room (Nat.le_of_ble_eq_true rfl)) dX12_enter_16 ⟨Nat.le_of_ble_eq_true rfl, Nat.le_of_ble_eq_true rfl⟩) hS hP (fun r5 H locs hw hP hS => ?_)
      rcases hw with hw | hw
      · -- isBoatC, case 0
        obtain ⟨rfl, f6, f7⟩ := hw
        have i8 : 0 ≤ (xi (E 1) 1).toInt ∧ (xi (E 1) 1).toInt ≤ 16 := hI0.iv 1 (mF 1 rfl) rfl (Nat.le_of_ble_eq_true rfl) rfl
        refine lv_if_eq (tgt := 34) hx hb dX12_enter_19 (by decide) (fun c9 => ?_) (fun c9 => ?_)
        · --19 taken
          exact absurd c9 (by decide)
        · --19 not
          refine lv_aload_n hx hb dX12_enter_22 rfl (lv_at hl 0 rfl) ?_
          refine th_getL (ci := 13) (C := RX12) (T := TX12) (N := 6) (v := .ref (ad 1)) hx hb hts hinX12 hown hK hP hI 0 (mF 0 rfl) rfl rfl 0 (Nat.le_of_ble_eq_true rfl) (hts _ (vA_in _ _ (in_10 _ (zs16 (zs1 (zs0)))))) (fun _ h9 => h9) (hI.fr 0 (mF 0 rfl) rfl (Nat.le_of_ble_eq_true rfl) 1 rfl) dX12_enter_23 ?_
          refine lv_iload_n hx hb dX12_enter_26 rfl (lv_at hl 1 rfl) ?_
          refine lv_iload_n hx hb dX12_enter_27 rfl (lv_at hl 2 rfl) ?_
          refine th_riL (va_runV (As := [.int a0, .int a1]) (rest := []) ⟨hx, hb, hml, hown, hts⟩ (q_isEnteredC l dC dI cT cf hC ad E H.size a0 a1 hI) (cwV 2 hts (gi_V (in_18 _ (zs1 (zs0))) (in_18 _ (zs1 (zs1 (zs0)))) (in_18 _ (zs1 (zs1 (zs1 (zs0))))) (in_5 _ (zs4 (zs1 (zs1 (zs0))))) (in_6 _ (zs4 (zs4 (zs1 (zs1 (zs0))))))) rfl rfl rfl ⟨rfl, hz_yX0_isEntered_2⟩ ⟨Nat.le_of_ble_eq_true rfl, Nat.le_of_ble_eq_true rfl⟩) ⟨HWL_bl, va_recv hK hP (ci := 1) (q0 := posL 1 (LC cf)) rfl (hI.ob 1 (mF 1 rfl) rfl), (HWL_wi hP hK (WL_D hD) hS hA hEV)⟩ rfl rfl hl.1 rfl (lv_room (Nat.le_of_ble_eq_true rfl)) dX12_enter_28 ⟨Nat.le_of_ble_eq_true rfl, Nat.le_of_ble_eq_true rfl⟩) hS hP (fun r10 H locs hw hP hS => ?_)
          rcases hw with hw | hw
          · -- isEnteredC, case 0
            obtain ⟨rfl, f11, f12, f13⟩ := hw
            have i14 : 0 ≤ (xi (E 1) 0).toInt ∧ (xi (E 1) 0).toInt ≤ 400 := hI0.iv 1 (mF 1 rfl) rfl (Nat.le_of_ble_eq_true rfl) rfl
            refine lv_if_eq (tgt := 36) hx hb dX12_enter_31 (by decide) (fun c15 => ?_) (fun c15 => ?_)
            · --31 taken
              exact absurd c15 (by decide)
            · --31 not
              refine lv_iconst (v := 0) hx hb dX12_enter_34 (by decide) ?_
              rw [hQ]
              exact W.zret (v := 0) hx hb hr rfl (fun t ht hW => ⟨⟨0, E, rfl, ⟨hI, hKp, Or.inr (⟨rfl, by have h8 := ln_0; all_goals omega, rfl⟩)⟩, by show va_P (dC, dI) vwCl (WL (LC cf) ad E) t.heap; rw [ht]; exact hP⟩, hS.F ht⟩) hS.2.2 dX12_enter_35
          · -- isEnteredC, case 1
            obtain ⟨rfl, f16⟩ := hw
            have i17 : 0 ≤ (xi (E 1) 0).toInt ∧ (xi (E 1) 0).toInt ≤ 400 := hI0.iv 1 (mF 1 rfl) rfl (Nat.le_of_ble_eq_true rfl) rfl
            refine lv_if_eq (tgt := 36) hx hb dX12_enter_31 (by decide) (fun c18 => ?_) (fun c18 => ?_)
            · --31 taken
              refine lv_aload_n hx hb dX12_enter_36 rfl (lv_at hl 0 rfl) ?_
              refine th_getL (ci := 13) (C := RX12) (T := TX12) (N := 6) (v := .ref (ad 1)) hx hb hts hinX12 hown hK hP hI 0 (mF 0 rfl) rfl rfl 0 (Nat.le_of_ble_eq_true rfl) (hts _ (vA_in _ _ (in_10 _ (zs16 (zs1 (zs0)))))) (fun _ h9 => h9) (hI.fr 0 (mF 0 rfl) rfl (Nat.le_of_ble_eq_true rfl) 1 rfl) dX12_enter_37 ?_
              refine th_getL (ci := 1) (C := RX0) (T := TX0) (N := 11) (v := .ref (ad 9)) hx hb hts hinX0 hown hK hP hI 1 (mF 1 rfl) rfl rfl 5 (Nat.le_of_ble_eq_true rfl) (hts _ (vA_in _ _ (in_14 _ (zs4 (zs1 (zs1 (zs1 (zs0)))))))) (fun _ h9 => h9) (hI.fr 1 (mF 1 rfl) rfl (Nat.le_of_ble_eq_true rfl) 9 rfl) dX12_enter_40 ?_
              refine lv_iload_n hx hb dX12_enter_43 rfl (lv_at hl 1 rfl) ?_
              refine th_rrL (va_runV (As := [.int a0]) (rest := []) ⟨hx, hb, hml, hown, hts⟩ (q_get2 l dC dI cT cf hC ad E H.size a0 hI (by omega)) (cwV 1 hts (gi_V (in_14 _ (zs16 (zs4 (zs4 (zs0))))) (in_4 _ (zs16 (zs16 (zs4 (zs1 (zs1 (zs0))))))) (in_4 _ (zs16 (zs16 (zs4 (zs1 (zs1 (zs1 (zs0)))))))) (in_3 _ (zs16 (zs1 (zs1 (zs0))))) (in_3 _ (zs16 (zs16 (zs4 (zs1 (zs1 (zs1 (zs0))))))))) rfl rfl rfl ⟨rfl, hz_yJx4a65c_get_915e3_1⟩ ⟨Nat.le_of_ble_eq_true rfl, Nat.le_of_ble_eq_true rfl⟩) ⟨HWL_bl, va_recv hK hP (ci := 0) (q0 := posL 9 (LC cf)) rfl (hI.ob 9 (mF 9 rfl) rfl), (HWL_wi hP hK (WL_D hD) hS hA hEV)⟩ rfl rfl hl.1 rfl (lv_room (Nat.le_of_ble_eq_true rfl)) dX12_enter_44 ⟨Nat.le_of_ble_eq_true rfl, Nat.le_of_ble_eq_true rfl⟩) hS hP (fun r19 H locs hw hP hS => ?_)
              obtain rfl := hw
              have lv20 : a0.toNatClampNeg < cf 2 := by rw [tn_]; omega
              refine va_castS (cC := dC 6) hx hb hown (hts _ (vA_in _ _ (in_17 _ (zs16 (zs16 (zs4 (zs1 (zs1 (zs0))))))))) (hK.1 6 _ rfl).2 (va_recv hK hP (ci := 6) (q0 := posL (64 * (a0.toNatClampNeg + 1) + 6) (LC cf)) rfl (hI.ob (64 * (a0.toNatClampNeg + 1) + 6) (mP 6 a0.toNatClampNeg (by decide) lv20 (kl_le hC 2 (by decide))) (shC_p 6 a0.toNatClampNeg (by decide)))) dX12_enter_47 ?_
              refine th_getL (ci := 6) (C := RX5) (T := TX5) (N := 12) (v := .ref (ad (64 * (a0.toNatClampNeg + 1) + 7))) hx hb hts hinX5 hown hK hP hI (64 * (a0.toNatClampNeg + 1) + 6) (mP 6 a0.toNatClampNeg (by decide) lv20 (kl_le hC 2 (by decide))) (shC_p 6 a0.toNatClampNeg (by decide)) rfl 7 (Nat.le_of_ble_eq_true rfl) (hts _ (vA_in _ _ (in_17 _ (zs16 (zs16 (zs4 (zs1 (zs1 (zs1 (zs0)))))))))) (fun _ h9 => h9) (hI.fr (64 * (a0.toNatClampNeg + 1) + 6) (mP 6 a0.toNatClampNeg (by decide) lv20 (kl_le hC 2 (by decide))) (shC_p 6 a0.toNatClampNeg (by decide)) (Nat.le_of_ble_eq_true rfl) (64 * (a0.toNatClampNeg + 1) + 7) (spC_p 6 a0.toNatClampNeg (by decide) 7)) dX12_enter_50 ?_
              refine lv_iload_n hx hb dX12_enter_53 rfl (lv_at hl 2 rfl) ?_
              refine lv_aload_n hx hb dX12_enter_54 rfl (lv_at hl 0 rfl) ?_
              refine th_getL (ci := 13) (C := RX12) (T := TX12) (N := 6) (v := .ref (ad 1)) hx hb hts hinX12 hown hK hP hI 0 (mF 0 rfl) rfl rfl 0 (Nat.le_of_ble_eq_true rfl) (hts _ (vA_in _ _ (in_10 _ (zs16 (zs1 (zs0)))))) (fun _ h9 => h9) (hI.fr 0 (mF 0 rfl) rfl (Nat.le_of_ble_eq_true rfl) 1 rfl) dX12_enter_55 ?_
              refine th_getL (ci := 1) (C := RX0) (T := TX0) (N := 11) (v := .int (xi (E 1) 0)) hx hb hts hinX0 hown hK hP hI 1 (mF 1 rfl) rfl rfl 0 (Nat.le_of_ble_eq_true rfl) (hts _ (vA_in _ _ (in_10 _ (zs16 (zs4 (zs4 (zs1 (zs1 (zs0))))))))) (fun _ h9 => h9) (th_v0L hKp hI0 1 (mF 1 rfl) rfl (Nat.le_of_ble_eq_true rfl) rfl rfl) dX12_enter_58 ?_
              have n21 : vp_in a1 16 := (iv_in (n := 16) f7 (by decide))
              refine th_iastL hx hb hK hP (WL_D hD) hS hI (64 * (a0.toNatClampNeg + 1) + 7) (mP 7 a0.toNatClampNeg (by decide) lv20 (kl_le hC 2 (by decide))) (shC_p 7 a0.toNatClampNeg (by decide)) rfl n21 (okI (spC_p 7 a0.toNatClampNeg (by decide) _) (iv_w i17 (by decide))) dX12_enter_61 (fun H locs E22 pw23 hI hP hS => ?_)
              have hKp := hKp.pw pw23 (by simp [wl])
              refine lv_iconst (v := 1) hx hb dX12_enter_62 (by decide) ?_
              rw [hQ]
              exact W.zret (v := 1) hx hb hr rfl (fun t ht hW => ⟨⟨1, E22, rfl, ⟨hI, hKp, Or.inl ⟨rfl, by have h8 := ln_1; all_goals omega, pw23.eu⟩⟩, by show va_P (dC, dI) vwCl (WL (LC cf) ad E22) t.heap; rw [ht]; exact hP⟩, hS.F ht⟩) hS.2.2 dX12_enter_63
            · --31 not
              exact absurd c18 (by decide)
      · -- isBoatC, case 1
        obtain ⟨rfl, f24⟩ := hw
        have i25 : 0 ≤ (xi (E 1) 1).toInt ∧ (xi (E 1) 1).toInt ≤ 16 := hI0.iv 1 (mF 1 rfl) rfl (Nat.le_of_ble_eq_true rfl) rfl
        refine lv_if_eq (tgt := 34) hx hb dX12_enter_19 (by decide) (fun c26 => ?_) (fun c26 => ?_)
        · --19 taken
          refine lv_iconst (v := 0) hx hb dX12_enter_34 (by decide) ?_
          rw [hQ]
          exact W.zret (v := 0) hx hb hr rfl (fun t ht hW => ⟨⟨0, E, rfl, ⟨hI, hKp, Or.inr (⟨rfl, by have h8 := ln_0; all_goals omega, rfl⟩)⟩, by show va_P (dC, dI) vwCl (WL (LC cf) ad E) t.heap; rw [ht]; exact hP⟩, hS.F ht⟩) hS.2.2 dX12_enter_35
        · --19 not
          exact absurd c26 (by decide)
  · -- isRaceC, case 1
    obtain ⟨rfl, f27⟩ := hw
    refine lv_if_eq (tgt := 34) hx hb dX12_enter_8 (by decide) (fun c28 => ?_) (fun c28 => ?_)
    · --8 taken
      refine lv_iconst (v := 0) hx hb dX12_enter_34 (by decide) ?_
      rw [hQ]
      exact W.zret (v := 0) hx hb hr rfl (fun t ht hW => ⟨⟨0, E, rfl, ⟨hI, hKp, Or.inr (⟨rfl, by have h8 := ln_0; all_goals omega, rfl⟩)⟩, by show va_P (dC, dI) vwCl (WL (LC cf) ad E) t.heap; rw [ht]; exact hP⟩, hS.F ht⟩) hS.2.2 dX12_enter_35
    · --8 not
      exact absurd c28 (by decide)
