set_option maxRecDepth 100000 in
theorem zh_dX12_number_0_0 : zc cX12_number 0 [42, 180, 0, 10, 27, 182, 0, 66, 153, 0, 21, 28, 184, 0, 70, 153] = true := by decide +kernel
set_option maxRecDepth 100000 in
theorem zh_dX12_number_15_16 : zc cX12_number 16 [0, 14, 42, 180, 0, 10, 29, 182, 0, 92, 154, 0, 5, 2, 172, 42] = true := by decide +kernel
set_option maxRecDepth 100000 in
theorem zh_dX12_number_32_32 : zc cX12_number 32 [180, 0, 10, 27, 28, 29, 182, 0, 124, 172] = true := by decide +kernel
theorem dX12_number_0 : decode cX12_number 0 = .ok (.aload_n 0, 1) := zo_42 (zi_at zh_dX12_number_0_0 0 rfl)
theorem dX12_number_1 : decode cX12_number 1 = .ok (.getfield 10, 3) := zo_180 (zi_at zh_dX12_number_0_0 1 rfl) (zi_at zh_dX12_number_0_0 2 rfl) (zi_at zh_dX12_number_0_0 3 rfl) rfl
theorem dX12_number_4 : decode cX12_number 4 = .ok (.iload_n 1, 1) := zo_27 (zi_at zh_dX12_number_0_0 4 rfl)
theorem dX12_number_5 : decode cX12_number 5 = .ok (.invokevirtual 66, 3) := zo_182 (zi_at zh_dX12_number_0_0 5 rfl) (zi_at zh_dX12_number_0_0 6 rfl) (zi_at zh_dX12_number_0_0 7 rfl) rfl
theorem dX12_number_8 : decode cX12_number 8 = .ok (.ifCond .eq 21, 3) := zo_153 (zi_at zh_dX12_number_0_0 8 rfl) (zi_at zh_dX12_number_0_0 9 rfl) (zi_at zh_dX12_number_0_0 10 rfl) rfl
theorem dX12_number_11 : decode cX12_number 11 = .ok (.iload_n 2, 1) := zo_28 (zi_at zh_dX12_number_0_0 11 rfl)
theorem dX12_number_12 : decode cX12_number 12 = .ok (.invokestatic 70, 3) := zo_184 (zi_at zh_dX12_number_0_0 12 rfl) (zi_at zh_dX12_number_0_0 13 rfl) (zi_at zh_dX12_number_0_0 14 rfl) rfl
theorem dX12_number_15 : decode cX12_number 15 = .ok (.ifCond .eq 14, 3) := zo_153 (zi_at zh_dX12_number_0_0 15 rfl) (zi_at zh_dX12_number_15_16 0 rfl) (zi_at zh_dX12_number_15_16 1 rfl) rfl
theorem dX12_number_18 : decode cX12_number 18 = .ok (.aload_n 0, 1) := zo_42 (zi_at zh_dX12_number_15_16 2 rfl)
theorem dX12_number_19 : decode cX12_number 19 = .ok (.getfield 10, 3) := zo_180 (zi_at zh_dX12_number_15_16 3 rfl) (zi_at zh_dX12_number_15_16 4 rfl) (zi_at zh_dX12_number_15_16 5 rfl) rfl
theorem dX12_number_22 : decode cX12_number 22 = .ok (.iload_n 3, 1) := zo_29 (zi_at zh_dX12_number_15_16 6 rfl)
theorem dX12_number_23 : decode cX12_number 23 = .ok (.invokevirtual 92, 3) := zo_182 (zi_at zh_dX12_number_15_16 7 rfl) (zi_at zh_dX12_number_15_16 8 rfl) (zi_at zh_dX12_number_15_16 9 rfl) rfl
theorem dX12_number_26 : decode cX12_number 26 = .ok (.ifCond .ne 5, 3) := zo_154 (zi_at zh_dX12_number_15_16 10 rfl) (zi_at zh_dX12_number_15_16 11 rfl) (zi_at zh_dX12_number_15_16 12 rfl) rfl
theorem dX12_number_29 : decode cX12_number 29 = .ok (.iconst (-1), 1) := zo_2 (zi_at zh_dX12_number_15_16 13 rfl)
theorem dX12_number_30 : decode cX12_number 30 = .ok (.ireturn, 1) := zo_172 (zi_at zh_dX12_number_15_16 14 rfl)
theorem dX12_number_31 : decode cX12_number 31 = .ok (.aload_n 0, 1) := zo_42 (zi_at zh_dX12_number_15_16 15 rfl)
theorem dX12_number_32 : decode cX12_number 32 = .ok (.getfield 10, 3) := zo_180 (zi_at zh_dX12_number_32_32 0 rfl) (zi_at zh_dX12_number_32_32 1 rfl) (zi_at zh_dX12_number_32_32 2 rfl) rfl
theorem dX12_number_35 : decode cX12_number 35 = .ok (.iload_n 1, 1) := zo_27 (zi_at zh_dX12_number_32_32 3 rfl)
theorem dX12_number_36 : decode cX12_number 36 = .ok (.iload_n 2, 1) := zo_28 (zi_at zh_dX12_number_32_32 4 rfl)
theorem dX12_number_37 : decode cX12_number 37 = .ok (.iload_n 3, 1) := zo_29 (zi_at zh_dX12_number_32_32 5 rfl)
theorem dX12_number_38 : decode cX12_number 38 = .ok (.invokevirtual 124, 3) := zo_182 (zi_at zh_dX12_number_32_32 6 rfl) (zi_at zh_dX12_number_32_32 7 rfl) (zi_at zh_dX12_number_32_32 8 rfl) rfl
theorem dX12_number_41 : decode cX12_number 41 = .ok (.ireturn, 1) := zo_172 (zi_at zh_dX12_number_32_32 9 rfl)

def v_fill19X : List Cond := .code yJ7_fill_53178 cJ7_fill_53178 4 none :: vA
abbrev rm_fill19X : Room := { frames := 0, cells := 0, slots := 0, locals := 0 }
def w_fill19X : Nat → Nat → Bool := wl [19] []
set_option maxHeartbeats 4000000 in
set_option maxRecDepth 100000 in
theorem q_fill19X (l : Launch) (dC : Nat → ClassId) (dI : Nat → Nat → Nat) (cT : Nat → ClassId) (cf : Nat → Nat) (hC : CF cf) (ad : Nat → Nat) (E : Nat → va_E) (sz : Nat) (a1 : Int32) (hI0 : IXL cT (shC cf) (spC cf) (LC cf) ad E)  : Met l yJ7_fill_53178 v_fill19X rm_fill19X (va_Pc [.ref (ad 19), .int a1] (HWL dC dI (TYC cT) cf ad E sz)) (va_Qv (S := Nat → va_E) (fun u => IXL cT (shC cf) (spC cf) (LC cf) ad u ∧ Kp w_fill19X E u ∧ ((∀ j9, j9 < 14 → xi (u 19) j9 = a1))) (HBL dC dI (LC cf) ad) (va_A (WL (LC cf) ad E) sz)) 0 0 (va_A (WL (LC cf) ad E) sz) := by
  obtain ⟨⟨hc0, hc1, hc2, hc3, hc4, hc5⟩, hcr⟩ := id hC
  refine Met.ofW (cc := cJ7_fill_53178) (maxL := 4) (ret := none) (by decide) rfl ?_
  intro p e s m args below meth c s₁ B hml hv
  obtain ⟨hargs, hsz, hP, hK, hD0, hEV⟩ := hv
  subst hsz
  have hx := B.exec
  have hb := B.bytes
  have hr := B.returns
  have hts := atoms_spec (ws := v_fill19X) B.pre
  have hown : s.vm.findClass RJ7 = some m.cls := findClass_of_methodNamed B.named
  have hlocks := B.notSynchronized
  generalize hAe : va_A (WL (LC cf) ad E) s.heap.size = A at hEV ⊢
  have hA : ∀ q : Nat, s.heap.size ≤ q → A q := fun q h => by rw [← hAe]; exact Or.inr h
  have hD : va_D A (WL (LC cf) ad E) := by rw [← hAe]; exact hD0.self
  have hS : va_S A s.heap s.heap [] := va_S.rf
  have hI := hI0
  have hKp : Kp w_fill19X E E := Kp.rf
  have hl := lv_entry ([.ref (ad 19), .int a1]) (n := 4) (Nat.le_of_ble_eq_true rfl)
  obtain ⟨Q, hQ⟩ : ∃ Q, Q = MQ below (va_Qv (S := Nat → va_E) (fun u => IXL cT (shC cf) (spC cf) (LC cf) ad u ∧ Kp w_fill19X E u ∧ ((∀ j9, j9 < 14 → xi (u 19) j9 = a1))) (HBL dC dI (LC cf) ad) (A)) args s 0 0 (A) := ⟨_, rfl⟩
  rw [← hQ, show entryFrame m args 4 = _ from (congrArg (fun z => entryFrame m z 4) hargs).trans (lg_entry_eq _ _ _)]
  generalize (lg_sl ([.ref (ad 19), .int a1]) ++ List.replicate (4 - (lg_sl ([.ref (ad 19), .int a1])).length) Slot.unset).toArray = ls at hl ⊢
  have hl : lv_has ls 4 [(0, .ref (ad 19)), (1, .int a1)] := hl
  refine lv_iconst (v := 0) hx hb dJ7_fill_53178_0 (by decide) ?_
  refine lv_istore_n (lv' := [(2, .int 0), (0, .ref (ad 19)), (1, .int a1)]) hx hb dJ7_fill_53178_1 rfl hl (by decide) rfl (fun ls hl => ?_)
  refine lv_aload_n hx hb dJ7_fill_53178_2 rfl (lv_at hl 1 rfl) ?_
  refine va_alen (v := 14) hx hb hK hP (posL 19 (LC cf)) 0 (hI.ar 19 (mF 19 rfl) rfl) rfl rfl dJ7_fill_53178_3 ?_
  refine lv_istore_n (lv' := [(3, .int 14), (2, .int 0), (0, .ref (ad 19)), (1, .int a1)]) hx hb dJ7_fill_53178_4 rfl hl (by decide) rfl (fun ls hl => ?_)
  have hL5 : ∀ d : Nat, ∀ (v5_2 : Int32) (E5_ : Nat → va_E) (H : Heap) (locs : List Loc) (ls : Array Slot), 0 ≤ v5_2.toInt ∧ v5_2.toInt ≤ 14 → (∀ j9, j9 < v5_2.toNatClampNeg → xi (E5_ 19) j9 = a1) → 14 - v5_2.toInt < (d : Int) → IXL cT (shC cf) (spC cf) (LC cf) ad E5_ → Kp w_fill19X E E5_ → va_P (dC, dI) vwCl (WL (LC cf) ad E5_) H → va_S A s.heap H locs → lv_has ls 4 [(3, .int 14), (2, .int v5_2), (0, .ref (ad 19)), (1, .int a1)] → W p l e (headSpec v_fill19X rm_fill19X).room s m args below meth c H locs 0 0 Q (F0 m 5 ls []) := by
    intro d
    induction d with
    | zero =>
      intro v5_2 E5_ H locs ls hv5_2 hx5_0 hx5_1 hI hKp hP hS hl
      exact absurd hx5_1 (by first | exact ms_zu hv5_2.2 | omega)
    | succ d ih5 =>
      intro v5_2 E5_ H locs ls hv5_2 hx5_0 hx5_1 hI hKp hP hS hl
      refine lv_iload_n hx hb dJ7_fill_53178_5 rfl (lv_at hl 1 rfl) ?_
      refine lv_iload_n hx hb dJ7_fill_53178_6 rfl (lv_at hl 0 rfl) ?_
      refine lv_icmp_ge (tgt := 20) hx hb dJ7_fill_53178_7 (by decide) (fun c1 => ?_) (fun c1 => ?_)
      · --7 taken
        have t2 : (14 : Int) ≤ v5_2.toInt := ti_le c1
        have i3 : 14 ≤ v5_2.toInt ∧ v5_2.toInt ≤ 14 := iv_le_r t2 (il_ 14) hv5_2 (by decide)
        rw [hQ]
        exact W.vret hx hb hr (fun t ht hW => ⟨⟨E5_, rfl, ⟨hI, hKp, fun j9 hj9 => hx5_0 j9 (by rw [tn_]; omega)⟩, by show va_P (dC, dI) vwCl (WL (LC cf) ad E5_) t.heap; rw [ht]; exact hP⟩, hS.F ht⟩) hS.2.2 dJ7_fill_53178_20
      · --7 not
        have t4 : v5_2.toInt < 14 := ti_nle c1
        have i5 : 0 ≤ v5_2.toInt ∧ v5_2.toInt ≤ 13 := iv_lt_l t4 hv5_2 (il_ 14) (by decide)
        refine lv_aload_n hx hb dJ7_fill_53178_10 rfl (lv_at hl 2 rfl) ?_
        refine lv_iload_n hx hb dJ7_fill_53178_11 rfl (lv_at hl 1 rfl) ?_
        refine lv_iload_n hx hb dJ7_fill_53178_12 rfl (lv_at hl 3 rfl) ?_
        have n6 : vp_in v5_2 14 := (iv_in (n := 14) i5 (by decide))
        refine th_iastL hx hb hK hP (WL_D hD) hS hI 19 (mF 19 rfl) rfl rfl n6 (okI rfl (iv_all _)) dJ7_fill_53178_13 (fun H locs E7 pw8 hI hP hS => ?_)
        have hKp := hKp.pw pw8 rfl
        obtain ⟨y9, ey9⟩ : ∃ y : Int32, y = v5_2 + (1 : Int32) := ⟨_, rfl⟩
        obtain ⟨ty9, iy9⟩ := ti_add (e := 1) (f := 14) i5 ln_1 ey9 (by decide)
        have ty9 : y9.toInt = v5_2.toInt + 1 := ty9
        have iy9 : 1 ≤ y9.toInt ∧ y9.toInt ≤ 14 := iy9
        refine lv_iinc (v := y9) (lv' := [(2, .int y9), (3, .int 14), (0, .ref (ad 19)), (1, .int a1)]) hx hb dJ7_fill_53178_14 hl (k := 1) rfl (by rw [ey9]; rfl) (by decide) rfl (fun ls hl => ?_)
        refine lv_goto (tgt := 5) hx hb dJ7_fill_53178_17 (by decide) ?_
        exact ih5 y9 E7 _ _ _ (iv_w iy9 (by decide)) (fl_s hx5_0 pw8 ty9 (by omega)) (by first | exact ms_su hx5_1 ty9 (by decide) | omega) hI hKp hP hS (lv_sub hl [1, 0, 2, 3] rfl)
  exact hL5 (15) (0 : Int32) E _ _ _ (iv_w ln_0 (by decide)) (fun j9 hj9 => absurd hj9 (by rw [tn_]; exact Nat.not_lt_zero _)) (by have h9 := ln_0; first | exact ms_bu h9.1 (by decide) | omega) hI hKp hP hS (lv_sub hl [0, 1, 2, 3] rfl)
def v_forgetX : List Cond := .code yX0_forgetLetters cX0_forgetLetters 1 none :: vA
abbrev rm_forgetX : Room := { frames := 1, cells := 0, slots := 0, locals := 40 }
def w_forgetX : Nat → Nat → Bool := wl [19] []
set_option maxHeartbeats 4000000 in
set_option maxRecDepth 100000 in
theorem q_forgetX (l : Launch) (dC : Nat → ClassId) (dI : Nat → Nat → Nat) (cT : Nat → ClassId) (cf : Nat → Nat) (hC : CF cf) (ad : Nat → Nat) (E : Nat → va_E) (sz : Nat)  (hI0 : IXL cT (shC cf) (spC cf) (LC cf) ad E)  : Met l yX0_forgetLetters v_forgetX rm_forgetX (va_Pc [.ref (ad 1)] (HWL dC dI (TYC cT) cf ad E sz)) (va_Qv (S := Nat → va_E) (fun u => IXL cT (shC cf) (spC cf) (LC cf) ad u ∧ Kp w_forgetX E u ∧ ((cL u = lz))) (HBL dC dI (LC cf) ad) (va_A (WL (LC cf) ad E) sz)) 0 0 (va_A (WL (LC cf) ad E) sz) := by
  obtain ⟨⟨hc0, hc1, hc2, hc3, hc4, hc5⟩, hcr⟩ := id hC
  refine Met.ofW (cc := cX0_forgetLetters) (maxL := 1) (ret := none) (by decide) rfl ?_
  intro p e s m args below meth c s₁ B hml hv
  obtain ⟨hargs, hsz, hP, hK, hD0, hEV⟩ := hv
  subst hsz
  have hx := B.exec
  have hb := B.bytes
  have hr := B.returns
  have hts := atoms_spec (ws := v_forgetX) B.pre
  have hown : s.vm.findClass RX0 = some m.cls := findClass_of_methodNamed B.named
  have hlocks := B.notSynchronized
  have hinX0 : ∀ w ∈ u_ws RX0 TX0 11, w ∈ v_forgetX := fun w h => vA_in _ w (in_X0 w h)
  generalize hAe : va_A (WL (LC cf) ad E) s.heap.size = A at hEV ⊢
  have hA : ∀ q : Nat, s.heap.size ≤ q → A q := fun q h => by rw [← hAe]; exact Or.inr h
  have hD : va_D A (WL (LC cf) ad E) := by rw [← hAe]; exact hD0.self
  have hS : va_S A s.heap s.heap [] := va_S.rf
  have hI := hI0
  have hKp : Kp w_forgetX E E := Kp.rf
  have hl := lv_entry ([.ref (ad 1)]) (n := 1) (Nat.le_of_ble_eq_true rfl)
  obtain ⟨Q, hQ⟩ : ∃ Q, Q = MQ below (va_Qv (S := Nat → va_E) (fun u => IXL cT (shC cf) (spC cf) (LC cf) ad u ∧ Kp w_forgetX E u ∧ ((cL u = lz))) (HBL dC dI (LC cf) ad) (A)) args s 0 0 (A) := ⟨_, rfl⟩
  rw [← hQ, show entryFrame m args 1 = _ from (congrArg (fun z => entryFrame m z 1) hargs).trans (lg_entry_eq _ _ _)]
  generalize (lg_sl ([.ref (ad 1)]) ++ List.replicate (1 - (lg_sl ([.ref (ad 1)])).length) Slot.unset).toArray = ls at hl ⊢
  have hl : lv_has ls 1 [(0, .ref (ad 1))] := hl
  refine lv_aload_n hx hb dX0_forgetLetters_0 rfl (lv_at hl 0 rfl) ?_
  refine th_getL (ci := 1) (C := RX0) (T := TX0) (N := 11) (v := .ref (ad 19)) hx hb hts hinX0 hown hK hP hI 1 (mF 1 rfl) rfl rfl 9 (Nat.le_of_ble_eq_true rfl) (hts _ (vA_in _ _ (in_5 _ (zs16 (zs4 (zs4 (zs0))))))) (fun _ h9 => h9) (hI.fr 1 (mF 1 rfl) rfl (Nat.le_of_ble_eq_true rfl) 19 rfl) dX0_forgetLetters_1 ?_
  refine lv_iconst (v := 0) hx hb dX0_forgetLetters_4 (by decide) ?_
  refine th_vL (va_runS (As := [.ref (ad 19), .int 0]) (rest := []) ⟨hx, hb, hml, hown, hts⟩ (q_fill19X l dC dI cT cf hC ad E s.heap.size (0 : Int32) hI) (va_cwS 2 hts (gi_S (in_5 _ (zs16 (zs4 (zs4 (zs1 (zs0)))))) (in_5 _ (zs16 (zs4 (zs4 (zs1 (zs1 (zs0))))))) (in_2 _ (zs16 (zs4 (zs1 (zs1 (zs0)))))) (in_2 _ (zs16 (zs16 (zs4 (zs1 (zs1 (zs1 (zs0))))))))) rfl rfl rfl (by decide +kernel) ⟨Nat.le_of_ble_eq_true rfl, Nat.le_of_ble_eq_true rfl⟩) ⟨HWL_bl, (HWL_wi hP hK (WL_D hD) hS hA hEV)⟩ rfl rfl hl.1 rfl (lv_room (Nat.le_of_ble_eq_true rfl)) dX0_forgetLetters_5 ⟨Nat.le_of_ble_eq_true rfl, Nat.le_of_ble_eq_true rfl⟩) (WL_D hD) hS hA (fun E2 H locs hw hP hS => ?_)
  obtain ⟨hI, kq3, hw⟩ := hw
  have hKb := hKp
  have hKp := hKp.tr kq3 (wl_sub rfl rfl)
  have f4 := hw
  rw [hQ]
  exact W.vret hx hb hr (fun t ht hW => ⟨⟨E2, rfl, ⟨hI, hKp, cL_0 f4⟩, by show va_P (dC, dI) vwCl (WL (LC cf) ad E2) t.heap; rw [ht]; exact hP⟩, hS.F ht⟩) hS.2.2 dX0_forgetLetters_8
def v_cheldX : List Cond := .code yX12_held cX12_held 3 (some .int) :: vA
abbrev rm_cheldX : Room := { frames := 0, cells := 0, slots := 0, locals := 0 }
set_option maxHeartbeats 4000000 in
set_option maxRecDepth 100000 in
theorem q_cheldX (l : Launch) (a0 : Int32) (a1 : Int32) (a2 : Int32) (hh0 : a1.toInt ≤ a2.toInt) : Met l yX12_held v_cheldX rm_cheldX (va_Pc [.int a0, .int a1, .int a2] (fun _ => True)) (va_Qi (S := Unit) (fun r _ => (r.toInt = max a1.toInt (min a2.toInt a0.toInt))) (fun _ _ => True) (fun _ => False)) 0 0 (fun _ => False) := by
  refine Met.ofW (cc := cX12_held) (maxL := 3) (ret := (some .int)) (by decide) rfl ?_
  intro p e s m args below meth c s₁ B hml hv
  obtain ⟨hargs, -⟩ := hv
  have hx := B.exec
  have hb := B.bytes
  have hr := B.returns
  have hts := atoms_spec (ws := v_cheldX) B.pre
  have hown : s.vm.findClass RX12 = some m.cls := findClass_of_methodNamed B.named
  have hlocks := B.notSynchronized
  have hS : va_S (fun _ : Nat => False) s.heap s.heap [] := va_S.rf
  have hl := lv_entry ([.int a0, .int a1, .int a2]) (n := 3) (Nat.le_of_ble_eq_true rfl)
  obtain ⟨Q, hQ⟩ : ∃ Q, Q = MQ below (va_Qi (S := Unit) (fun r _ => (r.toInt = max a1.toInt (min a2.toInt a0.toInt))) (fun _ _ => True) (fun _ => False)) args s 0 0 (fun _ => False) := ⟨_, rfl⟩
  rw [← hQ, show entryFrame m args 3 = _ from (congrArg (fun z => entryFrame m z 3) hargs).trans (lg_entry_eq _ _ _)]
  generalize (lg_sl ([.int a0, .int a1, .int a2]) ++ List.replicate (3 - (lg_sl ([.int a0, .int a1, .int a2])).length) Slot.unset).toArray = ls at hl ⊢
  have hl : lv_has ls 3 [(0, .int a0), (1, .int a1), (2, .int a2)] := hl
  refine lv_iload_n hx hb dX12_held_0 rfl (lv_at hl 0 rfl) ?_
  refine lv_iload_n hx hb dX12_held_1 rfl (lv_at hl 1 rfl) ?_
  refine lv_icmp_ge (tgt := 9) hx hb dX12_held_2 (by decide) (fun c1 => ?_) (fun c1 => ?_)
  · --2 taken
    have t2 : a1.toInt ≤ a0.toInt := ti_le c1
    refine lv_iload_n hx hb dX12_held_9 rfl (lv_at hl 0 rfl) ?_
    refine lv_iload_n hx hb dX12_held_10 rfl (lv_at hl 2 rfl) ?_
    refine lv_icmp_le (tgt := 18) hx hb dX12_held_11 (by decide) (fun c3 => ?_) (fun c3 => ?_)
    · --11 taken
      have t4 : a0.toInt ≤ a2.toInt := ti_le c3
      refine lv_iload_n hx hb dX12_held_18 rfl (lv_at hl 0 rfl) ?_
      rw [hQ]
      exact W.iret (v := a0) hx hb hr (fun t ht hW => ⟨⟨a0, (), rfl, (by omega), trivial⟩, hS.F ht⟩) hS.2.2 dX12_held_19
    · --11 not
      have t5 : a2.toInt < a0.toInt := ti_nle c3
      have i6 : -2147483648 ≤ a2.toInt ∧ a2.toInt ≤ 2147483646 := iv_lt_l t5 (iv_all _) (iv_all _) (by decide)
      have i7 : -2147483647 ≤ a0.toInt ∧ a0.toInt ≤ 2147483647 := iv_lt_r t5 (iv_all _) (iv_all _) (by decide)
      refine lv_iload_n hx hb dX12_held_14 rfl (lv_at hl 2 rfl) ?_
      refine lv_goto (tgt := 19) hx hb dX12_held_15 (by decide) ?_
      rw [hQ]
      exact W.iret (v := a2) hx hb hr (fun t ht hW => ⟨⟨a2, (), rfl, (by omega), trivial⟩, hS.F ht⟩) hS.2.2 dX12_held_19
  · --2 not
    have t8 : a0.toInt < a1.toInt := ti_nle c1
    have i9 : -2147483648 ≤ a0.toInt ∧ a0.toInt ≤ 2147483646 := iv_lt_l t8 (iv_all _) (iv_all _) (by decide)
    have i10 : -2147483647 ≤ a1.toInt ∧ a1.toInt ≤ 2147483647 := iv_lt_r t8 (iv_all _) (iv_all _) (by decide)
    refine lv_iload_n hx hb dX12_held_5 rfl (lv_at hl 1 rfl) ?_
    refine lv_goto (tgt := 19) hx hb dX12_held_6 (by decide) ?_
    rw [hQ]
    exact W.iret (v := a1) hx hb hr (fun t ht hW => ⟨⟨a1, (), rfl, (by omega), trivial⟩, hS.F ht⟩) hS.2.2 dX12_held_19
def v_numberOfX : List Cond := .code yX0_numberOf cX0_numberOf 7 (some .int) :: vA
abbrev rm_numberOfX : Room := { frames := 4, cells := 0, slots := 0, locals := 160 }
def w_numberOfX : Nat → Nat → Bool := wl [19, 20] []
set_option maxHeartbeats 4000000 in
set_option maxRecDepth 100000 in
theorem q_numberOfX (l : Launch) (dC : Nat → ClassId) (dI : Nat → Nat → Nat) (cT : Nat → ClassId) (cf : Nat → Nat) (hC : CF cf) (ad : Nat → Nat) (E : Nat → va_E) (sz : Nat) (a0 : Int32) (a1 : Int32) (a2 : Int32) (hI0 : IXL cT (shC cf) (spC cf) (LC cf) ad E) (hh0 : RulAll cf E) : Met l yX0_numberOf v_numberOfX rm_numberOfX (va_Pc [.ref (ad 1), .int a0, .int a1, .int a2] (HWL dC dI (TYC cT) cf ad E sz)) (va_Qi (S := Nat → va_E) (fun r u => IXL cT (shC cf) (spC cf) (LC cf) ad u ∧ Kp w_numberOfX E u ∧ ((r.toInt = numC cf E a0 a1 a2))) (HBL dC dI (LC cf) ad) (va_A (WL (LC cf) ad E) sz)) 0 0 (va_A (WL (LC cf) ad E) sz) := by
  obtain ⟨⟨hc0, hc1, hc2, hc3, hc4, hc5⟩, hcr⟩ := id hC
  refine Met.ofW (cc := cX0_numberOf) (maxL := 7) (ret := (some .int)) (by decide) rfl ?_
  intro p e s m args below meth c s₁ B hml hv
  obtain ⟨hargs, hsz, hP, hK, hD0, hEV⟩ := hv
  subst hsz
  have hx := B.exec
  have hb := B.bytes
  have hr := B.returns
  have hts := atoms_spec (ws := v_numberOfX) B.pre
  have hown : s.vm.findClass RX0 = some m.cls := findClass_of_methodNamed B.named
  have hlocks := B.notSynchronized
  have hinX0 : ∀ w ∈ u_ws RX0 TX0 11, w ∈ v_numberOfX := fun w h => vA_in _ w (in_X0 w h)
  have hinX1 : ∀ w ∈ u_ws RX1 TX1 6, w ∈ v_numberOfX := fun w h => vA_in _ w (in_X1 w h)
  generalize hAe : va_A (WL (LC cf) ad E) s.heap.size = A at hEV ⊢
  have hA : ∀ q : Nat, s.heap.size ≤ q → A q := fun q h => by rw [← hAe]; exact Or.inr h
  have hD : va_D A (WL (LC cf) ad E) := by rw [← hAe]; exact hD0.self
  have hS : va_S A s.heap s.heap [] := va_S.rf
  have hI := hI0
  have hKp : Kp w_numberOfX E E := Kp.rf
  have hl := lv_entry ([.ref (ad 1), .int a0, .int a1, .int a2]) (n := 7) (Nat.le_of_ble_eq_true rfl)
  obtain ⟨Q, hQ⟩ : ∃ Q, Q = MQ below (va_Qi (S := Nat → va_E) (fun r u => IXL cT (shC cf) (spC cf) (LC cf) ad u ∧ Kp w_numberOfX E u ∧ ((r.toInt = numC cf E a0 a1 a2))) (HBL dC dI (LC cf) ad) (A)) args s 0 0 (A) := ⟨_, rfl⟩
  rw [← hQ, show entryFrame m args 7 = _ from (congrArg (fun z => entryFrame m z 7) hargs).trans (lg_entry_eq _ _ _)]
  generalize (lg_sl ([.ref (ad 1), .int a0, .int a1, .int a2]) ++ List.replicate (7 - (lg_sl ([.ref (ad 1), .int a0, .int a1, .int a2])).length) Slot.unset).toArray = ls at hl ⊢
  have hl : lv_has ls 7 [(0, .ref (ad 1)), (1, .int a0), (2, .int a1), (3, .int a2)] := hl
  refine lv_aload_n hx hb dX0_numberOf_0 rfl (lv_at hl 0 rfl) ?_
  refine lv_iload_n hx hb dX0_numberOf_1 rfl (lv_at hl 2 rfl) ?_
  refine lv_iload_n hx hb dX0_numberOf_2 rfl (lv_at hl 3 rfl) ?_
  refine th_riL (va_runV (As := [.int a1, .int a2]) (rest := []) ⟨hx, hb, hml, hown, hts⟩ (q_rulesOnX l dC dI cT cf hC ad E s.heap.size a1 a2 hI) (cwV 2 hts (gi_V (in_6 _ (zs16 (zs4 (zs4 (zs1 (zs1 (zs1 (zs0)))))))) (in_6 _ (zs16 (zs4 (zs4 (zs4 (zs0)))))) (in_6 _ (zs16 (zs4 (zs4 (zs4 (zs1 (zs0))))))) (in_5 _ (zs4 (zs1 (zs1 (zs0))))) (in_6 _ (zs16 (zs4 (zs4 (zs4 (zs1 (zs1 (zs0))))))))) rfl rfl rfl (by decide +kernel) ⟨Nat.le_of_ble_eq_true rfl, Nat.le_of_ble_eq_true rfl⟩) ⟨HWL_bl, va_recv hK hP (ci := 1) (q0 := posL 1 (LC cf)) rfl (hI.ob 1 (mF 1 rfl) rfl), (HWL_wi hP hK (WL_D hD) hS hA hEV)⟩ rfl rfl hl.1 rfl (lv_room (Nat.le_of_ble_eq_true rfl)) dX0_numberOf_3 ⟨Nat.le_of_ble_eq_true rfl, Nat.le_of_ble_eq_true rfl⟩) hS hP (fun r1 H locs hw hP hS => ?_)
  obtain ⟨f2, f3, f4⟩ := hw
  have k5 : r1 = lawC cf E a1 a2 := Int32.toInt_inj.mp f4
  refine lv_istore (lv' := [(4, .int r1), (0, .ref (ad 1)), (1, .int a0), (2, .int a1), (3, .int a2)]) hx hb dX0_numberOf_6 hl (by decide) rfl (fun ls hl => ?_)
  refine lv_aload_n hx hb dX0_numberOf_8 rfl (lv_at hl 1 rfl) ?_
  refine lv_iload_n hx hb dX0_numberOf_9 rfl (lv_at hl 2 rfl) ?_
  refine lv_iload_n hx hb dX0_numberOf_10 rfl (lv_at hl 3 rfl) ?_
  refine lv_iload_n hx hb dX0_numberOf_11 rfl (lv_at hl 4 rfl) ?_
  refine th_riL (va_runV (As := [.int a0, .int a1, .int a2]) (rest := []) ⟨hx, hb, hml, hown, hts⟩ (q_certificateOnX l dC dI cT cf hC ad E H.size a0 a1 a2 hI) (cwV 3 hts (gi_V (in_6 _ (zs16 (zs16 (zs1 (zs0))))) (in_6 _ (zs16 (zs16 (zs1 (zs1 (zs0)))))) (in_6 _ (zs16 (zs16 (zs1 (zs1 (zs1 (zs0))))))) (in_5 _ (zs4 (zs1 (zs1 (zs0))))) (in_4 _ (zs16 (zs4 (zs4 (zs4 (zs0))))))) rfl rfl rfl (by decide +kernel) ⟨Nat.le_of_ble_eq_true rfl, Nat.le_of_ble_eq_true rfl⟩) ⟨HWL_bl, va_recv hK hP (ci := 1) (q0 := posL 1 (LC cf)) rfl (hI.ob 1 (mF 1 rfl) rfl), (HWL_wi hP hK (WL_D hD) hS hA hEV)⟩ rfl rfl hl.1 rfl (lv_room (Nat.le_of_ble_eq_true rfl)) dX0_numberOf_12 ⟨Nat.le_of_ble_eq_true rfl, Nat.le_of_ble_eq_true rfl⟩) hS hP (fun r6 H locs hw hP hS => ?_)
  obtain ⟨f7, f8, f9⟩ := hw
  have k10 : r6 = papC cf E a0 a1 a2 := Int32.toInt_inj.mp f9
  refine lv_istore (lv' := [(5, .int r6), (4, .int r1), (0, .ref (ad 1)), (1, .int a0), (2, .int a1), (3, .int a2)]) hx hb dX0_numberOf_15 hl (by decide) rfl (fun ls hl => ?_)
  refine lv_iload hx hb dX0_numberOf_17 (lv_at hl 1 rfl) ?_
  refine lv_iconst (v := -1) hx hb dX0_numberOf_19 (by decide) ?_
  refine lv_icmp_eq (tgt := 29) hx hb dX0_numberOf_20 (by decide) (fun c11 => ?_) (fun c11 => ?_)
  · --20 taken
    have t12 : r1.toInt = -1 := ti_eq c11
    have i13 : -1 ≤ r1.toInt ∧ r1.toInt ≤ -1 := iv_eqi t12 f2 (il_ (-1)) (by decide)
    refine lv_sipush (v := 1000) hx hb dX0_numberOf_29 (by decide) ?_
    rw [hQ]
    exact W.iret (v := 1000) hx hb hr (fun t ht hW => ⟨⟨1000, E, rfl, ⟨hI, hKp, nuA_0 (Or.inl (by rw [← k5]; omega))⟩, by show va_P (dC, dI) vwCl (WL (LC cf) ad E) t.heap; rw [ht]; exact hP⟩, hS.F ht⟩) hS.2.2 dX0_numberOf_32
  · --20 not
    have t14 : ¬ r1.toInt = -1 := ti_ne c11
    have i15 : 0 ≤ r1.toInt ∧ r1.toInt ≤ 15 := iv_ne_l t14 f2 (il_ (-1))
    refine lv_iload hx hb dX0_numberOf_23 (lv_at hl 0 rfl) ?_
    refine lv_iconst (v := -1) hx hb dX0_numberOf_25 (by decide) ?_
    refine lv_icmp_ne (tgt := 33) hx hb dX0_numberOf_26 (by decide) (fun c16 => ?_) (fun c16 => ?_)
    · --26 taken
      have t17 : ¬ r6.toInt = -1 := ti_ne c16
      have i18 : 0 ≤ r6.toInt ∧ r6.toInt ≤ 79 := iv_ne_l t17 f7 (il_ (-1))
      refine lv_aload_n hx hb dX0_numberOf_33 rfl (lv_at hl 2 rfl) ?_
      refine th_getL (ci := 1) (C := RX0) (T := TX0) (N := 11) (v := .ref (ad 7)) hx hb hts hinX0 hown hK hP hI 1 (mF 1 rfl) rfl rfl 3 (Nat.le_of_ble_eq_true rfl) (hts _ (vA_in _ _ (in_4 _ (zs16 (zs4 (zs4 (zs4 (zs1 (zs0))))))))) (fun _ h9 => h9) (hI.fr 1 (mF 1 rfl) rfl (Nat.le_of_ble_eq_true rfl) 7 rfl) dX0_numberOf_34 ?_
      refine lv_iload hx hb dX0_numberOf_37 (lv_at hl 0 rfl) ?_
      refine th_rrL (va_runV (As := [.int r6]) (rest := []) ⟨hx, hb, hml, hown, hts⟩ (q_get0 l dC dI cT cf hC ad E H.size r6 hI (by omega)) (cwV 1 hts (gi_V (in_4 _ (zs16 (zs16 (zs4 (zs1 (zs0)))))) (in_4 _ (zs16 (zs16 (zs4 (zs1 (zs1 (zs0))))))) (in_4 _ (zs16 (zs16 (zs4 (zs1 (zs1 (zs1 (zs0)))))))) (in_3 _ (zs16 (zs1 (zs1 (zs0))))) (in_3 _ (zs16 (zs16 (zs4 (zs1 (zs1 (zs1 (zs0))))))))) rfl rfl rfl (by decide +kernel) ⟨Nat.le_of_ble_eq_true rfl, Nat.le_of_ble_eq_true rfl⟩) ⟨HWL_bl, va_recv hK hP (ci := 0) (q0 := posL 7 (LC cf)) rfl (hI.ob 7 (mF 7 rfl) rfl), (HWL_wi hP hK (WL_D hD) hS hA hEV)⟩ rfl rfl hl.1 rfl (lv_room (Nat.le_of_ble_eq_true rfl)) dX0_numberOf_39 ⟨Nat.le_of_ble_eq_true rfl, Nat.le_of_ble_eq_true rfl⟩) hS hP (fun r19 H locs hw hP hS => ?_)
      obtain rfl := hw
      have lv20 : r6.toNatClampNeg < cf 0 := by rw [tn_]; omega
      refine va_castS (cC := dC 2) hx hb hown (hts _ (vA_in _ _ (in_4 _ (zs16 (zs4 (zs4 (zs4 (zs1 (zs1 (zs0)))))))))) (hK.1 2 _ rfl).2 (va_recv hK hP (ci := 2) (q0 := posL (64 * (r6.toNatClampNeg + 1) + 0) (LC cf)) rfl (hI.ob (64 * (r6.toNatClampNeg + 1) + 0) (mP 0 r6.toNatClampNeg (by decide) lv20 (kl_le hC 0 (by decide))) (shC_p 0 r6.toNatClampNeg (by decide)))) dX0_numberOf_42 ?_
      refine lv_astore (lv' := [(6, .ref (ad (64 * (r6.toNatClampNeg + 1) + 0))), (5, .int r6), (4, .int r1), (0, .ref (ad 1)), (1, .int a0), (2, .int a1), (3, .int a2)]) hx hb dX0_numberOf_45 hl (by decide) rfl (fun ls hl => ?_)
      refine lv_aload_n hx hb dX0_numberOf_47 rfl (lv_at hl 3 rfl) ?_
      refine th_vL (va_runV (As := []) (rest := []) ⟨hx, hb, hml, hown, hts⟩ (q_forgetX l dC dI cT cf hC ad E H.size hI) (cwV 0 hts (gi_V (in_6 _ (zs16 (zs16 (zs4 (zs0))))) (in_6 _ (zs16 (zs16 (zs4 (zs1 (zs0)))))) (in_6 _ (zs16 (zs16 (zs4 (zs1 (zs1 (zs0))))))) (in_5 _ (zs4 (zs1 (zs1 (zs0))))) (in_5 _ (zs16 (zs4 (zs1 (zs1 (zs1 (zs0)))))))) rfl rfl rfl (by decide +kernel) ⟨Nat.le_of_ble_eq_true rfl, Nat.le_of_ble_eq_true rfl⟩) ⟨HWL_bl, va_recv hK hP (ci := 1) (q0 := posL 1 (LC cf)) rfl (hI.ob 1 (mF 1 rfl) rfl), (HWL_wi hP hK (WL_D hD) hS hA hEV)⟩ rfl rfl hl.1 rfl (lv_room (Nat.le_of_ble_eq_true rfl)) dX0_numberOf_48 ⟨Nat.le_of_ble_eq_true rfl, Nat.le_of_ble_eq_true rfl⟩) (WL_D hD) hS hA (fun E22 H locs hw hP hS => ?_)
      obtain ⟨hI, kq23, hw⟩ := hw
      have hKb := hKp
      have hKp := hKp.tr kq23 (wl_sub rfl rfl)
      have f24 := hw
      have z0 := ln_0
      have z1 := ln_1
      have z2 := ln_2
      refine lv_aload_n hx hb dX0_numberOf_51 rfl (lv_at hl 3 rfl) ?_
      refine th_getL (ci := 1) (C := RX0) (T := TX0) (N := 11) (v := .ref (ad 19)) hx hb hts hinX0 hown hK hP hI 1 (mF 1 rfl) rfl rfl 9 (Nat.le_of_ble_eq_true rfl) (hts _ (vA_in _ _ (in_5 _ (zs16 (zs4 (zs4 (zs0))))))) (fun _ h9 => h9) (hI.fr 1 (mF 1 rfl) rfl (Nat.le_of_ble_eq_true rfl) 19 rfl) dX0_numberOf_52 ?_
      refine lv_iconst (v := 0) hx hb dX0_numberOf_55 (by decide) ?_
      refine lv_aload hx hb dX0_numberOf_56 (lv_at hl 0 rfl) ?_
      have i25 : 0 ≤ (xi (E (64 * (r6.toNatClampNeg + 1) + 0)) 3).toInt ∧ (xi (E (64 * (r6.toNatClampNeg + 1) + 0)) 3).toInt ≤ 400 := hI0.iv (64 * (r6.toNatClampNeg + 1) + 0) (mP 0 r6.toNatClampNeg (by decide) lv20 (kl_le hC 0 (by decide))) (shC_p 0 r6.toNatClampNeg (by decide)) (Nat.le_of_ble_eq_true rfl) (spC_p 0 r6.toNatClampNeg (by decide) 3)
      refine th_getL (ci := 2) (C := RX1) (T := TX1) (N := 6) (v := .int (xi (E (64 * (r6.toNatClampNeg + 1) + 0)) 3)) hx hb hts hinX1 hown hK hP hI (64 * (r6.toNatClampNeg + 1) + 0) (mP 0 r6.toNatClampNeg (by decide) lv20 (kl_le hC 0 (by decide))) (shC_p 0 r6.toNatClampNeg (by decide)) rfl 3 (Nat.le_of_ble_eq_true rfl) (hts _ (vA_in _ _ (in_6 _ (zs16 (zs4 (zs1 (zs1 (zs1 (zs0))))))))) (fun _ h9 => h9) (th_v0L hKp hI0 (64 * (r6.toNatClampNeg + 1) + 0) (mP 0 r6.toNatClampNeg (by decide) lv20 (kl_le hC 0 (by decide))) (shC_p 0 r6.toNatClampNeg (by decide)) (Nat.le_of_ble_eq_true rfl) (spC_p 0 r6.toNatClampNeg (by decide) 3) (wl_p rfl rfl (by omega))) dX0_numberOf_58 ?_
      have n26 : vp_in (0 : Int32) 14 := (iv_in (n := 14) ln_0 (by decide))
      refine th_iastL hx hb hK hP (WL_D hD) hS hI 19 (mF 19 rfl) rfl rfl n26 (okI rfl (iv_w i25 (by decide))) dX0_numberOf_61 (fun H locs E27 pw28 hI hP hS => ?_)
      have hKp := hKp.pw pw28 rfl
      have k29 : cL E27 = lset lz 0 (xi (E (64 * (r6.toNatClampNeg + 1) + 0)) 3) := (cL_set (k := 0) pw28 rfl (by decide)).trans (by rw [f24])
      refine lv_aload_n hx hb dX0_numberOf_62 rfl (lv_at hl 3 rfl) ?_
      refine th_getL (ci := 1) (C := RX0) (T := TX0) (N := 11) (v := .ref (ad 19)) hx hb hts hinX0 hown hK hP hI 1 (mF 1 rfl) rfl rfl 9 (Nat.le_of_ble_eq_true rfl) (hts _ (vA_in _ _ (in_5 _ (zs16 (zs4 (zs4 (zs0))))))) (fun _ h9 => h9) (hI.fr 1 (mF 1 rfl) rfl (Nat.le_of_ble_eq_true rfl) 19 rfl) dX0_numberOf_63 ?_
      refine lv_iconst (v := 1) hx hb dX0_numberOf_66 (by decide) ?_
      refine lv_aload hx hb dX0_numberOf_67 (lv_at hl 0 rfl) ?_
      have i30 : 0 ≤ (xi (E (64 * (r6.toNatClampNeg + 1) + 0)) 4).toInt ∧ (xi (E (64 * (r6.toNatClampNeg + 1) + 0)) 4).toInt ≤ 4000 := hI0.iv (64 * (r6.toNatClampNeg + 1) + 0) (mP 0 r6.toNatClampNeg (by decide) lv20 (kl_le hC 0 (by decide))) (shC_p 0 r6.toNatClampNeg (by decide)) (Nat.le_of_ble_eq_true rfl) (spC_p 0 r6.toNatClampNeg (by decide) 4)
      refine th_getL (ci := 2) (C := RX1) (T := TX1) (N := 6) (v := .int (xi (E (64 * (r6.toNatClampNeg + 1) + 0)) 4)) hx hb hts hinX1 hown hK hP hI (64 * (r6.toNatClampNeg + 1) + 0) (mP 0 r6.toNatClampNeg (by decide) lv20 (kl_le hC 0 (by decide))) (shC_p 0 r6.toNatClampNeg (by decide)) rfl 4 (Nat.le_of_ble_eq_true rfl) (hts _ (vA_in _ _ (in_6 _ (zs16 (zs4 (zs4 (zs0))))))) (fun _ h9 => h9) (th_v0L hKp hI0 (64 * (r6.toNatClampNeg + 1) + 0) (mP 0 r6.toNatClampNeg (by decide) lv20 (kl_le hC 0 (by decide))) (shC_p 0 r6.toNatClampNeg (by decide)) (Nat.le_of_ble_eq_true rfl) (spC_p 0 r6.toNatClampNeg (by decide) 4) (wl_p rfl rfl (by omega))) dX0_numberOf_69 ?_
      have n31 : vp_in (1 : Int32) 14 := (iv_in (n := 14) ln_1 (by decide))
      refine th_iastL hx hb hK hP (WL_D hD) hS hI 19 (mF 19 rfl) rfl rfl n31 (okI rfl (iv_w i30 (by decide))) dX0_numberOf_72 (fun H locs E32 pw33 hI hP hS => ?_)
      have hKp := hKp.pw pw33 rfl
      have k34 : cL E32 = lset (lset lz 0 (xi (E (64 * (r6.toNatClampNeg + 1) + 0)) 3)) 1 (xi (E (64 * (r6.toNatClampNeg + 1) + 0)) 4) := (cL_set (k := 1) pw33 rfl (by decide)).trans (by rw [k29])
      refine lv_aload_n hx hb dX0_numberOf_73 rfl (lv_at hl 3 rfl) ?_
      refine th_getL (ci := 1) (C := RX0) (T := TX0) (N := 11) (v := .ref (ad 19)) hx hb hts hinX0 hown hK hP hI 1 (mF 1 rfl) rfl rfl 9 (Nat.le_of_ble_eq_true rfl) (hts _ (vA_in _ _ (in_5 _ (zs16 (zs4 (zs4 (zs0))))))) (fun _ h9 => h9) (hI.fr 1 (mF 1 rfl) rfl (Nat.le_of_ble_eq_true rfl) 19 rfl) dX0_numberOf_74 ?_
      refine lv_iconst (v := 2) hx hb dX0_numberOf_77 (by decide) ?_
      refine lv_aload hx hb dX0_numberOf_78 (lv_at hl 0 rfl) ?_
      have i35 : 0 ≤ (xi (E (64 * (r6.toNatClampNeg + 1) + 0)) 5).toInt ∧ (xi (E (64 * (r6.toNatClampNeg + 1) + 0)) 5).toInt ≤ 900 := hI0.iv (64 * (r6.toNatClampNeg + 1) + 0) (mP 0 r6.toNatClampNeg (by decide) lv20 (kl_le hC 0 (by decide))) (shC_p 0 r6.toNatClampNeg (by decide)) (Nat.le_of_ble_eq_true rfl) (spC_p 0 r6.toNatClampNeg (by decide) 5)
      refine th_getL (ci := 2) (C := RX1) (T := TX1) (N := 6) (v := .int (xi (E (64 * (r6.toNatClampNeg + 1) + 0)) 5)) hx hb hts hinX1 hown hK hP hI (64 * (r6.toNatClampNeg + 1) + 0) (mP 0 r6.toNatClampNeg (by decide) lv20 (kl_le hC 0 (by decide))) (shC_p 0 r6.toNatClampNeg (by decide)) rfl 5 (Nat.le_of_ble_eq_true rfl) (hts _ (vA_in _ _ (in_6 _ (zs16 (zs4 (zs4 (zs1 (zs0)))))))) (fun _ h9 => h9) (th_v0L hKp hI0 (64 * (r6.toNatClampNeg + 1) + 0) (mP 0 r6.toNatClampNeg (by decide) lv20 (kl_le hC 0 (by decide))) (shC_p 0 r6.toNatClampNeg (by decide)) (Nat.le_of_ble_eq_true rfl) (spC_p 0 r6.toNatClampNeg (by decide) 5) (wl_p rfl rfl (by omega))) dX0_numberOf_80 ?_
      have n36 : vp_in (2 : Int32) 14 := (iv_in (n := 14) ln_2 (by decide))
      refine th_iastL hx hb hK hP (WL_D hD) hS hI 19 (mF 19 rfl) rfl rfl n36 (okI rfl (iv_w i35 (by decide))) dX0_numberOf_83 (fun H locs E37 pw38 hI hP hS => ?_)
      have hKp := hKp.pw pw38 rfl
      have k39 : cL E37 = lset (lset (lset lz 0 (xi (E (64 * (r6.toNatClampNeg + 1) + 0)) 3)) 1 (xi (E (64 * (r6.toNatClampNeg + 1) + 0)) 4)) 2 (xi (E (64 * (r6.toNatClampNeg + 1) + 0)) 5) := (cL_set (k := 2) pw38 rfl (by decide)).trans (by rw [k34])
      refine lv_aload_n hx hb dX0_numberOf_84 rfl (lv_at hl 3 rfl) ?_
      refine th_getL (ci := 1) (C := RX0) (T := TX0) (N := 11) (v := .ref (ad 8)) hx hb hts hinX0 hown hK hP hI 1 (mF 1 rfl) rfl rfl 4 (Nat.le_of_ble_eq_true rfl) (hts _ (vA_in _ _ (in_5 _ (zs16 (zs4 (zs4 (zs4 (zs1 (zs1 (zs1 (zs0))))))))))) (fun _ h9 => h9) (hI.fr 1 (mF 1 rfl) rfl (Nat.le_of_ble_eq_true rfl) 8 rfl) dX0_numberOf_85 ?_
      refine lv_iload hx hb dX0_numberOf_88 (lv_at hl 2 rfl) ?_
      refine th_rrL (va_runV (As := [.int r1]) (rest := []) ⟨hx, hb, hml, hown, hts⟩ (q_get1 l dC dI cT cf hC ad E37 H.size r1 hI (by omega)) (cwV 1 hts (gi_V (in_4 _ (zs16 (zs16 (zs4 (zs1 (zs0)))))) (in_4 _ (zs16 (zs16 (zs4 (zs1 (zs1 (zs0))))))) (in_4 _ (zs16 (zs16 (zs4 (zs1 (zs1 (zs1 (zs0)))))))) (in_3 _ (zs16 (zs1 (zs1 (zs0))))) (in_3 _ (zs16 (zs16 (zs4 (zs1 (zs1 (zs1 (zs0))))))))) rfl rfl rfl (by decide +kernel) ⟨Nat.le_of_ble_eq_true rfl, Nat.le_of_ble_eq_true rfl⟩) ⟨HWL_bl, va_recv hK hP (ci := 0) (q0 := posL 8 (LC cf)) rfl (hI.ob 8 (mF 8 rfl) rfl), (HWL_wi hP hK (WL_D hD) hS hA hEV)⟩ rfl rfl hl.1 rfl (lv_room (Nat.le_of_ble_eq_true rfl)) dX0_numberOf_90 ⟨Nat.le_of_ble_eq_true rfl, Nat.le_of_ble_eq_true rfl⟩) hS hP (fun r40 H locs hw hP hS => ?_)
      obtain rfl := hw
      have lv41 : r1.toNatClampNeg < cf 1 := by rw [tn_]; omega
      refine va_castS (cC := dC 8) hx hb hown (hts _ (vA_in _ _ (in_6 _ (zs16 (zs4 (zs4 (zs1 (zs1 (zs0))))))))) (hK.1 8 _ rfl).2 (va_recv hK hP (ci := 8) (q0 := posL (64 * (r1.toNatClampNeg + 1) + 1) (LC cf)) rfl (hI.ob (64 * (r1.toNatClampNeg + 1) + 1) (mP 1 r1.toNatClampNeg (by decide) lv41 (kl_le hC 1 (by decide))) (shC_p 1 r1.toNatClampNeg (by decide)))) dX0_numberOf_93 ?_
      refine lv_bipush (v := 110) hx hb dX0_numberOf_96 (by decide) ?_
      refine lv_aload_n hx hb dX0_numberOf_98 rfl (lv_at hl 3 rfl) ?_
      refine th_getL (ci := 1) (C := RX0) (T := TX0) (N := 11) (v := .ref (ad 19)) hx hb hts hinX0 hown hK hP hI 1 (mF 1 rfl) rfl rfl 9 (Nat.le_of_ble_eq_true rfl) (hts _ (vA_in _ _ (in_5 _ (zs16 (zs4 (zs4 (zs0))))))) (fun _ h9 => h9) (hI.fr 1 (mF 1 rfl) rfl (Nat.le_of_ble_eq_true rfl) 19 rfl) dX0_numberOf_99 ?_
      refine lv_aload_n hx hb dX0_numberOf_102 rfl (lv_at hl 3 rfl) ?_
      refine th_getL (ci := 1) (C := RX0) (T := TX0) (N := 11) (v := .ref (ad 20)) hx hb hts hinX0 hown hK hP hI 1 (mF 1 rfl) rfl rfl 10 (Nat.le_of_ble_eq_true rfl) (hts _ (vA_in _ _ (in_5 _ (zs16 (zs16 (zs1 (zs1 (zs0)))))))) (fun _ h9 => h9) (hI.fr 1 (mF 1 rfl) rfl (Nat.le_of_ble_eq_true rfl) 20 rfl) dX0_numberOf_103 ?_
      have z110 := ln_110
      refine th_iL (va_runV (As := [.int 110, .ref (ad 19), .ref (ad 20)]) (rest := []) ⟨hx, hb, hml, hown, hts⟩ (q_worthOfX l dC dI cT cf hC ad E37 H.size (110 : Int32) r1.toNatClampNeg hI (by omega) (by exact (hh0 _ (by rw [tn_]; omega)).cg (kp_rul hKp (fun o9 ho9 j9 => wl_p rfl rfl ho9) _)) (by rw [k39]; exact ls_b (ls_b (ls_b lz_b ⟨by omega, by omega⟩) ⟨by omega, by omega⟩) ⟨by omega, by omega⟩) (iv_w ln_110 (by decide))) (cwV 3 hts (gi_V (in_6 _ (zs16 (zs16 (zs4 (zs1 (zs1 (zs1 (zs0)))))))) (in_7 _ zs0) (in_7 _ (zs1 (zs0))) (in_7 _ (zs1 (zs1 (zs0)))) (in_7 _ (zs1 (zs1 (zs1 (zs0)))))) rfl rfl rfl (by decide +kernel) ⟨Nat.le_of_ble_eq_true rfl, Nat.le_of_ble_eq_true rfl⟩) ⟨HWL_bl, va_recv hK hP (ci := 8) (q0 := posL (64 * (r1.toNatClampNeg + 1) + 1) (LC cf)) rfl (hI.ob (64 * (r1.toNatClampNeg + 1) + 1) (mP 1 r1.toNatClampNeg (by decide) lv41 (kl_le hC 1 (by decide))) (shC_p 1 r1.toNatClampNeg (by decide))), (HWL_wi hP hK (WL_D hD) hS hA hEV)⟩ rfl rfl hl.1 rfl (lv_room (Nat.le_of_ble_eq_true rfl)) dX0_numberOf_106 ⟨Nat.le_of_ble_eq_true rfl, Nat.le_of_ble_eq_true rfl⟩) (WL_D hD) hS hA (fun r42 E43 H locs hw hP hS => ?_)
      obtain ⟨hI, kq44, hw⟩ := hw
      have hKb := hKp
      have hKp := hKp.tr kq44 (wl_sub rfl rfl)
      have f45 := hw
      refine lv_sipush (v := 500) hx hb dX0_numberOf_109 (by decide) ?_
      refine lv_sipush (v := 2000) hx hb dX0_numberOf_112 (by decide) ?_
      have z500 := ln_500
      have z2000 := ln_2000
      refine th_pi (va_runSN (As := [.int r42, .int 500, .int 2000]) (rest := []) ⟨hx, hb, hml, hown, hts⟩ (q_cheldX l r42 (500 : Int32) (2000 : Int32) (by omega)) ⟨va_cnB 3 hts (gi_0 (in_7 _ (zs16 (zs4 (zs4 (zs1 (zs1 (zs0)))))))) rfl rfl rfl (hEV.1.1 _ (List.mem_of_getElem? (i := 2) rfl)) (hts _ (vA_in _ _ (in_4 _ (zs16 (zs4 (zs1 (zs1 (zs1 (zs0))))))))) (by decide +kernel) ⟨Nat.le_of_ble_eq_true rfl, Nat.le_of_ble_eq_true rfl⟩, (hts _ (vA_in _ _ (in_7 _ (zs16 (zs4 (zs4 (zs1 (zs0)))))))), trivial⟩ ⟨fun _ _ _ _ q => q, fun _ _ _ => ⟨rfl, trivial⟩⟩ rfl rfl hl.1 rfl (lv_room (Nat.le_of_ble_eq_true rfl)) dX0_numberOf_115 ⟨Nat.le_of_ble_eq_true rfl, Nat.le_of_ble_eq_true rfl⟩) hS (fun r46 H1 locs1 hw hk1 hS => ?_)
      have hP := ub_keep hP hk1
      generalize H1 = H at hP hS ⊢
      generalize locs1 = locs at hS ⊢
      have f47 := hw
      rw [hQ]
      exact W.iret (v := r46) hx hb hr (fun t ht hW => ⟨⟨r46, E43, rfl, ⟨hI, hKp, (by unfold numC; rw [← k5, ← k10]; exact nuA_1 (w := r42) (by omega) (by omega) (f45.trans (by rw [k39, clE_cg (kp_rul hKb (fun o9 ho9 j9 => wl_p rfl rfl ho9) _)]; rfl)) f47)⟩, by show va_P (dC, dI) vwCl (WL (LC cf) ad E43) t.heap; rw [ht]; exact hP⟩, hS.F ht⟩) hS.2.2 dX0_numberOf_118
    · --26 not
      have t48 : r6.toInt = -1 := ti_eq c16
      have i49 : -1 ≤ r6.toInt ∧ r6.toInt ≤ -1 := iv_eqi t48 f7 (il_ (-1)) (by decide)
      refine lv_sipush (v := 1000) hx hb dX0_numberOf_29 (by decide) ?_
      rw [hQ]
      exact W.iret (v := 1000) hx hb hr (fun t ht hW => ⟨⟨1000, E, rfl, ⟨hI, hKp, nuA_0 (Or.inr (by rw [← k10]; omega))⟩, by show va_P (dC, dI) vwCl (WL (LC cf) ad E) t.heap; rw [ht]; exact hP⟩, hS.F ht⟩) hS.2.2 dX0_numberOf_32
def v_u_numberX : List Cond := .code yX12_number cX12_number 4 (some .int) :: vA
abbrev rm_u_numberX : Room := { frames := 5, cells := 0, slots := 0, locals := 200 }
def w_u_numberX : Nat → Nat → Bool := wl [19, 20] []
set_option maxHeartbeats 4000000 in
set_option maxRecDepth 100000 in
theorem q_u_numberX (l : Launch) (dC : Nat → ClassId) (dI : Nat → Nat → Nat) (cT : Nat → ClassId) (cf : Nat → Nat) (hC : CF cf) (ad : Nat → Nat) (E : Nat → va_E) (sz : Nat) (a0 : Int32) (a1 : Int32) (a2 : Int32) (hI0 : IXL cT (shC cf) (spC cf) (LC cf) ad E) (hh0 : RulAll cf E) : Met l yX12_number v_u_numberX rm_u_numberX (va_Pc [.ref (ad 0), .int a0, .int a1, .int a2] (HWL dC dI (TYC cT) cf ad E sz)) (va_Qi (S := Nat → va_E) (fun r u => IXL cT (shC cf) (spC cf) (LC cf) ad u ∧ Kp w_u_numberX E u ∧ ((((((0 ≤ a0.toInt ∧ a0.toInt < (xi (E 1) 1).toInt) ∧ (0 ≤ a1.toInt ∧ a1.toInt ≤ 400) ∧ (0 ≤ a2.toInt ∧ a2.toInt ≤ (xi (E 1) 0).toInt)) → (r.toInt = numC cf E a0 a1 a2)) ∧ (¬ ((0 ≤ a0.toInt ∧ a0.toInt < (xi (E 1) 1).toInt) ∧ (0 ≤ a1.toInt ∧ a1.toInt ≤ 400) ∧ (0 ≤ a2.toInt ∧ a2.toInt ≤ (xi (E 1) 0).toInt)) → (r.toInt = -1)))))) (HBL dC dI (LC cf) ad) (va_A (WL (LC cf) ad E) sz)) 0 0 (va_A (WL (LC cf) ad E) sz) := by
  obtain ⟨⟨hc0, hc1, hc2, hc3, hc4, hc5⟩, hcr⟩ := id hC
  refine Met.ofW (cc := cX12_number) (maxL := 4) (ret := (some .int)) (by decide) rfl ?_
  intro p e s m args below meth c s₁ B hml hv
  obtain ⟨hargs, hsz, hP, hK, hD0, hEV⟩ := hv
  subst hsz
  have hx := B.exec
  have hb := B.bytes
  have hr := B.returns
  have hts := atoms_spec (ws := v_u_numberX) B.pre
  have hown : s.vm.findClass RX12 = some m.cls := findClass_of_methodNamed B.named
  have hlocks := B.notSynchronized
  have hinX12 : ∀ w ∈ u_ws RX12 TX12 6, w ∈ v_u_numberX := fun w h => vA_in _ w (in_X12 w h)
  generalize hAe : va_A (WL (LC cf) ad E) s.heap.size = A at hEV ⊢
  have hA : ∀ q : Nat, s.heap.size ≤ q → A q := fun q h => by rw [← hAe]; exact Or.inr h
  have hD : va_D A (WL (LC cf) ad E) := by rw [← hAe]; exact hD0.self
  have hS : va_S A s.heap s.heap [] := va_S.rf
  have hI := hI0
  have hKp : Kp w_u_numberX E E := Kp.rf
  have hl := lv_entry ([.ref (ad 0), .int a0, .int a1, .int a2]) (n := 4) (Nat.le_of_ble_eq_true rfl)
  obtain ⟨Q, hQ⟩ : ∃ Q, Q = MQ below (va_Qi (S := Nat → va_E) (fun r u => IXL cT (shC cf) (spC cf) (LC cf) ad u ∧ Kp w_u_numberX E u ∧ ((((((0 ≤ a0.toInt ∧ a0.toInt < (xi (E 1) 1).toInt) ∧ (0 ≤ a1.toInt ∧ a1.toInt ≤ 400) ∧ (0 ≤ a2.toInt ∧ a2.toInt ≤ (xi (E 1) 0).toInt)) → (r.toInt = numC cf E a0 a1 a2)) ∧ (¬ ((0 ≤ a0.toInt ∧ a0.toInt < (xi (E 1) 1).toInt) ∧ (0 ≤ a1.toInt ∧ a1.toInt ≤ 400) ∧ (0 ≤ a2.toInt ∧ a2.toInt ≤ (xi (E 1) 0).toInt)) → (r.toInt = -1)))))) (HBL dC dI (LC cf) ad) (A)) args s 0 0 (A) := ⟨_, rfl⟩
  rw [← hQ, show entryFrame m args 4 = _ from (congrArg (fun z => entryFrame m z 4) hargs).trans (lg_entry_eq _ _ _)]
  generalize (lg_sl ([.ref (ad 0), .int a0, .int a1, .int a2]) ++ List.replicate (4 - (lg_sl ([.ref (ad 0), .int a0, .int a1, .int a2])).length) Slot.unset).toArray = ls at hl ⊢
  have hl : lv_has ls 4 [(0, .ref (ad 0)), (1, .int a0), (2, .int a1), (3, .int a2)] := hl
  refine lv_aload_n hx hb dX12_number_0 rfl (lv_at hl 0 rfl) ?_
  refine th_getL (ci := 13) (C := RX12) (T := TX12) (N := 6) (v := .ref (ad 1)) hx hb hts hinX12 hown hK hP hI 0 (mF 0 rfl) rfl rfl 0 (Nat.le_of_ble_eq_true rfl) (hts _ (vA_in _ _ (in_10 _ (zs16 (zs1 (zs0)))))) (fun _ h9 => h9) (hI.fr 0 (mF 0 rfl) rfl (Nat.le_of_ble_eq_true rfl) 1 rfl) dX12_number_1 ?_
  refine lv_iload_n hx hb dX12_number_4 rfl (lv_at hl 1 rfl) ?_
  refine th_riL (va_runV (As := [.int a0]) (rest := []) ⟨hx, hb, hml, hown, hts⟩ (q_isBoatC l dC dI cT cf hC ad E s.heap.size a0 hI) (cwV 1 hts (gi_V (in_10 _ (zs16 (zs4 (zs4 (zs1 (zs1 (zs1 (zs0)))))))) (in_6 _ (zs4 (zs4 (zs4 (zs0))))) (in_6 _ (zs4 (zs4 (zs4 (zs1 (zs0)))))) (in_5 _ (zs4 (zs1 (zs1 (zs0))))) (in_5 _ (zs16 (zs16 (zs4 (zs1 (zs1 (zs0)))))))) rfl rfl rfl (by decide +kernel) ⟨Nat.le_of_ble_eq_true rfl, Nat.le_of_ble_eq_true rfl⟩) ⟨HWL_bl, va_recv hK hP (ci := 1) (q0 := posL 1 (LC cf)) rfl (hI.ob 1 (mF 1 rfl) rfl), (HWL_wi hP hK (WL_D hD) hS hA hEV)⟩ rfl rfl hl.1 rfl (lv_room (Nat.le_of_ble_eq_true rfl)) dX12_number_5 ⟨Nat.le_of_ble_eq_true rfl, Nat.le_of_ble_eq_true rfl⟩) hS hP (fun r1 H locs hw hP hS => ?_)
  rcases hw with hw | hw
  · -- isBoatC, case 0
    obtain ⟨rfl, f2, f3⟩ := hw
    have i4 : 0 ≤ (xi (E 1) 1).toInt ∧ (xi (E 1) 1).toInt ≤ 16 := hI0.iv 1 (mF 1 rfl) rfl (Nat.le_of_ble_eq_true rfl) rfl
    refine lv_if_eq (tgt := 29) hx hb dX12_number_8 (by decide) (fun c5 => ?_) (fun c5 => ?_)
    · --8 taken
      exact absurd c5 (by decide)
    · --8 not
      refine lv_iload_n hx hb dX12_number_11 rfl (lv_at hl 2 rfl) ?_
      refine th_pi (va_runS (As := [.int a1]) (rest := []) ⟨hx, hb, hml, hown, hts⟩ (q_cisDay l a1) (va_cwS 1 hts (gi_S (in_10 _ (zs16 (zs4 (zs4 (zs4 (zs0)))))) (in_10 _ (zs16 (zs4 (zs4 (zs4 (zs1 (zs0))))))) (in_4 _ (zs16 (zs4 (zs1 (zs1 (zs1 (zs0))))))) (in_10 _ (zs16 (zs4 (zs4 (zs4 (zs1 (zs1 (zs0))))))))) rfl rfl rfl (by decide +kernel) ⟨Nat.le_of_ble_eq_true rfl, Nat.le_of_ble_eq_true rfl⟩) ⟨fun _ _ _ _ q => q, fun _ _ _ => ⟨rfl, trivial⟩⟩ rfl rfl hl.1 rfl (lv_room (Nat.le_of_ble_eq_true rfl)) dX12_number_12 ⟨Nat.le_of_ble_eq_true rfl, Nat.le_of_ble_eq_true rfl⟩) hS (fun r6 H1 locs1 hw hk1 hS => ?_)
      have hP := ub_keep hP hk1
      generalize H1 = H at hP hS ⊢
      generalize locs1 = locs at hS ⊢
      rcases hw with hw | hw
      · -- cisDay, case 0
        obtain ⟨rfl, f7⟩ := hw
        have t8 : (0 : Int) ≤ a1.toInt := f7.1
        have t9 : a1.toInt ≤ 400 := f7.2
        have i10 : 0 ≤ a1.toInt ∧ a1.toInt ≤ 2147483647 := iv_le_r t8 (il_ 0) (iv_all _) (by decide)
        have i11 : 0 ≤ a1.toInt ∧ a1.toInt ≤ 400 := iv_le_l t9 i10 (il_ 400) (by decide)
        refine lv_if_eq (tgt := 29) hx hb dX12_number_15 (by decide) (fun c12 => ?_) (fun c12 => ?_)
        · --15 taken
          exact absurd c12 (by decide)
        · --15 not
          refine lv_aload_n hx hb dX12_number_18 rfl (lv_at hl 0 rfl) ?_
          refine th_getL (ci := 13) (C := RX12) (T := TX12) (N := 6) (v := .ref (ad 1)) hx hb hts hinX12 hown hK hP hI 0 (mF 0 rfl) rfl rfl 0 (Nat.le_of_ble_eq_true rfl) (hts _ (vA_in _ _ (in_10 _ (zs16 (zs1 (zs0)))))) (fun _ h9 => h9) (hI.fr 0 (mF 0 rfl) rfl (Nat.le_of_ble_eq_true rfl) 1 rfl) dX12_number_19 ?_
          refine lv_iload_n hx hb dX12_number_22 rfl (lv_at hl 3 rfl) ?_
          refine th_riL (va_runV (As := [.int a2]) (rest := []) ⟨hx, hb, hml, hown, hts⟩ (q_isKnownC l dC dI cT cf hC ad E H.size a2 hI) (cwV 1 hts (gi_V (in_18 _ (zs16 (zs4 (zs0)))) (in_6 _ (zs1 (zs1 (zs1 (zs0))))) (in_6 _ (zs4 (zs0))) (in_5 _ (zs4 (zs1 (zs1 (zs0))))) (in_6 _ (zs4 (zs1 (zs0))))) rfl rfl rfl (by decide +kernel) ⟨Nat.le_of_ble_eq_true rfl, Nat.le_of_ble_eq_true rfl⟩) ⟨HWL_bl, va_recv hK hP (ci := 1) (q0 := posL 1 (LC cf)) rfl (hI.ob 1 (mF 1 rfl) rfl), (HWL_wi hP hK (WL_D hD) hS hA hEV)⟩ rfl rfl hl.1 rfl (lv_room (Nat.le_of_ble_eq_true rfl)) dX12_number_23 ⟨Nat.le_of_ble_eq_true rfl, Nat.le_of_ble_eq_true rfl⟩) hS hP (fun r13 H locs hw hP hS => ?_)
          rcases hw with hw | hw
          · -- isKnownC, case 0
            obtain ⟨rfl, f14, f15⟩ := hw
            have i16 : 0 ≤ (xi (E 1) 0).toInt ∧ (xi (E 1) 0).toInt ≤ 400 := hI0.iv 1 (mF 1 rfl) rfl (Nat.le_of_ble_eq_true rfl) rfl
            refine lv_if_ne (tgt := 31) hx hb dX12_number_26 (by decide) (fun c17 => ?_) (fun c17 => ?_)
            · --26 taken
              refine lv_aload_n hx hb dX12_number_31 rfl (lv_at hl 0 rfl) ?_
              refine th_getL (ci := 13) (C := RX12) (T := TX12) (N := 6) (v := .ref (ad 1)) hx hb hts hinX12 hown hK hP hI 0 (mF 0 rfl) rfl rfl 0 (Nat.le_of_ble_eq_true rfl) (hts _ (vA_in _ _ (in_10 _ (zs16 (zs1 (zs0)))))) (fun _ h9 => h9) (hI.fr 0 (mF 0 rfl) rfl (Nat.le_of_ble_eq_true rfl) 1 rfl) dX12_number_32 ?_
              refine lv_iload_n hx hb dX12_number_35 rfl (lv_at hl 1 rfl) ?_
              refine lv_iload_n hx hb dX12_number_36 rfl (lv_at hl 2 rfl) ?_
              refine lv_iload_n hx hb dX12_number_37 rfl (lv_at hl 3 rfl) ?_
              refine th_iL (va_runV (As := [.int a0, .int a1, .int a2]) (rest := []) ⟨hx, hb, hml, hown, hts⟩ (q_numberOfX l dC dI cT cf hC ad E H.size a0 a1 a2 hI (by exact hh0)) (cwV 3 hts (gi_V (in_20 _ (zs1 (zs1 (zs0)))) (in_12 _ (zs16 (zs16 (zs1 (zs1 (zs1 (zs0))))))) (in_12 _ (zs16 (zs16 (zs4 (zs0))))) (in_5 _ (zs4 (zs1 (zs1 (zs0))))) (in_6 _ (zs16 (zs4 (zs1 (zs1 (zs0))))))) rfl rfl rfl (by decide +kernel) ⟨Nat.le_of_ble_eq_true rfl, Nat.le_of_ble_eq_true rfl⟩) ⟨HWL_bl, va_recv hK hP (ci := 1) (q0 := posL 1 (LC cf)) rfl (hI.ob 1 (mF 1 rfl) rfl), (HWL_wi hP hK (WL_D hD) hS hA hEV)⟩ rfl rfl hl.1 rfl (lv_room (Nat.le_of_ble_eq_true rfl)) dX12_number_38 ⟨Nat.le_of_ble_eq_true rfl, Nat.le_of_ble_eq_true rfl⟩) (WL_D hD) hS hA (fun r18 E19 H locs hw hP hS => ?_)
              obtain ⟨hI, kq20, hw⟩ := hw
              have hKb := hKp
              have hKp := hKp.tr kq20 (wl_sub rfl rfl)
              have f21 := hw
              rw [hQ]
              exact W.iret (v := r18) hx hb hr (fun t ht hW => ⟨⟨r18, E19, rfl, ⟨hI, hKp, (by all_goals omega)⟩, by show va_P (dC, dI) vwCl (WL (LC cf) ad E19) t.heap; rw [ht]; exact hP⟩, hS.F ht⟩) hS.2.2 dX12_number_41
            · --26 not
              exact absurd c17 (by decide)
          · -- isKnownC, case 1
            obtain ⟨rfl, f22⟩ := hw
            have i23 : 0 ≤ (xi (E 1) 0).toInt ∧ (xi (E 1) 0).toInt ≤ 400 := hI0.iv 1 (mF 1 rfl) rfl (Nat.le_of_ble_eq_true rfl) rfl
            refine lv_if_ne (tgt := 31) hx hb dX12_number_26 (by decide) (fun c24 => ?_) (fun c24 => ?_)
            · --26 taken
              exact absurd c24 (by decide)
            · --26 not
              refine lv_iconst (v := -1) hx hb dX12_number_29 (by decide) ?_
              rw [hQ]
              exact W.iret (v := (-1)) hx hb hr (fun t ht hW => ⟨⟨(-1), E, rfl, ⟨hI, hKp, (by have h8 := ln_m1; all_goals omega)⟩, by show va_P (dC, dI) vwCl (WL (LC cf) ad E) t.heap; rw [ht]; exact hP⟩, hS.F ht⟩) hS.2.2 dX12_number_30
      · -- cisDay, case 1
        obtain ⟨rfl, f25⟩ := hw
        have t26 : ¬ ((0 : Int) ≤ a1.toInt ∧ a1.toInt ≤ 400) := f25
        refine lv_if_eq (tgt := 29) hx hb dX12_number_15 (by decide) (fun c27 => ?_) (fun c27 => ?_)
        · --15 taken
          refine lv_iconst (v := -1) hx hb dX12_number_29 (by decide) ?_
          rw [hQ]
          exact W.iret (v := (-1)) hx hb hr (fun t ht hW => ⟨⟨(-1), E, rfl, ⟨hI, hKp, (by have h8 := ln_m1; all_goals omega)⟩, by show va_P (dC, dI) vwCl (WL (LC cf) ad E) t.heap; rw [ht]; exact hP⟩, hS.F ht⟩) hS.2.2 dX12_number_30
        · --15 not
          exact absurd c27 (by decide)
  · -- isBoatC, case 1
    obtain ⟨rfl, f28⟩ := hw
    have i29 : 0 ≤ (xi (E 1) 1).toInt ∧ (xi (E 1) 1).toInt ≤ 16 := hI0.iv 1 (mF 1 rfl) rfl (Nat.le_of_ble_eq_true rfl) rfl
    refine lv_if_eq (tgt := 29) hx hb dX12_number_8 (by decide) (fun c30 => ?_) (fun c30 => ?_)
    · --8 taken
      refine lv_iconst (v := -1) hx hb dX12_number_29 (by decide) ?_
      rw [hQ]
      exact W.iret (v := (-1)) hx hb hr (fun t ht hW => ⟨⟨(-1), E, rfl, ⟨hI, hKp, (by have h8 := ln_m1; all_goals omega)⟩, by show va_P (dC, dI) vwCl (WL (LC cf) ad E) t.heap; rw [ht]; exact hP⟩, hS.F ht⟩) hS.2.2 dX12_number_30
    · --8 not
      exact absurd c30 (by decide)
