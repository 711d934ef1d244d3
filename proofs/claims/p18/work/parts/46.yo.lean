set_option maxRecDepth 100000 in
theorem zh_dX13_number_0_0 : zc cX13_number 0 [42, 3, 181, 0, 228, 42, 27, 182, 0, 245, 153, 0, 28, 28, 184, 0] = true := by decide +kernel
set_option maxRecDepth 100000 in
theorem zh_dX13_number_14_16 : zc cX13_number 16 [249, 153, 0, 21, 42, 29, 182, 0, 252, 153, 0, 13, 42, 27, 28, 29] = true := by decide +kernel
set_option maxRecDepth 100000 in
theorem zh_dX13_number_32_32 : zc cX13_number 32 [182, 1, 131, 167, 0, 4, 2, 172] = true := by decide +kernel
theorem dX13_number_0 : decode cX13_number 0 = .ok (.aload_n 0, 1) := zo_42 (zi_at zh_dX13_number_0_0 0 rfl)
theorem dX13_number_1 : decode cX13_number 1 = .ok (.iconst 0, 1) := zo_3 (zi_at zh_dX13_number_0_0 1 rfl)
theorem dX13_number_2 : decode cX13_number 2 = .ok (.putfield 228, 3) := zo_181 (zi_at zh_dX13_number_0_0 2 rfl) (zi_at zh_dX13_number_0_0 3 rfl) (zi_at zh_dX13_number_0_0 4 rfl) rfl
theorem dX13_number_5 : decode cX13_number 5 = .ok (.aload_n 0, 1) := zo_42 (zi_at zh_dX13_number_0_0 5 rfl)
theorem dX13_number_6 : decode cX13_number 6 = .ok (.iload_n 1, 1) := zo_27 (zi_at zh_dX13_number_0_0 6 rfl)
theorem dX13_number_7 : decode cX13_number 7 = .ok (.invokevirtual 245, 3) := zo_182 (zi_at zh_dX13_number_0_0 7 rfl) (zi_at zh_dX13_number_0_0 8 rfl) (zi_at zh_dX13_number_0_0 9 rfl) rfl
theorem dX13_number_10 : decode cX13_number 10 = .ok (.ifCond .eq 28, 3) := zo_153 (zi_at zh_dX13_number_0_0 10 rfl) (zi_at zh_dX13_number_0_0 11 rfl) (zi_at zh_dX13_number_0_0 12 rfl) rfl
theorem dX13_number_13 : decode cX13_number 13 = .ok (.iload_n 2, 1) := zo_28 (zi_at zh_dX13_number_0_0 13 rfl)
theorem dX13_number_14 : decode cX13_number 14 = .ok (.invokestatic 249, 3) := zo_184 (zi_at zh_dX13_number_0_0 14 rfl) (zi_at zh_dX13_number_0_0 15 rfl) (zi_at zh_dX13_number_14_16 0 rfl) rfl
theorem dX13_number_17 : decode cX13_number 17 = .ok (.ifCond .eq 21, 3) := zo_153 (zi_at zh_dX13_number_14_16 1 rfl) (zi_at zh_dX13_number_14_16 2 rfl) (zi_at zh_dX13_number_14_16 3 rfl) rfl
theorem dX13_number_20 : decode cX13_number 20 = .ok (.aload_n 0, 1) := zo_42 (zi_at zh_dX13_number_14_16 4 rfl)
theorem dX13_number_21 : decode cX13_number 21 = .ok (.iload_n 3, 1) := zo_29 (zi_at zh_dX13_number_14_16 5 rfl)
theorem dX13_number_22 : decode cX13_number 22 = .ok (.invokevirtual 252, 3) := zo_182 (zi_at zh_dX13_number_14_16 6 rfl) (zi_at zh_dX13_number_14_16 7 rfl) (zi_at zh_dX13_number_14_16 8 rfl) rfl
theorem dX13_number_25 : decode cX13_number 25 = .ok (.ifCond .eq 13, 3) := zo_153 (zi_at zh_dX13_number_14_16 9 rfl) (zi_at zh_dX13_number_14_16 10 rfl) (zi_at zh_dX13_number_14_16 11 rfl) rfl
theorem dX13_number_28 : decode cX13_number 28 = .ok (.aload_n 0, 1) := zo_42 (zi_at zh_dX13_number_14_16 12 rfl)
theorem dX13_number_29 : decode cX13_number 29 = .ok (.iload_n 1, 1) := zo_27 (zi_at zh_dX13_number_14_16 13 rfl)
theorem dX13_number_30 : decode cX13_number 30 = .ok (.iload_n 2, 1) := zo_28 (zi_at zh_dX13_number_14_16 14 rfl)
theorem dX13_number_31 : decode cX13_number 31 = .ok (.iload_n 3, 1) := zo_29 (zi_at zh_dX13_number_14_16 15 rfl)
theorem dX13_number_32 : decode cX13_number 32 = .ok (.invokevirtual 387, 3) := zo_182 (zi_at zh_dX13_number_32_32 0 rfl) (zi_at zh_dX13_number_32_32 1 rfl) (zi_at zh_dX13_number_32_32 2 rfl) rfl
theorem dX13_number_35 : decode cX13_number 35 = .ok (.goto 4, 3) := zo_167 (zi_at zh_dX13_number_32_32 3 rfl) (zi_at zh_dX13_number_32_32 4 rfl) (zi_at zh_dX13_number_32_32 5 rfl) rfl
theorem dX13_number_38 : decode cX13_number 38 = .ok (.iconst (-1), 1) := zo_2 (zi_at zh_dX13_number_32_32 6 rfl)
theorem dX13_number_39 : decode cX13_number 39 = .ok (.ireturn, 1) := zo_172 (zi_at zh_dX13_number_32_32 7 rfl)

def v_clearX : List Cond := .code yX13_clear cX13_clear 2 none :: vA
abbrev rm_clearX : Room := { frames := 0, cells := 0, slots := 0, locals := 0 }
def w_clearX : Nat → Nat → Bool := wl [12] []
set_option maxHeartbeats 4000000 in
set_option maxRecDepth 100000 in
theorem q_clearX (l : Launch) (dC : Nat → ClassId) (dI : Nat → Nat → Nat) (cT : Nat → ClassId) (ad : Nat → Nat) (E : Nat → va_E) (sz : Nat)  (hI0 : IX cT shM spM 72 ad E)  : Met l yX13_clear v_clearX rm_clearX (va_Pc [.ref (ad 0)] (HW dC dI (TYM cT) 72 ad E sz)) (va_Qv (S := Nat → va_E) (fun u => IX cT shM spM 72 ad u ∧ Kp w_clearX E u ∧ ((mLt u = lz))) (HB dC dI 72 ad) (va_A (WX 72 ad E) sz)) 0 0 (va_A (WX 72 ad E) sz) := by
  refine Met.ofW (cc := cX13_clear) (maxL := 2) (ret := none) (by decide) rfl ?_
  intro p e s m args below meth c s₁ B hml hv
  obtain ⟨hargs, hsz, hP, hK, hD0, hEV⟩ := hv
  subst hsz
  have hx := B.exec
  have hb := B.bytes
  have hr := B.returns
  have hts := atoms_spec (ws := v_clearX) B.pre
  have hown : s.vm.findClass RX13 = some m.cls := findClass_of_methodNamed B.named
  have hlocks := B.notSynchronized
  have hinX13 : ∀ w ∈ u_ws RX13 TX13 97, w ∈ v_clearX := fun w h => vA_in _ w (in_X13 w h)
  generalize hAe : va_A (WX 72 ad E) s.heap.size = A at hEV ⊢
  have hA : ∀ q : Nat, s.heap.size ≤ q → A q := fun q h => by rw [← hAe]; exact Or.inr h
  have hD : va_D A (WX 72 ad E) := by rw [← hAe]; exact hD0.self
  have hS : va_S A s.heap s.heap [] := va_S.rf
  have hI := hI0
  have hKp : Kp w_clearX E E := Kp.rf
  have hl := lv_entry ([.ref (ad 0)]) (n := 2) (Nat.le_of_ble_eq_true rfl)
  obtain ⟨Q, hQ⟩ : ∃ Q, Q = MQ below (va_Qv (S := Nat → va_E) (fun u => IX cT shM spM 72 ad u ∧ Kp w_clearX E u ∧ ((mLt u = lz))) (HB dC dI 72 ad) (A)) args s 0 0 (A) := ⟨_, rfl⟩
  rw [← hQ, show entryFrame m args 2 = _ from (congrArg (fun z => entryFrame m z 2) hargs).trans (lg_entry_eq _ _ _)]
  generalize (lg_sl ([.ref (ad 0)]) ++ List.replicate (2 - (lg_sl ([.ref (ad 0)])).length) Slot.unset).toArray = ls at hl ⊢
  have hl : lv_has ls 2 [(0, .ref (ad 0))] := hl
  refine lv_iconst (v := 0) hx hb dX13_clear_0 (by decide) ?_
  refine lv_istore_n (lv' := [(1, .int 0), (0, .ref (ad 0))]) hx hb dX13_clear_1 rfl hl (by decide) rfl (fun ls hl => ?_)
  have hL2 : ∀ d : Nat, ∀ (v2_1 : Int32) (E2_ : Nat → va_E) (H : Heap) (locs : List Loc) (ls : Array Slot), 0 ≤ v2_1.toInt ∧ v2_1.toInt ≤ 128 → (∀ j9, j9 < v2_1.toNatClampNeg → xi (E2_ 12) j9 = 0) → 128 - v2_1.toInt < (d : Int) → IX cT shM spM 72 ad E2_ → Kp w_clearX E E2_ → va_P (dC, dI) vwCl (WX 72 ad E2_) H → va_S A s.heap H locs → lv_has ls 2 [(1, .int v2_1), (0, .ref (ad 0))] → W p l e (headSpec v_clearX rm_clearX).room s m args below meth c H locs 0 0 Q (F0 m 2 ls []) := by
    intro d
    induction d with
    | zero =>
      intro v2_1 E2_ H locs ls hv2_1 hx2_0 hx2_1 hI hKp hP hS hl
      exact absurd hx2_1 (by first | exact ms_zu hv2_1.2 | omega)
    | succ d ih2 =>
      intro v2_1 E2_ H locs ls hv2_1 hx2_0 hx2_1 hI hKp hP hS hl
      refine lv_iload_n hx hb dX13_clear_2 rfl (lv_at hl 0 rfl) ?_
      refine lv_sipush (v := 128) hx hb dX13_clear_3 (by decide) ?_
      refine lv_icmp_ge (tgt := 22) hx hb dX13_clear_6 (by decide) (fun c1 => ?_) (fun c1 => ?_)
      · --6 taken
        have t2 : (128 : Int) ≤ v2_1.toInt := ti_le c1
        have i3 : 128 ≤ v2_1.toInt ∧ v2_1.toInt ≤ 128 := iv_le_r t2 (il_ 128) hv2_1 (by decide)
        rw [hQ]
        exact W.vret hx hb hr (fun t ht hW => ⟨⟨E2_, rfl, ⟨hI, hKp, mL_0 (fun j9 hj9 => hx2_0 j9 (by rw [tn_]; omega))⟩, by show va_P (dC, dI) vwCl (WX 72 ad E2_) t.heap; rw [ht]; exact hP⟩, hS.F ht⟩) hS.2.2 dX13_clear_22
      · --6 not
        have t4 : v2_1.toInt < 128 := ti_nle c1
        have i5 : 0 ≤ v2_1.toInt ∧ v2_1.toInt ≤ 127 := iv_lt_l t4 hv2_1 (il_ 128) (by decide)
        refine lv_aload_n hx hb dX13_clear_9 rfl (lv_at hl 1 rfl) ?_
        refine th_get (ci := 14) (C := RX13) (T := TX13) (N := 97) (v := .ref (ad 12)) hx hb hts hinX13 hown hK hP hI 0 (Nat.le_of_ble_eq_true rfl) rfl rfl 15 (Nat.le_of_ble_eq_true rfl) (hts _ (vA_in _ _ (in_25 _ (zs16 (zs16 (zs4 (zs1 (zs0)))))))) (fun _ h9 => h9) (hI.fr 0 (Nat.le_of_ble_eq_true rfl) rfl (Nat.le_of_ble_eq_true rfl) 12 rfl) dX13_clear_10 ?_
        refine lv_iload_n hx hb dX13_clear_13 rfl (lv_at hl 0 rfl) ?_
        refine lv_iconst (v := 0) hx hb dX13_clear_14 (by decide) ?_
        have n6 : vp_in v2_1 128 := (iv_in (n := 128) i5 (by decide))
        refine th_iast hx hb hK hP (WX_D hD) hS hI 12 (Nat.le_of_ble_eq_true rfl) rfl rfl n6 (okI rfl (iv_w ln_0 (by decide))) dX13_clear_15 (fun H locs E7 pw8 hI hP hS => ?_)
        have hKp := hKp.pw pw8 rfl
        obtain ⟨y9, ey9⟩ : ∃ y : Int32, y = v2_1 + (1 : Int32) := ⟨_, rfl⟩
        obtain ⟨ty9, iy9⟩ := ti_add (e := 1) (f := 128) i5 ln_1 ey9 (by decide)
        have ty9 : y9.toInt = v2_1.toInt + 1 := ty9
        have iy9 : 1 ≤ y9.toInt ∧ y9.toInt ≤ 128 := iy9
        refine lv_iinc (v := y9) (lv' := [(1, .int y9), (0, .ref (ad 0))]) hx hb dX13_clear_16 hl (k := 0) rfl (by rw [ey9]; rfl) (by decide) rfl (fun ls hl => ?_)
        refine lv_goto (tgt := 2) hx hb dX13_clear_19 (by decide) ?_
        exact ih2 y9 E7 _ _ _ (iv_w iy9 (by decide)) (fl_s hx2_0 pw8 ty9 (by omega)) (by first | exact ms_su hx2_1 ty9 (by decide) | omega) hI hKp hP hS (lv_sub hl [0, 1] rfl)
  exact hL2 (129) (0 : Int32) E _ _ _ (iv_w ln_0 (by decide)) (fun j9 hj9 => absurd hj9 (by rw [tn_]; exact Nat.not_lt_zero _)) (by have h9 := ln_0; first | exact ms_bu h9.1 (by decide) | omega) hI hKp hP hS (lv_sub hl [0, 1] rfl)
def v_worthM : List Cond := .code yX13_worth cX13_worth 5 (some .int) :: vA
abbrev rm_worthM : Room := { frames := 70, cells := 0, slots := 0, locals := 2800 }
def w_worthM : Nat → Nat → Bool := wl [] [(0, 18), (0, 19), (0, 20), (0, 21), (0, 22), (0, 23), (0, 24), (0, 25), (0, 26)]
set_option maxHeartbeats 4000000 in
set_option maxRecDepth 100000 in
theorem q_worthM (l : Launch) (dC : Nat → ClassId) (dI : Nat → Nat → Nat) (cT : Nat → ClassId) (ad : Nat → Nat) (E : Nat → va_E) (sz : Nat) (a0 : Int32) (a1 : Int32) (a2 : Int32) (hI0 : IX cT shM spM 72 ad E) (hh0 : 0 ≤ a0.toInt ∧ a0.toInt ≤ 127) (hh1 : TXM E) : Met l yX13_worth v_worthM rm_worthM (va_Pc [.ref (ad 0), .int a0, .int a1, .int a2] (HW dC dI (TYM cT) 72 ad E sz)) (va_Qi (S := Nat → va_E) (fun r u => IX cT shM spM 72 ad u ∧ Kp w_worthM E u ∧ ((r = wML (mLt E) E a0.toInt (lawM E a1 a2)))) (HB dC dI 72 ad) (va_A (WX 72 ad E) sz)) 0 0 (va_A (WX 72 ad E) sz) := by
  refine Met.ofW (cc := cX13_worth) (maxL := 5) (ret := (some .int)) (by decide) rfl ?_
  intro p e s m args below meth c s₁ B hml hv
  obtain ⟨hargs, hsz, hP, hK, hD0, hEV⟩ := hv
  subst hsz
  have hx := B.exec
  have hb := B.bytes
  have hr := B.returns
  have hts := atoms_spec (ws := v_worthM) B.pre
  have hown : s.vm.findClass RX13 = some m.cls := findClass_of_methodNamed B.named
  have hlocks := B.notSynchronized
  have hinX13 : ∀ w ∈ u_ws RX13 TX13 97, w ∈ v_worthM := fun w h => vA_in _ w (in_X13 w h)
  generalize hAe : va_A (WX 72 ad E) s.heap.size = A at hEV ⊢
  have hA : ∀ q : Nat, s.heap.size ≤ q → A q := fun q h => by rw [← hAe]; exact Or.inr h
  have hD : va_D A (WX 72 ad E) := by rw [← hAe]; exact hD0.self
  have hS : va_S A s.heap s.heap [] := va_S.rf
  have hI := hI0
  have hKp : Kp w_worthM E E := Kp.rf
  have hl := lv_entry ([.ref (ad 0), .int a0, .int a1, .int a2]) (n := 5) (Nat.le_of_ble_eq_true rfl)
  obtain ⟨Q, hQ⟩ : ∃ Q, Q = MQ below (va_Qi (S := Nat → va_E) (fun r u => IX cT shM spM 72 ad u ∧ Kp w_worthM E u ∧ ((r = wML (mLt E) E a0.toInt (lawM E a1 a2)))) (HB dC dI 72 ad) (A)) args s 0 0 (A) := ⟨_, rfl⟩
  rw [← hQ, show entryFrame m args 5 = _ from (congrArg (fun z => entryFrame m z 5) hargs).trans (lg_entry_eq _ _ _)]
  generalize (lg_sl ([.ref (ad 0), .int a0, .int a1, .int a2]) ++ List.replicate (5 - (lg_sl ([.ref (ad 0), .int a0, .int a1, .int a2])).length) Slot.unset).toArray = ls at hl ⊢
  have hl : lv_has ls 5 [(0, .ref (ad 0)), (1, .int a0), (2, .int a1), (3, .int a2)] := hl
  refine lv_aload_n hx hb dX13_worth_0 rfl (lv_at hl 0 rfl) ?_
  refine lv_iload_n hx hb dX13_worth_1 rfl (lv_at hl 2 rfl) ?_
  refine lv_iload_n hx hb dX13_worth_2 rfl (lv_at hl 3 rfl) ?_
  refine th_ri (va_runV (As := [.int a1, .int a2]) (rest := []) ⟨hx, hb, hml, hown, hts⟩ (q_rulesOnMX l dC dI cT ad E s.heap.size a1 a2 hI) (cwV 2 hts (gi_V (in_29 _ (zs1 (zs0))) (in_29 _ (zs1 (zs1 (zs0)))) (in_29 _ (zs1 (zs1 (zs1 (zs0))))) (in_24 _ (zs4 (zs4 (zs4 (zs1 (zs1 (zs1 (zs0)))))))) (in_29 _ (zs4 (zs0)))) rfl rfl rfl (by decide +kernel) ⟨Nat.le_of_ble_eq_true rfl, Nat.le_of_ble_eq_true rfl⟩) ⟨HW_bl, va_recv hK hP (ci := 14) (q0 := 0) rfl (hI.ob 0 (Nat.le_of_ble_eq_true rfl) rfl), (HW_wi hP hK (WX_D hD) hS hA hEV)⟩ rfl rfl hl.1 rfl (lv_room (Nat.le_of_ble_eq_true rfl)) dX13_worth_3 ⟨Nat.le_of_ble_eq_true rfl, Nat.le_of_ble_eq_true rfl⟩) hS hP (fun r1 H locs hw hP hS => ?_)
  obtain ⟨f2, f3⟩ := hw
  have i4 : 0 ≤ (xi (E 0) 17).toInt ∧ (xi (E 0) 17).toInt ≤ 16 := (show 0 ≤ (xi (E 0) 17).toInt ∧ (xi (E 0) 17).toInt ≤ 16 from hI0.iv 0 (Nat.le_of_ble_eq_true rfl) rfl (Nat.le_of_ble_eq_true rfl) rfl)
  have k5 : r1 = lawM E a1 a2 := f3
  have hru : 0 ≤ (xi (E 0) 17).toInt ∧ (xi (E 0) 17).toInt ≤ 16 := hI0.iv 0 (Nat.le_of_ble_eq_true rfl) rfl (Nat.le_of_ble_eq_true rfl) rfl
  have hci := cO_in (gB := fun _ => 0) (gF := xi (E 10)) (gT := xi (E 11)) (boat := 0) (day := a1) (q := a2) (xi (E 0) 17).toNatClampNeg (by rw [tn_]; omega)
  rw [show cO (fun _ => 0) (xi (E 10)) (xi (E 11)) 0 a1 a2 (xi (E 0) 17).toNatClampNeg = r1 from k5.symm, tn_] at hci
  refine lv_istore (lv' := [(4, .int r1), (0, .ref (ad 0)), (1, .int a0), (2, .int a1), (3, .int a2)]) hx hb dX13_worth_6 hl (by decide) rfl (fun ls hl => ?_)
  refine lv_iload hx hb dX13_worth_8 (lv_at hl 0 rfl) ?_
  refine lv_iconst (v := -1) hx hb dX13_worth_10 (by decide) ?_
  refine lv_icmp_ne (tgt := 28) hx hb dX13_worth_11 (by decide) (fun c6 => ?_) (fun c6 => ?_)
  · --11 taken
    have t7 : ¬ r1.toInt = -1 := ti_ne c6
    have i8 : 0 ≤ r1.toInt ∧ r1.toInt ≤ 15 := iv_ne_l t7 f2 (il_ (-1))
    refine lv_aload_n hx hb dX13_worth_28 rfl (lv_at hl 1 rfl) ?_
    refine lv_aload_n hx hb dX13_worth_29 rfl (lv_at hl 1 rfl) ?_
    refine th_get (ci := 14) (C := RX13) (T := TX13) (N := 97) (v := .ref (ad 8)) hx hb hts hinX13 hown hK hP hI 0 (Nat.le_of_ble_eq_true rfl) rfl rfl 11 (Nat.le_of_ble_eq_true rfl) (hts _ (vA_in _ _ (in_28 _ (zs16 (zs16 (zs4 (zs1 (zs1 (zs0))))))))) (fun _ h9 => h9) (hI.fr 0 (Nat.le_of_ble_eq_true rfl) rfl (Nat.le_of_ble_eq_true rfl) 8 rfl) dX13_worth_30 ?_
    refine lv_sipush (v := 200) hx hb dX13_worth_33 (by decide) ?_
    refine lv_iload hx hb dX13_worth_36 (lv_at hl 0 rfl) ?_
    refine lv_imul hx hb dX13_worth_38 ?_
    refine lv_topi (fun y9 ey9 => ?_)
    obtain ⟨ty9, iy9⟩ := ti_mul (e := 0) (f := 3000) ln_200 i8 ey9 (by decide)
    have ty9 : y9.toInt = 200 * r1.toInt := ty9
    have iy9 : 0 ≤ y9.toInt ∧ y9.toInt ≤ 3000 := iy9
    refine lv_aload_n hx hb dX13_worth_39 rfl (lv_at hl 1 rfl) ?_
    refine th_get (ci := 14) (C := RX13) (T := TX13) (N := 97) (v := .ref (ad 9)) hx hb hts hinX13 hown hK hP hI 0 (Nat.le_of_ble_eq_true rfl) rfl rfl 12 (Nat.le_of_ble_eq_true rfl) (hts _ (vA_in _ _ (in_28 _ (zs16 (zs16 (zs4 (zs1 (zs1 (zs1 (zs0)))))))))) (fun _ h9 => h9) (hI.fr 0 (Nat.le_of_ble_eq_true rfl) rfl (Nat.le_of_ble_eq_true rfl) 9 rfl) dX13_worth_40 ?_
    refine lv_iload hx hb dX13_worth_43 (lv_at hl 0 rfl) ?_
    have n11 : vp_in r1 16 := (iv_in (n := 16) i8 (by decide))
    refine th_iald hx hb hK hP hI 9 (Nat.le_of_ble_eq_true rfl) rfl rfl n11 dX13_worth_45 (fun y10 ey10 => ?_)
    have iy10 : 0 ≤ y10.toInt ∧ y10.toInt ≤ 200 := hI.el 9 (Nat.le_of_ble_eq_true rfl) rfl n11 (fun _ => rfl) ey10
    have ey10 := ey10.trans (hKp.ei 9 _ rfl)
    refine lv_iload_n hx hb dX13_worth_46 rfl (lv_at hl 2 rfl) ?_
    refine th_v (va_runV (As := [.ref (ad 8), .int y9, .int y10, .int a0]) (rest := []) ⟨hx, hb, hml, hown, hts⟩ (q_goThroughRW l dC dI cT ad E H.size y9 y10 a0 hI iy9 iy10 hh0) (cwV 4 hts (gi_V (in_29 _ (zs4 (zs4 (zs0)))) (in_29 _ (zs4 (zs4 (zs1 (zs0))))) (in_29 _ (zs4 (zs4 (zs1 (zs1 (zs0)))))) (in_24 _ (zs4 (zs4 (zs4 (zs1 (zs1 (zs1 (zs0)))))))) (in_29 _ (zs4 (zs4 (zs1 (zs1 (zs1 (zs0)))))))) rfl rfl rfl (by decide +kernel) ⟨Nat.le_of_ble_eq_true rfl, Nat.le_of_ble_eq_true rfl⟩) ⟨HW_bl, va_recv hK hP (ci := 14) (q0 := 0) rfl (hI.ob 0 (Nat.le_of_ble_eq_true rfl) rfl), (HW_wi hP hK (WX_D hD) hS hA hEV)⟩ rfl rfl hl.1 rfl (lv_room (Nat.le_of_ble_eq_true rfl)) dX13_worth_47 ⟨Nat.le_of_ble_eq_true rfl, Nat.le_of_ble_eq_true rfl⟩) (WX_D hD) hS hA (fun E13 H locs hw hP hS => ?_)
    obtain ⟨hI, kq14, hw⟩ := hw
    have hKb := hKp
    have hKp := hKp.tr kq14 (wl_sub rfl rfl)
    obtain ⟨y15, ey15⟩ : ∃ y, xi (E13 0) 22 = y := ⟨_, rfl⟩
    have fy15 : xv (E13 0) 22 = .int y15 := (hI.fi 0 (Nat.le_of_ble_eq_true rfl) rfl (Nat.le_of_ble_eq_true rfl) rfl).trans (congrArg Value.int ey15)
    have iy15 : -1 ≤ y15.toInt ∧ y15.toInt ≤ 201 := by rw [← ey15]; exact hI.iv 0 (Nat.le_of_ble_eq_true rfl) rfl (Nat.le_of_ble_eq_true rfl) rfl
    obtain ⟨f16, f17⟩ := hw
    refine lv_aload_n hx hb dX13_worth_50 rfl (lv_at hl 1 rfl) ?_
    obtain ⟨y18, ey18⟩ : ∃ y, xi (E13 0) 25 = y := ⟨_, rfl⟩
    have fy18 : xv (E13 0) 25 = .int y18 := (hI.fi 0 (Nat.le_of_ble_eq_true rfl) rfl (Nat.le_of_ble_eq_true rfl) rfl).trans (congrArg Value.int ey18)
    refine th_get (ci := 14) (C := RX13) (T := TX13) (N := 97) (v := .int y18) hx hb hts hinX13 hown hK hP hI 0 (Nat.le_of_ble_eq_true rfl) rfl rfl 25 (Nat.le_of_ble_eq_true rfl) (hts _ (vA_in _ _ (in_29 _ zs0))) (fun _ h9 => h9) fy18 dX13_worth_51 ?_
    rw [hQ]
    exact W.iret (v := y18) hx hb hr (fun t ht hW => ⟨⟨y18, E13, rfl, ⟨hI, hKp, (by rw [← k5]; refine wML_1 (by omega) hh1 (by omega) (fun a9 C9 h9 => ?_); have h8 := f17 a9 C9 (by unfold mTx at h9; rw [mB_n (n := 200 * r1.toNatClampNeg) (by rw [tn_, tn_]; omega), show y10.toNatClampNeg = (xi (E 9) r1.toNatClampNeg).toNatClampNeg by rw [ey10]]; exact h9); exact ((show y18 = xi (E13 0) 25 from (vi_e fy18).symm)).trans h8)⟩, by show va_P (dC, dI) vwCl (WX 72 ad E13) t.heap; rw [ht]; exact hP⟩, hS.F ht⟩) hS.2.2 dX13_worth_54
  · --11 not
    have t19 : r1.toInt = -1 := ti_eq c6
    have i20 : -1 ≤ r1.toInt ∧ r1.toInt ≤ -1 := iv_eqi t19 f2 (il_ (-1)) (by decide)
    refine lv_iload_n hx hb dX13_worth_14 rfl (lv_at hl 2 rfl) ?_
    refine lv_bipush (v := 110) hx hb dX13_worth_15 (by decide) ?_
    refine lv_icmp_ne (tgt := 26) hx hb dX13_worth_17 (by decide) (fun c21 => ?_) (fun c21 => ?_)
    · --17 taken
      have t22 : ¬ a0.toInt = 110 := ti_ne c21
      refine lv_iconst (v := 0) hx hb dX13_worth_26 (by decide) ?_
      rw [hQ]
      exact W.iret (v := 0) hx hb hr (fun t ht hW => ⟨⟨0, E, rfl, ⟨hI, hKp, (by rw [← k5]; exact wML_0 (by omega) ((if_neg (by omega)).symm))⟩, by show va_P (dC, dI) vwCl (WX 72 ad E) t.heap; rw [ht]; exact hP⟩, hS.F ht⟩) hS.2.2 dX13_worth_27
    · --17 not
      have t23 : a0.toInt = 110 := ti_eq c21
      have i24 : 110 ≤ a0.toInt ∧ a0.toInt ≤ 110 := iv_eqi t23 hh0 (il_ 110) (by decide)
      refine lv_sipush (v := 1000) hx hb dX13_worth_20 (by decide) ?_
      refine lv_goto (tgt := 27) hx hb dX13_worth_23 (by decide) ?_
      rw [hQ]
      exact W.iret (v := 1000) hx hb hr (fun t ht hW => ⟨⟨1000, E, rfl, ⟨hI, hKp, (by rw [← k5]; exact wML_0 (by omega) ((if_pos (by omega)).symm))⟩, by show va_P (dC, dI) vwCl (WX 72 ad E) t.heap; rw [ht]; exact hP⟩, hS.F ht⟩) hS.2.2 dX13_worth_27
def v_numberOfM : List Cond := .code yX13_numberOf cX13_numberOf 5 (some .int) :: vA
abbrev rm_numberOfM : Room := { frames := 71, cells := 0, slots := 0, locals := 2840 }
def w_numberOfM : Nat → Nat → Bool := wl [12] [(0, 18), (0, 19), (0, 20), (0, 21), (0, 22), (0, 23), (0, 24), (0, 25), (0, 26)]
set_option maxHeartbeats 4000000 in
set_option maxRecDepth 100000 in
theorem q_numberOfM (l : Launch) (dC : Nat → ClassId) (dI : Nat → Nat → Nat) (cT : Nat → ClassId) (ad : Nat → Nat) (E : Nat → va_E) (sz : Nat) (a0 : Int32) (a1 : Int32) (a2 : Int32) (hI0 : IX cT shM spM 72 ad E) (hh0 : TXM E) : Met l yX13_numberOf v_numberOfM rm_numberOfM (va_Pc [.ref (ad 0), .int a0, .int a1, .int a2] (HW dC dI (TYM cT) 72 ad E sz)) (va_Qi (S := Nat → va_E) (fun r u => IX cT shM spM 72 ad u ∧ Kp w_numberOfM E u ∧ ((r.toInt = numM E a0 a1 a2))) (HB dC dI 72 ad) (va_A (WX 72 ad E) sz)) 0 0 (va_A (WX 72 ad E) sz) := by
  refine Met.ofW (cc := cX13_numberOf) (maxL := 5) (ret := (some .int)) (by decide) rfl ?_
  intro p e s m args below meth c s₁ B hml hv
  obtain ⟨hargs, hsz, hP, hK, hD0, hEV⟩ := hv
  subst hsz
  have hx := B.exec
  have hb := B.bytes
  have hr := B.returns
  have hts := atoms_spec (ws := v_numberOfM) B.pre
  have hown : s.vm.findClass RX13 = some m.cls := findClass_of_methodNamed B.named
  have hlocks := B.notSynchronized
  have hinX13 : ∀ w ∈ u_ws RX13 TX13 97, w ∈ v_numberOfM := fun w h => vA_in _ w (in_X13 w h)
  generalize hAe : va_A (WX 72 ad E) s.heap.size = A at hEV ⊢
  have hA : ∀ q : Nat, s.heap.size ≤ q → A q := fun q h => by rw [← hAe]; exact Or.inr h
  have hD : va_D A (WX 72 ad E) := by rw [← hAe]; exact hD0.self
  have hS : va_S A s.heap s.heap [] := va_S.rf
  have hI := hI0
  have hKp : Kp w_numberOfM E E := Kp.rf
  have hl := lv_entry ([.ref (ad 0), .int a0, .int a1, .int a2]) (n := 5) (Nat.le_of_ble_eq_true rfl)
  obtain ⟨Q, hQ⟩ : ∃ Q, Q = MQ below (va_Qi (S := Nat → va_E) (fun r u => IX cT shM spM 72 ad u ∧ Kp w_numberOfM E u ∧ ((r.toInt = numM E a0 a1 a2))) (HB dC dI 72 ad) (A)) args s 0 0 (A) := ⟨_, rfl⟩
  rw [← hQ, show entryFrame m args 5 = _ from (congrArg (fun z => entryFrame m z 5) hargs).trans (lg_entry_eq _ _ _)]
  generalize (lg_sl ([.ref (ad 0), .int a0, .int a1, .int a2]) ++ List.replicate (5 - (lg_sl ([.ref (ad 0), .int a0, .int a1, .int a2])).length) Slot.unset).toArray = ls at hl ⊢
  have hl : lv_has ls 5 [(0, .ref (ad 0)), (1, .int a0), (2, .int a1), (3, .int a2)] := hl
  refine lv_aload_n hx hb dX13_numberOf_0 rfl (lv_at hl 0 rfl) ?_
  refine lv_iload_n hx hb dX13_numberOf_1 rfl (lv_at hl 1 rfl) ?_
  refine lv_iload_n hx hb dX13_numberOf_2 rfl (lv_at hl 2 rfl) ?_
  refine lv_iload_n hx hb dX13_numberOf_3 rfl (lv_at hl 3 rfl) ?_
  refine th_ri (va_runV (As := [.int a0, .int a1, .int a2]) (rest := []) ⟨hx, hb, hml, hown, hts⟩ (q_certOn l dC dI cT ad E s.heap.size a0 a1 a2 hI) (cwV 3 hts (gi_V (in_28 _ (zs16 (zs4 (zs4 (zs1 (zs1 (zs1 (zs0)))))))) (in_28 _ (zs16 (zs4 (zs4 (zs4 (zs0)))))) (in_28 _ (zs16 (zs4 (zs4 (zs4 (zs1 (zs0))))))) (in_24 _ (zs4 (zs4 (zs4 (zs1 (zs1 (zs1 (zs0)))))))) (in_27 _ (zs4 (zs4 (zs0))))) rfl rfl rfl (by decide +kernel) ⟨Nat.le_of_ble_eq_true rfl, Nat.le_of_ble_eq_true rfl⟩) ⟨HW_bl, va_recv hK hP (ci := 14) (q0 := 0) rfl (hI.ob 0 (Nat.le_of_ble_eq_true rfl) rfl), (HW_wi hP hK (WX_D hD) hS hA hEV)⟩ rfl rfl hl.1 rfl (lv_room (Nat.le_of_ble_eq_true rfl)) dX13_numberOf_4 ⟨Nat.le_of_ble_eq_true rfl, Nat.le_of_ble_eq_true rfl⟩) hS hP (fun r1 H locs hw hP hS => ?_)
  obtain ⟨f2, f3⟩ := hw
  have i4 : 0 ≤ (xi (E 0) 9).toInt ∧ (xi (E 0) 9).toInt ≤ 80 := (show 0 ≤ (xi (E 0) 9).toInt ∧ (xi (E 0) 9).toInt ≤ 80 from hI0.iv 0 (Nat.le_of_ble_eq_true rfl) rfl (Nat.le_of_ble_eq_true rfl) rfl)
  have k5 : r1 = papM E a0 a1 a2 := f3
  refine lv_istore (lv' := [(4, .int r1), (0, .ref (ad 0)), (1, .int a0), (2, .int a1), (3, .int a2)]) hx hb dX13_numberOf_7 hl (by decide) rfl (fun ls hl => ?_)
  refine lv_iload hx hb dX13_numberOf_9 (lv_at hl 0 rfl) ?_
  refine lv_iconst (v := -1) hx hb dX13_numberOf_11 (by decide) ?_
  refine lv_icmp_ne (tgt := 19) hx hb dX13_numberOf_12 (by decide) (fun c6 => ?_) (fun c6 => ?_)
  · --12 taken
    have t7 : ¬ r1.toInt = -1 := ti_ne c6
    have i8 : 0 ≤ r1.toInt ∧ r1.toInt ≤ 79 := iv_ne_l t7 f2 (il_ (-1))
    refine lv_aload_n hx hb dX13_numberOf_19 rfl (lv_at hl 1 rfl) ?_
    refine th_v (va_runV (As := []) (rest := []) ⟨hx, hb, hml, hown, hts⟩ (q_clearX l dC dI cT ad E H.size hI) (cwV 0 hts (gi_V (in_28 _ (zs16 (zs4 (zs4 (zs4 (zs1 (zs1 (zs0)))))))) (in_28 _ (zs16 (zs4 (zs4 (zs4 (zs1 (zs1 (zs1 (zs0))))))))) (in_28 _ (zs16 (zs16 (zs0)))) (in_24 _ (zs4 (zs4 (zs4 (zs1 (zs1 (zs1 (zs0)))))))) (in_28 _ (zs16 (zs16 (zs1 (zs0)))))) rfl rfl rfl (by decide +kernel) ⟨Nat.le_of_ble_eq_true rfl, Nat.le_of_ble_eq_true rfl⟩) ⟨HW_bl, va_recv hK hP (ci := 14) (q0 := 0) rfl (hI.ob 0 (Nat.le_of_ble_eq_true rfl) rfl), (HW_wi hP hK (WX_D hD) hS hA hEV)⟩ rfl rfl hl.1 rfl (lv_room (Nat.le_of_ble_eq_true rfl)) dX13_numberOf_20 ⟨Nat.le_of_ble_eq_true rfl, Nat.le_of_ble_eq_true rfl⟩) (WX_D hD) hS hA (fun E10 H locs hw hP hS => ?_)
    obtain ⟨hI, kq11, hw⟩ := hw
    have hKb := hKp
    have hKp := hKp.tr kq11 (wl_sub rfl rfl)
    have f12 := hw
    refine lv_aload_n hx hb dX13_numberOf_23 rfl (lv_at hl 1 rfl) ?_
    refine th_get (ci := 14) (C := RX13) (T := TX13) (N := 97) (v := .ref (ad 12)) hx hb hts hinX13 hown hK hP hI 0 (Nat.le_of_ble_eq_true rfl) rfl rfl 15 (Nat.le_of_ble_eq_true rfl) (hts _ (vA_in _ _ (in_25 _ (zs16 (zs16 (zs4 (zs1 (zs0)))))))) (fun _ h9 => h9) (hI.fr 0 (Nat.le_of_ble_eq_true rfl) rfl (Nat.le_of_ble_eq_true rfl) 12 rfl) dX13_numberOf_24 ?_
    refine lv_bipush (v := 108) hx hb dX13_numberOf_27 (by decide) ?_
    refine lv_aload_n hx hb dX13_numberOf_29 rfl (lv_at hl 1 rfl) ?_
    refine th_get (ci := 14) (C := RX13) (T := TX13) (N := 97) (v := .ref (ad 3)) hx hb hts hinX13 hown hK hP hI 0 (Nat.le_of_ble_eq_true rfl) rfl rfl 4 (Nat.le_of_ble_eq_true rfl) (hts _ (vA_in _ _ (in_27 _ (zs4 (zs4 (zs4 (zs1 (zs1 (zs0))))))))) (fun _ h9 => h9) (hI.fr 0 (Nat.le_of_ble_eq_true rfl) rfl (Nat.le_of_ble_eq_true rfl) 3 rfl) dX13_numberOf_30 ?_
    refine lv_iload hx hb dX13_numberOf_33 (lv_at hl 0 rfl) ?_
    have n14 : vp_in r1 80 := (iv_in (n := 80) i8 (by decide))
    refine th_iald hx hb hK hP hI 3 (Nat.le_of_ble_eq_true rfl) rfl rfl n14 dX13_numberOf_35 (fun y13 ey13 => ?_)
    have iy13 : 0 ≤ y13.toInt ∧ y13.toInt ≤ 400 := hI.el 3 (Nat.le_of_ble_eq_true rfl) rfl n14 (fun _ => rfl) ey13
    have ey13 := ey13.trans (hKp.ei 3 _ rfl)
    have n15 : vp_in (108 : Int32) 128 := (iv_in (n := 128) ln_108 (by decide))
    refine th_iast hx hb hK hP (WX_D hD) hS hI 12 (Nat.le_of_ble_eq_true rfl) rfl rfl n15 (okI rfl (iv_w iy13 (by decide))) dX13_numberOf_36 (fun H locs E16 pw17 hI hP hS => ?_)
    have hKp := hKp.pw pw17 rfl
    have k18 : mLt E16 = lset lz 0 y13 := (mL_set (k := 0) pw17 (by decide) rfl).trans (by rw [f12])
    refine lv_aload_n hx hb dX13_numberOf_37 rfl (lv_at hl 1 rfl) ?_
    refine th_get (ci := 14) (C := RX13) (T := TX13) (N := 97) (v := .ref (ad 12)) hx hb hts hinX13 hown hK hP hI 0 (Nat.le_of_ble_eq_true rfl) rfl rfl 15 (Nat.le_of_ble_eq_true rfl) (hts _ (vA_in _ _ (in_25 _ (zs16 (zs16 (zs4 (zs1 (zs0)))))))) (fun _ h9 => h9) (hI.fr 0 (Nat.le_of_ble_eq_true rfl) rfl (Nat.le_of_ble_eq_true rfl) 12 rfl) dX13_numberOf_38 ?_
    refine lv_bipush (v := 115) hx hb dX13_numberOf_41 (by decide) ?_
    refine lv_aload_n hx hb dX13_numberOf_43 rfl (lv_at hl 1 rfl) ?_
    refine th_get (ci := 14) (C := RX13) (T := TX13) (N := 97) (v := .ref (ad 4)) hx hb hts hinX13 hown hK hP hI 0 (Nat.le_of_ble_eq_true rfl) rfl rfl 5 (Nat.le_of_ble_eq_true rfl) (hts _ (vA_in _ _ (in_27 _ (zs4 (zs4 (zs4 (zs1 (zs1 (zs1 (zs0)))))))))) (fun _ h9 => h9) (hI.fr 0 (Nat.le_of_ble_eq_true rfl) rfl (Nat.le_of_ble_eq_true rfl) 4 rfl) dX13_numberOf_44 ?_
    refine lv_iload hx hb dX13_numberOf_47 (lv_at hl 0 rfl) ?_
    have n20 : vp_in r1 80 := (iv_in (n := 80) i8 (by decide))
    refine th_iald hx hb hK hP hI 4 (Nat.le_of_ble_eq_true rfl) rfl rfl n20 dX13_numberOf_49 (fun y19 ey19 => ?_)
    have iy19 : 0 ≤ y19.toInt ∧ y19.toInt ≤ 4000 := hI.el 4 (Nat.le_of_ble_eq_true rfl) rfl n20 (fun _ => rfl) ey19
    have ey19 := ey19.trans (hKp.ei 4 _ rfl)
    have n21 : vp_in (115 : Int32) 128 := (iv_in (n := 128) ln_115 (by decide))
    refine th_iast hx hb hK hP (WX_D hD) hS hI 12 (Nat.le_of_ble_eq_true rfl) rfl rfl n21 (okI rfl (iv_w iy19 (by decide))) dX13_numberOf_50 (fun H locs E22 pw23 hI hP hS => ?_)
    have hKp := hKp.pw pw23 rfl
    have k24 : mLt E22 = lset (lset lz 0 y13) 1 y19 := (mL_set (k := 1) pw23 (by decide) rfl).trans (by rw [k18])
    refine lv_aload_n hx hb dX13_numberOf_51 rfl (lv_at hl 1 rfl) ?_
    refine th_get (ci := 14) (C := RX13) (T := TX13) (N := 97) (v := .ref (ad 12)) hx hb hts hinX13 hown hK hP hI 0 (Nat.le_of_ble_eq_true rfl) rfl rfl 15 (Nat.le_of_ble_eq_true rfl) (hts _ (vA_in _ _ (in_25 _ (zs16 (zs16 (zs4 (zs1 (zs0)))))))) (fun _ h9 => h9) (hI.fr 0 (Nat.le_of_ble_eq_true rfl) rfl (Nat.le_of_ble_eq_true rfl) 12 rfl) dX13_numberOf_52 ?_
    refine lv_bipush (v := 119) hx hb dX13_numberOf_55 (by decide) ?_
    refine lv_aload_n hx hb dX13_numberOf_57 rfl (lv_at hl 1 rfl) ?_
    refine th_get (ci := 14) (C := RX13) (T := TX13) (N := 97) (v := .ref (ad 5)) hx hb hts hinX13 hown hK hP hI 0 (Nat.le_of_ble_eq_true rfl) rfl rfl 6 (Nat.le_of_ble_eq_true rfl) (hts _ (vA_in _ _ (in_27 _ (zs16 (zs0))))) (fun _ h9 => h9) (hI.fr 0 (Nat.le_of_ble_eq_true rfl) rfl (Nat.le_of_ble_eq_true rfl) 5 rfl) dX13_numberOf_58 ?_
    refine lv_iload hx hb dX13_numberOf_61 (lv_at hl 0 rfl) ?_
    have n26 : vp_in r1 80 := (iv_in (n := 80) i8 (by decide))
    refine th_iald hx hb hK hP hI 5 (Nat.le_of_ble_eq_true rfl) rfl rfl n26 dX13_numberOf_63 (fun y25 ey25 => ?_)
    have iy25 : 0 ≤ y25.toInt ∧ y25.toInt ≤ 900 := hI.el 5 (Nat.le_of_ble_eq_true rfl) rfl n26 (fun _ => rfl) ey25
    have ey25 := ey25.trans (hKp.ei 5 _ rfl)
    have n27 : vp_in (119 : Int32) 128 := (iv_in (n := 128) ln_119 (by decide))
    refine th_iast hx hb hK hP (WX_D hD) hS hI 12 (Nat.le_of_ble_eq_true rfl) rfl rfl n27 (okI rfl (iv_w iy25 (by decide))) dX13_numberOf_64 (fun H locs E28 pw29 hI hP hS => ?_)
    have hKp := hKp.pw pw29 rfl
    have k30 : mLt E28 = lset (lset (lset lz 0 y13) 1 y19) 2 y25 := (mL_set (k := 2) pw29 (by decide) rfl).trans (by rw [k24])
    refine lv_sipush (v := 500) hx hb dX13_numberOf_65 (by decide) ?_
    refine lv_sipush (v := 2000) hx hb dX13_numberOf_68 (by decide) ?_
    refine lv_aload_n hx hb dX13_numberOf_71 rfl (lv_at hl 1 rfl) ?_
    refine lv_bipush (v := 110) hx hb dX13_numberOf_72 (by decide) ?_
    refine lv_iload_n hx hb dX13_numberOf_74 rfl (lv_at hl 3 rfl) ?_
    refine lv_iload_n hx hb dX13_numberOf_75 rfl (lv_at hl 4 rfl) ?_
    have z110 := ln_110
    refine th_i (va_runV (As := [.int 110, .int a1, .int a2]) (rest := [.int 2000, .int 500]) ⟨hx, hb, hml, hown, hts⟩ (q_worthM l dC dI cT ad E28 H.size (110 : Int32) a1 a2 hI (iv_w ln_110 (by decide)) (by exact hh0.cg (fun j9 => hKp.ei 8 j9 rfl) (fun j9 => hKp.ei 9 j9 rfl) (hKp.ei 0 17 rfl))) (cwV 3 hts (gi_V (in_28 _ (zs16 (zs16 (zs1 (zs1 (zs0)))))) (in_28 _ (zs16 (zs16 (zs1 (zs1 (zs1 (zs0))))))) (in_28 _ (zs16 (zs16 (zs4 (zs0))))) (in_24 _ (zs4 (zs4 (zs4 (zs1 (zs1 (zs1 (zs0)))))))) (in_28 _ (zs16 (zs16 (zs4 (zs1 (zs0))))))) rfl rfl rfl (by decide +kernel) ⟨Nat.le_of_ble_eq_true rfl, Nat.le_of_ble_eq_true rfl⟩) ⟨HW_bl, va_recv hK hP (ci := 14) (q0 := 0) rfl (hI.ob 0 (Nat.le_of_ble_eq_true rfl) rfl), (HW_wi hP hK (WX_D hD) hS hA hEV)⟩ rfl rfl hl.1 rfl (lv_room (Nat.le_of_ble_eq_true rfl)) dX13_numberOf_76 ⟨Nat.le_of_ble_eq_true rfl, Nat.le_of_ble_eq_true rfl⟩) (WX_D hD) hS hA (fun r31 E32 H locs hw hP hS => ?_)
    obtain ⟨hI, kq33, hw⟩ := hw
    have hKb := hKp
    have hKp := hKp.tr kq33 (wl_sub rfl rfl)
    have f34 := hw
    have i35 : 0 ≤ (xi (E 0) 17).toInt ∧ (xi (E 0) 17).toInt ≤ 16 := (show 0 ≤ (xi (E 0) 17).toInt ∧ (xi (E 0) 17).toInt ≤ 16 from hI0.iv 0 (Nat.le_of_ble_eq_true rfl) rfl (Nat.le_of_ble_eq_true rfl) rfl)
    have k36 : lawM E28 a1 a2 = lawM E a1 a2 := by unfold lawM; rw [show xi (E28 10) = xi (E 10) from hKb.ef _ (fun _ => rfl), show xi (E28 11) = xi (E 11) from hKb.ef _ (fun _ => rfl), show xi (E28 0) 17 = xi (E 0) 17 from hKb.ei 0 _ rfl]
    have k37 : r31 = wML (lset (lset (lset lz 0 y13) 1 y19) 2 y25) E 110 (lawM E a1 a2) := f34.trans (by rw [k36, k30, wML_cg (E := E) (fun j9 => hKb.ei 8 j9 rfl) (fun j9 => hKb.ei 9 j9 rfl)]; rfl)
    refine va_mmin hx hb (by rw [hml]; exact hl.1.symm) hown (hts _ (vA_in _ _ (in_28 _ (zs16 (zs4 (zs4 (zs1 (zs1 (zs0))))))))) (hts _ (vA_in _ _ (in_0 _ (zs16 (zs16 (zs4 (zs0))))))) (hts _ (vA_in _ _ (in_0 _ (zs16 (zs16 (zs1 (zs0))))))) (hts _ (vA_in _ _ (in_0 _ (zs16 (zs16 (zs4 (zs1 (zs0)))))))) (Nat.le_of_ble_eq_true rfl) (Nat.le_of_ble_eq_true rfl) (Nat.le_of_ble_eq_true rfl) (Nat.le_of_ble_eq_true rfl) dX13_numberOf_79 ?_
    have z2000 := ln_2000
    refine lv_topi (fun y38 ey38 => ?_)
    obtain ⟨ty38, iy38⟩ := ti_min (e := (-2147483648)) (f := 2000) ln_2000 (iv_all _) ey38 (by decide)
    have iy38 : -2147483648 ≤ y38.toInt ∧ y38.toInt ≤ 2000 := iy38
    refine va_mmax hx hb (by rw [hml]; exact hl.1.symm) hown (hts _ (vA_in _ _ (in_25 _ (zs16 (zs4 (zs4 (zs1 (zs1 (zs1 (zs0)))))))))) (hts _ (vA_in _ _ (in_0 _ (zs16 (zs16 (zs0)))))) (hts _ (vA_in _ _ (in_0 _ (zs16 (zs16 (zs1 (zs0))))))) (hts _ (vA_in _ _ (in_0 _ (zs16 (zs16 (zs1 (zs1 (zs0)))))))) (Nat.le_of_ble_eq_true rfl) (Nat.le_of_ble_eq_true rfl) (Nat.le_of_ble_eq_true rfl) (Nat.le_of_ble_eq_true rfl) dX13_numberOf_82 ?_
    have z500 := ln_500
    refine lv_topi (fun y39 ey39 => ?_)
    obtain ⟨ty39, iy39⟩ := ti_max (e := 500) (f := 2000) ln_500 iy38 ey39 (by decide)
    have iy39 : 500 ≤ y39.toInt ∧ y39.toInt ≤ 2000 := iy39
    rw [hQ]
    exact W.iret (v := y39) hx hb hr (fun t ht hW => ⟨⟨y39, E32, rfl, ⟨hI, hKp, numM_1 (w := r31) k5 (by omega) (k37.trans (by rw [ey13, ey19, ey25])) (by have z1 := ln_500; have z2 := ln_2000; omega)⟩, by show va_P (dC, dI) vwCl (WX 72 ad E32) t.heap; rw [ht]; exact hP⟩, hS.F ht⟩) hS.2.2 dX13_numberOf_85
  · --12 not
    have t40 : r1.toInt = -1 := ti_eq c6
    have i41 : -1 ≤ r1.toInt ∧ r1.toInt ≤ -1 := iv_eqi t40 f2 (il_ (-1)) (by decide)
    refine lv_sipush (v := 1000) hx hb dX13_numberOf_15 (by decide) ?_
    rw [hQ]
    exact W.iret (v := 1000) hx hb hr (fun t ht hW => ⟨⟨1000, E, rfl, ⟨hI, hKp, numM_0 (by rw [← k5]; omega)⟩, by show va_P (dC, dI) vwCl (WX 72 ad E) t.heap; rw [ht]; exact hP⟩, hS.F ht⟩) hS.2.2 dX13_numberOf_18
def v_numberM : List Cond := .code yX13_number cX13_number 4 (some .int) :: vA
abbrev rm_numberM : Room := { frames := 72, cells := 0, slots := 0, locals := 2880 }
def w_numberM : Nat → Nat → Bool := wl [12] [(0, 0), (0, 18), (0, 19), (0, 20), (0, 21), (0, 22), (0, 23), (0, 24), (0, 25), (0, 26)]
set_option maxHeartbeats 4000000 in
set_option maxRecDepth 100000 in
theorem q_numberM (l : Launch) (dC : Nat → ClassId) (dI : Nat → Nat → Nat) (cT : Nat → ClassId) (ad : Nat → Nat) (E : Nat → va_E) (sz : Nat) (a0 : Int32) (a1 : Int32) (a2 : Int32) (hI0 : IX cT shM spM 72 ad E) (hh0 : TXM E) : Met l yX13_number v_numberM rm_numberM (va_Pc [.ref (ad 0), .int a0, .int a1, .int a2] (HW dC dI (TYM cT) 72 ad E sz)) (va_Qi (S := Nat → va_E) (fun r u => IX cT shM spM 72 ad u ∧ Kp w_numberM E u ∧ ((((((0 ≤ a0.toInt ∧ a0.toInt < (xi (E 0) 8).toInt) ∧ (0 ≤ a1.toInt ∧ a1.toInt ≤ 400) ∧ (0 ≤ a2.toInt ∧ a2.toInt ≤ (xi (E 0) 1).toInt)) → (r.toInt = numM E a0 a1 a2)) ∧ (¬ ((0 ≤ a0.toInt ∧ a0.toInt < (xi (E 0) 8).toInt) ∧ (0 ≤ a1.toInt ∧ a1.toInt ≤ 400) ∧ (0 ≤ a2.toInt ∧ a2.toInt ≤ (xi (E 0) 1).toInt)) → (r.toInt = -1)))))) (HB dC dI 72 ad) (va_A (WX 72 ad E) sz)) 0 0 (va_A (WX 72 ad E) sz) := by
  refine Met.ofW (cc := cX13_number) (maxL := 4) (ret := (some .int)) (by decide) rfl ?_
  intro p e s m args below meth c s₁ B hml hv
  obtain ⟨hargs, hsz, hP, hK, hD0, hEV⟩ := hv
  subst hsz
  have hx := B.exec
  have hb := B.bytes
  have hr := B.returns
  have hts := atoms_spec (ws := v_numberM) B.pre
  have hown : s.vm.findClass RX13 = some m.cls := findClass_of_methodNamed B.named
  have hlocks := B.notSynchronized
  have hinX13 : ∀ w ∈ u_ws RX13 TX13 97, w ∈ v_numberM := fun w h => vA_in _ w (in_X13 w h)
  generalize hAe : va_A (WX 72 ad E) s.heap.size = A at hEV ⊢
  have hA : ∀ q : Nat, s.heap.size ≤ q → A q := fun q h => by rw [← hAe]; exact Or.inr h
  have hD : va_D A (WX 72 ad E) := by rw [← hAe]; exact hD0.self
  have hS : va_S A s.heap s.heap [] := va_S.rf
  have hI := hI0
  have hKp : Kp w_numberM E E := Kp.rf
  have hl := lv_entry ([.ref (ad 0), .int a0, .int a1, .int a2]) (n := 4) (Nat.le_of_ble_eq_true rfl)
  obtain ⟨Q, hQ⟩ : ∃ Q, Q = MQ below (va_Qi (S := Nat → va_E) (fun r u => IX cT shM spM 72 ad u ∧ Kp w_numberM E u ∧ ((((((0 ≤ a0.toInt ∧ a0.toInt < (xi (E 0) 8).toInt) ∧ (0 ≤ a1.toInt ∧ a1.toInt ≤ 400) ∧ (0 ≤ a2.toInt ∧ a2.toInt ≤ (xi (E 0) 1).toInt)) → (r.toInt = numM E a0 a1 a2)) ∧ (¬ ((0 ≤ a0.toInt ∧ a0.toInt < (xi (E 0) 8).toInt) ∧ (0 ≤ a1.toInt ∧ a1.toInt ≤ 400) ∧ (0 ≤ a2.toInt ∧ a2.toInt ≤ (xi (E 0) 1).toInt)) → (r.toInt = -1)))))) (HB dC dI 72 ad) (A)) args s 0 0 (A) := ⟨_, rfl⟩
  rw [← hQ, show entryFrame m args 4 = _ from (congrArg (fun z => entryFrame m z 4) hargs).trans (lg_entry_eq _ _ _)]
  generalize (lg_sl ([.ref (ad 0), .int a0, .int a1, .int a2]) ++ List.replicate (4 - (lg_sl ([.ref (ad 0), .int a0, .int a1, .int a2])).length) Slot.unset).toArray = ls at hl ⊢
  have hl : lv_has ls 4 [(0, .ref (ad 0)), (1, .int a0), (2, .int a1), (3, .int a2)] := hl
  refine lv_aload_n hx hb dX13_number_0 rfl (lv_at hl 0 rfl) ?_
  refine lv_iconst (v := 0) hx hb dX13_number_1 (by decide) ?_
  refine th_put (ci := 14) (C := RX13) (T := TX13) (N := 97) (v := .int 0) (ty := .int) hx hb hts hinX13 tyX13 tyX13_ok nmX13 hown hK hP (WX_D hD) hS hI 0 (Nat.le_of_ble_eq_true rfl) rfl rfl 0 (Nat.le_of_ble_eq_true rfl) (hts _ (vA_in _ _ (in_24 _ (zs4 (zs4 (zs1 (zs1 (zs0)))))))) (fun _ h9 => h9) rfl (by decide +kernel) rfl rfl (okI rfl (iv_w ln_0 (by decide))) dX13_number_2 (fun H locs E1 pw2 hI hP hS => ?_)
  have hKp := hKp.pw pw2 rfl
  refine lv_aload_n hx hb dX13_number_5 rfl (lv_at hl 0 rfl) ?_
  refine lv_iload_n hx hb dX13_number_6 rfl (lv_at hl 1 rfl) ?_
  refine th_ri (va_runV (As := [.int a0]) (rest := []) ⟨hx, hb, hml, hown, hts⟩ (q_isBoat l dC dI cT ad E1 H.size a0 hI) (cwV 1 hts (gi_V (in_24 _ (zs16 (zs1 (zs1 (zs0))))) (in_24 _ (zs16 (zs1 (zs1 (zs1 (zs0)))))) (in_24 _ (zs16 (zs4 (zs0)))) (in_24 _ (zs4 (zs4 (zs4 (zs1 (zs1 (zs1 (zs0)))))))) (in_24 _ (zs16 (zs4 (zs1 (zs0)))))) rfl rfl rfl (by decide +kernel) ⟨Nat.le_of_ble_eq_true rfl, Nat.le_of_ble_eq_true rfl⟩) ⟨HW_bl, va_recv hK hP (ci := 14) (q0 := 0) rfl (hI.ob 0 (Nat.le_of_ble_eq_true rfl) rfl), (HW_wi hP hK (WX_D hD) hS hA hEV)⟩ rfl rfl hl.1 rfl (lv_room (Nat.le_of_ble_eq_true rfl)) dX13_number_7 ⟨Nat.le_of_ble_eq_true rfl, Nat.le_of_ble_eq_true rfl⟩) hS hP (fun r3 H locs hw hP hS => ?_)
  rcases hw with hw | hw
  · -- isBoat, case 0
    obtain ⟨rfl, f4, f5⟩ := hw
    have i6 : 0 ≤ (xi (E 0) 8).toInt ∧ (xi (E 0) 8).toInt ≤ 16 := (show 0 ≤ (xi (E 0) 8).toInt ∧ (xi (E 0) 8).toInt ≤ 16 from hI0.iv 0 (Nat.le_of_ble_eq_true rfl) rfl (Nat.le_of_ble_eq_true rfl) rfl)
    try rw [hKp.ei 0 8 rfl] at f4
    refine lv_if_eq (tgt := 38) hx hb dX13_number_10 (by decide) (fun c7 => ?_) (fun c7 => ?_)
    · --10 taken
      exact absurd c7 (by decide)
    · --10 not
      refine lv_iload_n hx hb dX13_number_13 rfl (lv_at hl 2 rfl) ?_
      refine th_pi (va_runS (As := [.int a1]) (rest := []) ⟨hx, hb, hml, hown, hts⟩ (q_isDay l a1) (va_cwS 1 hts (gi_S (in_27 _ (zs16 (zs1 (zs0)))) (in_27 _ (zs16 (zs1 (zs1 (zs0))))) (in_24 _ (zs4 (zs4 (zs4 (zs1 (zs1 (zs1 (zs0)))))))) (in_27 _ (zs16 (zs1 (zs1 (zs1 (zs0))))))) rfl rfl rfl (by decide +kernel) ⟨Nat.le_of_ble_eq_true rfl, Nat.le_of_ble_eq_true rfl⟩) ⟨fun _ _ _ _ q => q, fun _ _ _ => ⟨rfl, trivial⟩⟩ rfl rfl hl.1 rfl (lv_room (Nat.le_of_ble_eq_true rfl)) dX13_number_14 ⟨Nat.le_of_ble_eq_true rfl, Nat.le_of_ble_eq_true rfl⟩) hS (fun r8 H1 locs1 hw hk1 hS => ?_)
      have hP := ub_keep hP hk1
      generalize H1 = H at hP hS ⊢
      generalize locs1 = locs at hS ⊢
      rcases hw with hw | hw
      · -- isDay, case 0
        obtain ⟨rfl, f9⟩ := hw
        have t10 : (0 : Int) ≤ a1.toInt := f9.1
        have t11 : a1.toInt ≤ 400 := f9.2
        have i12 : 0 ≤ a1.toInt ∧ a1.toInt ≤ 2147483647 := iv_le_r t10 (il_ 0) (iv_all _) (by decide)
        have i13 : 0 ≤ a1.toInt ∧ a1.toInt ≤ 400 := iv_le_l t11 i12 (il_ 400) (by decide)
        refine lv_if_eq (tgt := 38) hx hb dX13_number_17 (by decide) (fun c14 => ?_) (fun c14 => ?_)
        · --17 taken
          exact absurd c14 (by decide)
        · --17 not
          refine lv_aload_n hx hb dX13_number_20 rfl (lv_at hl 0 rfl) ?_
          refine lv_iload_n hx hb dX13_number_21 rfl (lv_at hl 3 rfl) ?_
          refine th_ri (va_runV (As := [.int a2]) (rest := []) ⟨hx, hb, hml, hown, hts⟩ (q_isKnown l dC dI cT ad E1 H.size a2 hI) (cwV 1 hts (gi_V (in_24 _ (zs16 (zs4 (zs1 (zs1 (zs1 (zs0))))))) (in_24 _ (zs16 (zs4 (zs4 (zs0))))) (in_24 _ (zs16 (zs4 (zs4 (zs1 (zs0)))))) (in_24 _ (zs4 (zs4 (zs4 (zs1 (zs1 (zs1 (zs0)))))))) (in_24 _ (zs16 (zs4 (zs4 (zs1 (zs1 (zs0)))))))) rfl rfl rfl (by decide +kernel) ⟨Nat.le_of_ble_eq_true rfl, Nat.le_of_ble_eq_true rfl⟩) ⟨HW_bl, va_recv hK hP (ci := 14) (q0 := 0) rfl (hI.ob 0 (Nat.le_of_ble_eq_true rfl) rfl), (HW_wi hP hK (WX_D hD) hS hA hEV)⟩ rfl rfl hl.1 rfl (lv_room (Nat.le_of_ble_eq_true rfl)) dX13_number_22 ⟨Nat.le_of_ble_eq_true rfl, Nat.le_of_ble_eq_true rfl⟩) hS hP (fun r15 H locs hw hP hS => ?_)
          rcases hw with hw | hw
          · -- isKnown, case 0
            obtain ⟨rfl, f16⟩ := hw
            have i17 : 0 ≤ (xi (E 0) 1).toInt ∧ (xi (E 0) 1).toInt ≤ 400 := (show 0 ≤ (xi (E 0) 1).toInt ∧ (xi (E 0) 1).toInt ≤ 400 from hI0.iv 0 (Nat.le_of_ble_eq_true rfl) rfl (Nat.le_of_ble_eq_true rfl) rfl)
            try rw [hKp.ei 0 1 rfl] at f16
            have t18 : (0 : Int) ≤ a2.toInt := f16.1
            have t19 : a2.toInt ≤ (xi (E 0) 1).toInt := f16.2
            have i20 : 0 ≤ a2.toInt ∧ a2.toInt ≤ 2147483647 := iv_le_r t18 (il_ 0) (iv_all _) (by decide)
            have i21 : 0 ≤ a2.toInt ∧ a2.toInt ≤ 400 := iv_le_l t19 i20 i17 (by decide)
            refine lv_if_eq (tgt := 38) hx hb dX13_number_25 (by decide) (fun c22 => ?_) (fun c22 => ?_)
            · --25 taken
              exact absurd c22 (by decide)
            · --25 not
              refine lv_aload_n hx hb dX13_number_28 rfl (lv_at hl 0 rfl) ?_
              refine lv_iload_n hx hb dX13_number_29 rfl (lv_at hl 1 rfl) ?_
              refine lv_iload_n hx hb dX13_number_30 rfl (lv_at hl 2 rfl) ?_
              refine lv_iload_n hx hb dX13_number_31 rfl (lv_at hl 3 rfl) ?_
              refine th_i (va_runV (As := [.int a0, .int a1, .int a2]) (rest := []) ⟨hx, hb, hml, hown, hts⟩ (q_numberOfM l dC dI cT ad E1 H.size a0 a1 a2 hI (by exact hh0.cg (fun j9 => hKp.ei 8 j9 rfl) (fun j9 => hKp.ei 9 j9 rfl) (hKp.ei 0 17 rfl))) (cwV 3 hts (gi_V (in_28 _ (zs16 (zs4 (zs1 (zs1 (zs0)))))) (in_28 _ (zs16 (zs4 (zs1 (zs1 (zs1 (zs0))))))) (in_28 _ (zs16 (zs4 (zs4 (zs0))))) (in_24 _ (zs4 (zs4 (zs4 (zs1 (zs1 (zs1 (zs0)))))))) (in_28 _ (zs16 (zs4 (zs4 (zs1 (zs0))))))) rfl rfl rfl (by decide +kernel) ⟨Nat.le_of_ble_eq_true rfl, Nat.le_of_ble_eq_true rfl⟩) ⟨HW_bl, va_recv hK hP (ci := 14) (q0 := 0) rfl (hI.ob 0 (Nat.le_of_ble_eq_true rfl) rfl), (HW_wi hP hK (WX_D hD) hS hA hEV)⟩ rfl rfl hl.1 rfl (lv_room (Nat.le_of_ble_eq_true rfl)) dX13_number_32 ⟨Nat.le_of_ble_eq_true rfl, Nat.le_of_ble_eq_true rfl⟩) (WX_D hD) hS hA (fun r23 E24 H locs hw hP hS => ?_)
              obtain ⟨hI, kq25, hw⟩ := hw
              have hKb := hKp
              have hKp := hKp.tr kq25 (wl_sub rfl rfl)
              have f26 := hw
              have i27 : 0 ≤ (xi (E 0) 9).toInt ∧ (xi (E 0) 9).toInt ≤ 80 := (show 0 ≤ (xi (E 0) 9).toInt ∧ (xi (E 0) 9).toInt ≤ 80 from hI0.iv 0 (Nat.le_of_ble_eq_true rfl) rfl (Nat.le_of_ble_eq_true rfl) rfl)
              have k28 : r23.toInt = numM E a0 a1 a2 := f26.trans (numM_kp (E := E) hKb (by intro o9 ho9 j9; simp only [List.mem_cons, List.not_mem_nil, or_false] at ho9; rcases ho9 with rfl | rfl | rfl | rfl | rfl | rfl | rfl | rfl | rfl | rfl <;> rfl) rfl rfl)
              refine lv_goto (tgt := 39) hx hb dX13_number_35 (by decide) ?_
              rw [hQ]
              exact W.iret (v := r23) hx hb hr (fun t ht hW => ⟨⟨r23, E24, rfl, ⟨hI, hKp, (by have h9 := k28; all_goals omega)⟩, by show va_P (dC, dI) vwCl (WX 72 ad E24) t.heap; rw [ht]; exact hP⟩, hS.F ht⟩) hS.2.2 dX13_number_39
          · -- isKnown, case 1
            obtain ⟨rfl, f29⟩ := hw
            have i30 : 0 ≤ (xi (E 0) 1).toInt ∧ (xi (E 0) 1).toInt ≤ 400 := (show 0 ≤ (xi (E 0) 1).toInt ∧ (xi (E 0) 1).toInt ≤ 400 from hI0.iv 0 (Nat.le_of_ble_eq_true rfl) rfl (Nat.le_of_ble_eq_true rfl) rfl)
            try rw [hKp.ei 0 1 rfl] at f29
            have t31 : ¬ ((0 : Int) ≤ a2.toInt ∧ a2.toInt ≤ (xi (E 0) 1).toInt) := f29
            refine lv_if_eq (tgt := 38) hx hb dX13_number_25 (by decide) (fun c32 => ?_) (fun c32 => ?_)
            · --25 taken
              refine lv_iconst (v := -1) hx hb dX13_number_38 (by decide) ?_
              rw [hQ]
              exact W.iret (v := (-1)) hx hb hr (fun t ht hW => ⟨⟨(-1), E1, rfl, ⟨hI, hKp, (by have h8 := ln_m1; all_goals omega)⟩, by show va_P (dC, dI) vwCl (WX 72 ad E1) t.heap; rw [ht]; exact hP⟩, hS.F ht⟩) hS.2.2 dX13_number_39
            · --25 not
              exact absurd c32 (by decide)
      · -- isDay, case 1
        obtain ⟨rfl, f33⟩ := hw
        have t34 : ¬ ((0 : Int) ≤ a1.toInt ∧ a1.toInt ≤ 400) := f33
        refine lv_if_eq (tgt := 38) hx hb dX13_number_17 (by decide) (fun c35 => ?_) (fun c35 => ?_)
        · --17 taken
          refine lv_iconst (v := -1) hx hb dX13_number_38 (by decide) ?_
          rw [hQ]
          exact W.iret (v := (-1)) hx hb hr (fun t ht hW => ⟨⟨(-1), E1, rfl, ⟨hI, hKp, (by have h8 := ln_m1; all_goals omega)⟩, by show va_P (dC, dI) vwCl (WX 72 ad E1) t.heap; rw [ht]; exact hP⟩, hS.F ht⟩) hS.2.2 dX13_number_39
        · --17 not
          exact absurd c35 (by decide)
  · -- isBoat, case 1
    obtain ⟨rfl, f36⟩ := hw
    have i37 : 0 ≤ (xi (E 0) 8).toInt ∧ (xi (E 0) 8).toInt ≤ 16 := (show 0 ≤ (xi (E 0) 8).toInt ∧ (xi (E 0) 8).toInt ≤ 16 from hI0.iv 0 (Nat.le_of_ble_eq_true rfl) rfl (Nat.le_of_ble_eq_true rfl) rfl)
    try rw [hKp.ei 0 8 rfl] at f36
    refine lv_if_eq (tgt := 38) hx hb dX13_number_10 (by decide) (fun c38 => ?_) (fun c38 => ?_)
    · --10 taken
      refine lv_iconst (v := -1) hx hb dX13_number_38 (by decide) ?_
      rw [hQ]
      exact W.iret (v := (-1)) hx hb hr (fun t ht hW => ⟨⟨(-1), E1, rfl, ⟨hI, hKp, (by have h8 := ln_m1; all_goals omega)⟩, by show va_P (dC, dI) vwCl (WX 72 ad E1) t.heap; rw [ht]; exact hP⟩, hS.F ht⟩) hS.2.2 dX13_number_39
    · --10 not
      exact absurd c38 (by decide)
