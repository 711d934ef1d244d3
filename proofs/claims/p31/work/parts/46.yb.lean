

def v_addV : List Cond := .code yX10_add cX10_add 2 none :: vA
abbrev rm_addV : Room := { frames := 0, cells := 0, slots := 0, locals := 0 }
def w_addV : Nat → Nat → Bool := wl [22] [(2, 5)]
set_option maxHeartbeats 4000000 in
set_option maxRecDepth 100000 in
theorem q_addV (l : Launch) (dC : Nat → ClassId) (dI : Nat → Nat → Nat) (cT : Nat → ClassId) (cf : Nat → Nat) (hC : CF cf) (ad : Nat → Nat) (E : Nat → va_E) (sz : Nat) (a0 : Int32) (hI0 : IXL cT (shC cf) (spC cf) (LC cf) ad E)  : Met l yX10_add v_addV rm_addV (va_Pc [.ref (ad 2), .int a0] (HWL dC dI (TYC cT) cf ad E sz)) (va_Qv (S := Nat → va_E) (fun u => IXL cT (shC cf) (spC cf) (LC cf) ad u ∧ Kp w_addV E u ∧ (((xi (E 2) 5).toInt ≤ (xi (u 2) 5).toInt) ∧ (KS E u) ∧ (CD [a0.toInt] E u))) (HBL dC dI (LC cf) ad) (va_A (WL (LC cf) ad E) sz)) 0 0 (va_A (WL (LC cf) ad E) sz) := by
  obtain ⟨⟨hc0, hc1, hc2, hc3, hc4, hc5⟩, hcr⟩ := id hC
  refine Met.ofW (cc := cX10_add) (maxL := 2) (ret := none) (by decide) rfl ?_
  intro p e s m args below meth c s₁ B hml hv
  obtain ⟨hargs, hsz, hP, hK, hD0, hEV⟩ := hv
  subst hsz
  have hx := B.exec
  have hb := B.bytes
  have hr := B.returns
  have hts := atoms_spec (ws := v_addV) B.pre
  have hown : s.vm.findClass RX10 = some m.cls := findClass_of_methodNamed B.named
  have hlocks := B.notSynchronized
  have hinX10 : ∀ w ∈ u_ws RX10 TX10 10, w ∈ v_addV := fun w h => vA_in _ w (in_X10 w h)
  generalize hAe : va_A (WL (LC cf) ad E) s.heap.size = A at hEV ⊢
  have hA : ∀ q : Nat, s.heap.size ≤ q → A q := fun q h => by rw [← hAe]; exact Or.inr h
  have hD : va_D A (WL (LC cf) ad E) := by rw [← hAe]; exact hD0.self
  have hS : va_S A s.heap s.heap [] := va_S.rf
  have hI := hI0
  have hKp : Kp w_addV E E := Kp.rf
  have hl := lv_entry ([.ref (ad 2), .int a0]) (n := 2) (Nat.le_of_ble_eq_true rfl)
  obtain ⟨Q, hQ⟩ : ∃ Q, Q = MQ below (va_Qv (S := Nat → va_E) (fun u => IXL cT (shC cf) (spC cf) (LC cf) ad u ∧ Kp w_addV E u ∧ (((xi (E 2) 5).toInt ≤ (xi (u 2) 5).toInt) ∧ (KS E u) ∧ (CD [a0.toInt] E u))) (HBL dC dI (LC cf) ad) (A)) args s 0 0 (A) := ⟨_, rfl⟩
  rw [← hQ, show entryFrame m args 2 = _ from (congrArg (fun z => entryFrame m z 2) hargs).trans (lg_entry_eq _ _ _)]
  generalize (lg_sl ([.ref (ad 2), .int a0]) ++ List.replicate (2 - (lg_sl ([.ref (ad 2), .int a0])).length) Slot.unset).toArray = ls at hl ⊢
  have hl : lv_has ls 2 [(0, .ref (ad 2)), (1, .int a0)] := hl
  obtain ⟨y1, ey1⟩ : ∃ y, xi (E 2) 5 = y := ⟨_, rfl⟩
  have fy1 : xv (E 2) 5 = .int y1 := (hI.fi 2 (mF 2 rfl) rfl (Nat.le_of_ble_eq_true rfl) rfl).trans (congrArg Value.int ey1)
  have i2 : 0 ≤ y1.toInt ∧ y1.toInt ≤ 200 := by rw [← ey1]; exact hI.iv 2 (mF 2 rfl) rfl (Nat.le_of_ble_eq_true rfl) rfl
  refine lv_aload_n hx hb dX10_add_0 rfl (lv_at hl 0 rfl) ?_
  refine th_getL (ci := 11) (C := RX10) (T := TX10) (N := 10) (v := .int y1) hx hb hts hinX10 hown hK hP hI 2 (mF 2 rfl) rfl rfl 5 (Nat.le_of_ble_eq_true rfl) (hts _ (vA_in _ _ (in_7 _ (zs16 (zs4 (zs4 (zs4 (zs1 (zs1 (zs0)))))))))) (fun _ h9 => h9) fy1 dX10_add_1 ?_
  refine lv_aload_n hx hb dX10_add_4 rfl (lv_at hl 0 rfl) ?_
  refine th_getL (ci := 11) (C := RX10) (T := TX10) (N := 10) (v := .ref (ad 22)) hx hb hts hinX10 hown hK hP hI 2 (mF 2 rfl) rfl rfl 4 (Nat.le_of_ble_eq_true rfl) (hts _ (vA_in _ _ (in_7 _ (zs16 (zs4 (zs4 (zs4 (zs1 (zs1 (zs1 (zs0))))))))))) (fun _ h9 => h9) (hI.fr 2 (mF 2 rfl) rfl (Nat.le_of_ble_eq_true rfl) 22 rfl) dX10_add_5 ?_
  refine va_alen (v := 200) hx hb hK hP (posL 22 (LC cf)) 0 (hI.ar 22 (mF 22 rfl) rfl) rfl rfl dX10_add_8 ?_
  refine lv_icmp_ge (tgt := 32) hx hb dX10_add_9 (by decide) (fun c3 => ?_) (fun c3 => ?_)
  · --9 taken
    have t4 : (200 : Int) ≤ y1.toInt := ti_le c3
    have i5 : 200 ≤ y1.toInt ∧ y1.toInt ≤ 200 := iv_le_r t4 (il_ 200) i2 (by decide)
    rw [hQ]
    exact W.vret hx hb hr (fun t ht hW => ⟨⟨E, rfl, ⟨hI, hKp, ⟨by (try rw [(show xi (E 2) 5 = y1 from vi_e fy1)]); (try rw [ey1]); all_goals omega, KS.kp hKp (fun _ => rfl) rfl rfl rfl, CD.full (by rw [ey1]; omega)⟩⟩, by show va_P (dC, dI) vwCl (WL (LC cf) ad E) t.heap; rw [ht]; exact hP⟩, hS.F ht⟩) hS.2.2 dX10_add_32
  · --9 not
    have t6 : y1.toInt < 200 := ti_nle c3
    have i7 : 0 ≤ y1.toInt ∧ y1.toInt ≤ 199 := iv_lt_l t6 i2 (il_ 200) (by decide)
    refine lv_aload_n hx hb dX10_add_12 rfl (lv_at hl 0 rfl) ?_
    refine th_getL (ci := 11) (C := RX10) (T := TX10) (N := 10) (v := .ref (ad 22)) hx hb hts hinX10 hown hK hP hI 2 (mF 2 rfl) rfl rfl 4 (Nat.le_of_ble_eq_true rfl) (hts _ (vA_in _ _ (in_7 _ (zs16 (zs4 (zs4 (zs4 (zs1 (zs1 (zs1 (zs0))))))))))) (fun _ h9 => h9) (hI.fr 2 (mF 2 rfl) rfl (Nat.le_of_ble_eq_true rfl) 22 rfl) dX10_add_13 ?_
    refine lv_aload_n hx hb dX10_add_16 rfl (lv_at hl 0 rfl) ?_
    refine th_getL (ci := 11) (C := RX10) (T := TX10) (N := 10) (v := .int y1) hx hb hts hinX10 hown hK hP hI 2 (mF 2 rfl) rfl rfl 5 (Nat.le_of_ble_eq_true rfl) (hts _ (vA_in _ _ (in_7 _ (zs16 (zs4 (zs4 (zs4 (zs1 (zs1 (zs0)))))))))) (fun _ h9 => h9) fy1 dX10_add_17 ?_
    refine lv_iload_n hx hb dX10_add_20 rfl (lv_at hl 1 rfl) ?_
    have n8 : vp_in y1 200 := (iv_in (n := 200) i7 (by decide))
    refine th_iastL hx hb hK hP (WL_D hD) hS hI 22 (mF 22 rfl) rfl rfl n8 (okI rfl (iv_all _)) dX10_add_21 (fun H locs E9 pw10 hI hP hS => ?_)
    have hKp := hKp.pw pw10 rfl
    refine lv_aload_n hx hb dX10_add_22 rfl (lv_at hl 0 rfl) ?_
    refine lv_dup hx hb dX10_add_23 rfl ?_
    refine th_getL (ci := 11) (C := RX10) (T := TX10) (N := 10) (v := .int y1) hx hb hts hinX10 hown hK hP hI 2 (mF 2 rfl) rfl rfl 5 (Nat.le_of_ble_eq_true rfl) (hts _ (vA_in _ _ (in_7 _ (zs16 (zs4 (zs4 (zs4 (zs1 (zs1 (zs0)))))))))) (fun _ h9 => h9) ((pw10.2 2 5 (fun q9 => absurd q9.1 (Nat.ne_of_beq_eq_false rfl))).trans fy1) dX10_add_24 ?_
    refine lv_iconst (v := 1) hx hb dX10_add_27 (by decide) ?_
    refine lv_iadd hx hb dX10_add_28 ?_
    refine lv_topi (fun y11 ey11 => ?_)
    obtain ⟨ty11, iy11⟩ := ti_add (e := 1) (f := 200) i7 ln_1 ey11 (by decide)
    have ty11 : y11.toInt = y1.toInt + 1 := ty11
    have iy11 : 1 ≤ y11.toInt ∧ y11.toInt ≤ 200 := iy11
    refine th_putL (ci := 11) (C := RX10) (T := TX10) (N := 10) (v := .int y11) (ty := .int) hx hb hts hinX10 tyX10 tyX10_ok nmX10 hown hK hP (WL_D hD) hS hI 2 (mF 2 rfl) rfl rfl 5 (Nat.le_of_ble_eq_true rfl) (hts _ (vA_in _ _ (in_7 _ (zs16 (zs4 (zs4 (zs4 (zs1 (zs1 (zs0)))))))))) (fun _ h9 => h9) rfl (by decide +kernel) rfl rfl (okI rfl (iv_w iy11 (by decide))) dX10_add_29 (fun H locs E12 pw13 hI hP hS => ?_)
    have hKp := hKp.pw pw13 rfl
    rw [hQ]
    exact W.vret hx hb hr (fun t ht hW => ⟨⟨E12, rfl, ⟨hI, hKp, ⟨by (try rw [(show xi (E12 2) 5 = y11 from vi_e pw13.1)]); (try rw [ey1]); all_goals omega, KS.kp hKp (fun _ => rfl) rfl rfl rfl, CD.push pw10 pw13 ey1 ty11 (by omega)⟩⟩, by show va_P (dC, dI) vwCl (WL (LC cf) ad E12) t.heap; rw [ht]; exact hP⟩, hS.F ht⟩) hS.2.2 dX10_add_32
def v_readNumberV : List Cond := .code yX10_readNumber cX10_readNumber 3 none :: vA
abbrev rm_readNumberV : Room := { frames := 1, cells := 0, slots := 0, locals := 40 }
def w_readNumberV : Nat → Nat → Bool := wl [22] [(2, 2), (2, 5)]
set_option maxHeartbeats 4000000 in
set_option maxRecDepth 100000 in
theorem q_readNumberV (l : Launch) (dC : Nat → ClassId) (dI : Nat → Nat → Nat) (cT : Nat → ClassId) (cf : Nat → Nat) (hC : CF cf) (ad : Nat → Nat) (E : Nat → va_E) (sz : Nat)  (hI0 : IXL cT (shC cf) (spC cf) (LC cf) ad E)  : Met l yX10_readNumber v_readNumberV rm_readNumberV (va_Pc [.ref (ad 2)] (HWL dC dI (TYC cT) cf ad E sz)) (va_Qv (S := Nat → va_E) (fun u => IXL cT (shC cf) (spC cf) (LC cf) ad u ∧ Kp w_readNumberV E u ∧ (((xi (E 2) 5).toInt ≤ (xi (u 2) 5).toInt) ∧ (RdC (fun t n a => numS false t n a) E u) ∧ (RdV (fun t n a => numS false t n a) E u))) (HBL dC dI (LC cf) ad) (va_A (WL (LC cf) ad E) sz)) 0 0 (va_A (WL (LC cf) ad E) sz) := by
  obtain ⟨⟨hc0, hc1, hc2, hc3, hc4, hc5⟩, hcr⟩ := id hC
  refine Met.ofW (cc := cX10_readNumber) (maxL := 3) (ret := none) (by decide) rfl ?_
  intro p e s m args below meth c s₁ B hml hv
  obtain ⟨hargs, hsz, hP, hK, hD0, hEV⟩ := hv
  subst hsz
  have hx := B.exec
  have hb := B.bytes
  have hr := B.returns
  have hts := atoms_spec (ws := v_readNumberV) B.pre
  have hown : s.vm.findClass RX10 = some m.cls := findClass_of_methodNamed B.named
  have hlocks := B.notSynchronized
  have hinX10 : ∀ w ∈ u_ws RX10 TX10 10, w ∈ v_readNumberV := fun w h => vA_in _ w (in_X10 w h)
  generalize hAe : va_A (WL (LC cf) ad E) s.heap.size = A at hEV ⊢
  have hA : ∀ q : Nat, s.heap.size ≤ q → A q := fun q h => by rw [← hAe]; exact Or.inr h
  have hD : va_D A (WL (LC cf) ad E) := by rw [← hAe]; exact hD0.self
  have hS : va_S A s.heap s.heap [] := va_S.rf
  have hI := hI0
  have hKp : Kp w_readNumberV E E := Kp.rf
  have hl := lv_entry ([.ref (ad 2)]) (n := 3) (Nat.le_of_ble_eq_true rfl)
  obtain ⟨Q, hQ⟩ : ∃ Q, Q = MQ below (va_Qv (S := Nat → va_E) (fun u => IXL cT (shC cf) (spC cf) (LC cf) ad u ∧ Kp w_readNumberV E u ∧ (((xi (E 2) 5).toInt ≤ (xi (u 2) 5).toInt) ∧ (RdC (fun t n a => numS false t n a) E u) ∧ (RdV (fun t n a => numS false t n a) E u))) (HBL dC dI (LC cf) ad) (A)) args s 0 0 (A) := ⟨_, rfl⟩
  rw [← hQ, show entryFrame m args 3 = _ from (congrArg (fun z => entryFrame m z 3) hargs).trans (lg_entry_eq _ _ _)]
  generalize (lg_sl ([.ref (ad 2)]) ++ List.replicate (3 - (lg_sl ([.ref (ad 2)])).length) Slot.unset).toArray = ls at hl ⊢
  have hl : lv_has ls 3 [(0, .ref (ad 2))] := hl
  obtain ⟨y1, ey1⟩ : ∃ y, xi (E 2) 5 = y := ⟨_, rfl⟩
  have fy1 : xv (E 2) 5 = .int y1 := (hI.fi 2 (mF 2 rfl) rfl (Nat.le_of_ble_eq_true rfl) rfl).trans (congrArg Value.int ey1)
  have i2 : 0 ≤ y1.toInt ∧ y1.toInt ≤ 200 := by rw [← ey1]; exact hI.iv 2 (mF 2 rfl) rfl (Nat.le_of_ble_eq_true rfl) rfl
  obtain ⟨y3, ey3⟩ : ∃ y, xi (E 2) 2 = y := ⟨_, rfl⟩
  have fy3 : xv (E 2) 2 = .int y3 := (hI.fi 2 (mF 2 rfl) rfl (Nat.le_of_ble_eq_true rfl) rfl).trans (congrArg Value.int ey3)
  have i4 : 0 ≤ y3.toInt ∧ y3.toInt ≤ 200 := by rw [← ey3]; exact hI.iv 2 (mF 2 rfl) rfl (Nat.le_of_ble_eq_true rfl) rfl
  refine lv_iconst (v := 0) hx hb dX10_readNumber_0 (by decide) ?_
  refine lv_istore_n (lv' := [(1, .int 0), (0, .ref (ad 2))]) hx hb dX10_readNumber_1 rfl hl (by decide) rfl (fun ls hl => ?_)
  refine lv_iconst (v := 0) hx hb dX10_readNumber_2 (by decide) ?_
  refine lv_istore_n (lv' := [(2, .int 0), (1, .int 0), (0, .ref (ad 2))]) hx hb dX10_readNumber_3 rfl hl (by decide) rfl (fun ls hl => ?_)
  have hL4 : ∀ d : Nat, ∀ (w4_2_2 : Int32) (v4_2 : Int32) (v4_1 : Int32) (E4_ : Nat → va_E) (H : Heap) (locs : List Loc) (ls : Array Slot), 0 ≤ w4_2_2.toInt ∧ w4_2_2.toInt ≤ 200 → 0 ≤ v4_2.toInt ∧ v4_2.toInt ≤ 5 → NumI v4_2 E E4_ → NumW v4_2 v4_1 E E4_ → SZ E E4_ → 5 - v4_2.toInt < (d : Int) → IXL cT (shC cf) (spC cf) (LC cf) ad E4_ → Kp w_readNumberV E E4_ → xv (E4_ 2) 2 = .int w4_2_2 → xv (E4_ 2) 5 = .int y1 → va_P (dC, dI) vwCl (WL (LC cf) ad E4_) H → va_S A s.heap H locs → lv_has ls 3 [(2, .int v4_2), (1, .int v4_1), (0, .ref (ad 2))] → W p l e (headSpec v_readNumberV rm_readNumberV).room s m args below meth c H locs 0 0 Q (F0 m 4 ls []) := by
    intro d
    induction d with
    | zero =>
      intro w4_2_2 v4_2 v4_1 E4_ H locs ls hw4_2_2 hv4_2 hx4_0 hx4_1 hx4_2 hx4_3 hI hKp hs4_2_2 hs4_2_5 hP hS hl
      exact absurd hx4_3 (by first | exact ms_zu hv4_2.2 | omega)
    | succ d ih4 =>
      intro w4_2_2 v4_2 v4_1 E4_ H locs ls hw4_2_2 hv4_2 hx4_0 hx4_1 hx4_2 hx4_3 hI hKp hs4_2_2 hs4_2_5 hP hS hl
      refine lv_iload_n hx hb dX10_readNumber_4 rfl (lv_at hl 0 rfl) ?_
      refine lv_iconst (v := 5) hx hb dX10_readNumber_5 (by decide) ?_
      refine lv_icmp_ge (tgt := 69) hx hb dX10_readNumber_6 (by decide) (fun c5 => ?_) (fun c5 => ?_)
      · --6 taken
        have t6 : (5 : Int) ≤ v4_2.toInt := ti_le c5
        have i7 : 5 ≤ v4_2.toInt ∧ v4_2.toInt ≤ 5 := iv_le_r t6 (il_ 5) hv4_2 (by decide)
        refine lv_aload_n hx hb dX10_readNumber_69 rfl (lv_at hl 2 rfl) ?_
        refine lv_iload_n hx hb dX10_readNumber_70 rfl (lv_at hl 1 rfl) ?_
        refine th_vL (va_runV (As := [.int v4_1]) (rest := []) ⟨hx, hb, hml, hown, hts⟩ (q_addV l dC dI cT cf hC ad E4_ H.size v4_1 hI) (cwV 1 hts (gi_V (in_9 _ (zs4 (zs1 (zs1 (zs1 (zs0)))))) (in_9 _ (zs4 (zs4 (zs0)))) (in_9 _ (zs4 (zs4 (zs1 (zs0))))) (in_8 _ (zs4 (zs4 (zs4 (zs1 (zs1 (zs0))))))) (in_7 _ (zs16 (zs4 (zs4 (zs4 (zs1 (zs0)))))))) rfl rfl rfl ⟨rfl, hz_yX10_add_1⟩ ⟨Nat.le_of_ble_eq_true rfl, Nat.le_of_ble_eq_true rfl⟩) ⟨HWL_bl, va_recv hK hP (ci := 11) (q0 := posL 2 (LC cf)) rfl (hI.ob 2 (mF 2 rfl) rfl), (HWL_wi hP hK (WL_D hD) hS hA hEV)⟩ rfl rfl hl.1 rfl (lv_room (Nat.le_of_ble_eq_true rfl)) dX10_readNumber_71 ⟨Nat.le_of_ble_eq_true rfl, Nat.le_of_ble_eq_true rfl⟩) (WL_D hD) hS hA (fun E9 H locs hw hP hS => ?_)
        obtain ⟨hI, kq10, hw⟩ := hw
        have hKb := hKp
        have hKp := hKp.tr kq10 (wl_sub rfl rfl)
        obtain ⟨y11, ey11⟩ : ∃ y, xi (E9 2) 5 = y := ⟨_, rfl⟩
        have fy11 : xv (E9 2) 5 = .int y11 := (hI.fi 2 (mF 2 rfl) rfl (Nat.le_of_ble_eq_true rfl) rfl).trans (congrArg Value.int ey11)
        have i12 : 0 ≤ y11.toInt ∧ y11.toInt ≤ 200 := by rw [← ey11]; exact hI.iv 2 (mF 2 rfl) rfl (Nat.le_of_ble_eq_true rfl) rfl
        obtain ⟨f13, f14, f15⟩ := hw
        try rw [(show xi (E4_ 2) 5 = y1 from vi_e hs4_2_5)] at f13
        try rw [(show xi (E9 2) 5 = y11 from vi_e fy11)] at f13
        rw [hQ]
        exact W.vret hx hb hr (fun t ht hW => ⟨⟨E9, rfl, ⟨hI, hKp, ⟨by (try rw [(show xi (E9 2) 5 = y11 from vi_e fy11)]); (try rw [ey1]); (try rw [ey3]); all_goals omega, NumI.out hx4_0 f14 (Or.inl (by omega)), NumW.out hx4_1 hx4_2 f14 f15 (Or.inl (by omega))⟩⟩, by show va_P (dC, dI) vwCl (WL (LC cf) ad E9) t.heap; rw [ht]; exact hP⟩, hS.F ht⟩) hS.2.2 dX10_readNumber_74
      · --6 not
        have t16 : v4_2.toInt < 5 := ti_nle c5
        have i17 : 0 ≤ v4_2.toInt ∧ v4_2.toInt ≤ 4 := iv_lt_l t16 hv4_2 (il_ 5) (by decide)
        refine lv_aload_n hx hb dX10_readNumber_9 rfl (lv_at hl 2 rfl) ?_
        refine th_getL (ci := 11) (C := RX10) (T := TX10) (N := 10) (v := .int w4_2_2) hx hb hts hinX10 hown hK hP hI 2 (mF 2 rfl) rfl rfl 2 (Nat.le_of_ble_eq_true rfl) (hts _ (vA_in _ _ (in_8 _ (zs4 (zs4 (zs1 (zs0))))))) (fun _ h9 => h9) hs4_2_2 dX10_readNumber_10 ?_
        refine lv_aload_n hx hb dX10_readNumber_13 rfl (lv_at hl 2 rfl) ?_
        have i18 : 0 ≤ (xi (E 2) 1).toInt ∧ (xi (E 2) 1).toInt ≤ 200 := hI0.iv 2 (mF 2 rfl) rfl (Nat.le_of_ble_eq_true rfl) rfl
        refine th_getL (ci := 11) (C := RX10) (T := TX10) (N := 10) (v := .int (xi (E 2) 1)) hx hb hts hinX10 hown hK hP hI 2 (mF 2 rfl) rfl rfl 1 (Nat.le_of_ble_eq_true rfl) (hts _ (vA_in _ _ (in_8 _ (zs16 (zs4 (zs0)))))) (fun _ h9 => h9) (th_v0L hKp hI0 2 (mF 2 rfl) rfl (Nat.le_of_ble_eq_true rfl) rfl rfl) dX10_readNumber_14 ?_
        refine lv_icmp_ge (tgt := 69) hx hb dX10_readNumber_17 (by decide) (fun c19 => ?_) (fun c19 => ?_)
        · --17 taken
          have t20 : (xi (E 2) 1).toInt ≤ w4_2_2.toInt := ti_le c19
          refine lv_aload_n hx hb dX10_readNumber_69 rfl (lv_at hl 2 rfl) ?_
          refine lv_iload_n hx hb dX10_readNumber_70 rfl (lv_at hl 1 rfl) ?_
          refine th_vL (va_runV (As := [.int v4_1]) (rest := []) ⟨hx, hb, hml, hown, hts⟩ (q_addV l dC dI cT cf hC ad E4_ H.size v4_1 hI) (cwV 1 hts (gi_V (in_9 _ (zs4 (zs1 (zs1 (zs1 (zs0)))))) (in_9 _ (zs4 (zs4 (zs0)))) (in_9 _ (zs4 (zs4 (zs1 (zs0))))) (in_8 _ (zs4 (zs4 (zs4 (zs1 (zs1 (zs0))))))) (in_7 _ (zs16 (zs4 (zs4 (zs4 (zs1 (zs0)))))))) rfl rfl rfl ⟨rfl, hz_yX10_add_1⟩ ⟨Nat.le_of_ble_eq_true rfl, Nat.le_of_ble_eq_true rfl⟩) ⟨HWL_bl, va_recv hK hP (ci := 11) (q0 := posL 2 (LC cf)) rfl (hI.ob 2 (mF 2 rfl) rfl), (HWL_wi hP hK (WL_D hD) hS hA hEV)⟩ rfl rfl hl.1 rfl (lv_room (Nat.le_of_ble_eq_true rfl)) dX10_readNumber_71 ⟨Nat.le_of_ble_eq_true rfl, Nat.le_of_ble_eq_true rfl⟩) (WL_D hD) hS hA (fun E22 H locs hw hP hS => ?_)
          obtain ⟨hI, kq23, hw⟩ := hw
          have hKb := hKp
          have hKp := hKp.tr kq23 (wl_sub rfl rfl)
          obtain ⟨y24, ey24⟩ : ∃ y, xi (E22 2) 5 = y := ⟨_, rfl⟩
          have fy24 : xv (E22 2) 5 = .int y24 := (hI.fi 2 (mF 2 rfl) rfl (Nat.le_of_ble_eq_true rfl) rfl).trans (congrArg Value.int ey24)
          have i25 : 0 ≤ y24.toInt ∧ y24.toInt ≤ 200 := by rw [← ey24]; exact hI.iv 2 (mF 2 rfl) rfl (Nat.le_of_ble_eq_true rfl) rfl
          obtain ⟨f26, f27, f28⟩ := hw
          try rw [(show xi (E4_ 2) 5 = y1 from vi_e hs4_2_5)] at f26
          try rw [(show xi (E22 2) 5 = y24 from vi_e fy24)] at f26
          rw [hQ]
          exact W.vret hx hb hr (fun t ht hW => ⟨⟨E22, rfl, ⟨hI, hKp, ⟨by (try rw [(show xi (E22 2) 5 = y24 from vi_e fy24)]); (try rw [ey1]); (try rw [ey3]); all_goals omega, NumI.out hx4_0 f27 (Or.inr (fun q9 => by obtain ⟨q8, q7⟩ := q9; have ka := tA_e hs4_2_2 (by omega); have kl := tN_e (E := E) (by omega); unfold dgt at q7; omega)), NumW.out hx4_1 hx4_2 f27 f28 (Or.inr (fun q9 => by obtain ⟨q8, q7⟩ := q9; have ka := tA_e hs4_2_2 (by omega); have kl := tN_e (E := E) (by omega); unfold dgt at q7; omega))⟩⟩, by show va_P (dC, dI) vwCl (WL (LC cf) ad E22) t.heap; rw [ht]; exact hP⟩, hS.F ht⟩) hS.2.2 dX10_readNumber_74
        · --17 not
          have t29 : w4_2_2.toInt < (xi (E 2) 1).toInt := ti_nle c19
          have i30 : 0 ≤ w4_2_2.toInt ∧ w4_2_2.toInt ≤ 199 := iv_lt_l t29 hw4_2_2 i18 (by decide)
          have i31 : 1 ≤ (xi (E 2) 1).toInt ∧ (xi (E 2) 1).toInt ≤ 200 := iv_lt_r t29 hw4_2_2 i18 (by decide)
          refine lv_aload_n hx hb dX10_readNumber_20 rfl (lv_at hl 2 rfl) ?_
          refine th_getL (ci := 11) (C := RX10) (T := TX10) (N := 10) (v := .ref (ad 21)) hx hb hts hinX10 hown hK hP hI 2 (mF 2 rfl) rfl rfl 0 (Nat.le_of_ble_eq_true rfl) (hts _ (vA_in _ _ (in_8 _ (zs16 (zs1 (zs0)))))) (fun _ h9 => h9) (hI.fr 2 (mF 2 rfl) rfl (Nat.le_of_ble_eq_true rfl) 21 rfl) dX10_readNumber_21 ?_
          refine lv_aload_n hx hb dX10_readNumber_24 rfl (lv_at hl 2 rfl) ?_
          refine th_getL (ci := 11) (C := RX10) (T := TX10) (N := 10) (v := .int w4_2_2) hx hb hts hinX10 hown hK hP hI 2 (mF 2 rfl) rfl rfl 2 (Nat.le_of_ble_eq_true rfl) (hts _ (vA_in _ _ (in_8 _ (zs4 (zs4 (zs1 (zs0))))))) (fun _ h9 => h9) hs4_2_2 dX10_readNumber_25 ?_
          have n33 : vp_in w4_2_2 200 := (iv_in (n := 200) i30 (by decide))
          refine th_ialdL hx hb hK hP hI 21 (mF 21 rfl) rfl rfl n33 dX10_readNumber_28 (fun y32 ey32 => ?_)
          have iy32 : 0 ≤ y32.toInt ∧ y32.toInt ≤ 255 := hI.el 21 (mF 21 rfl) rfl n33 (fun _ => rfl) ey32
          have ey32 := ey32.trans (hKp.ei 21 _ rfl)
          refine th_pi (va_runS (As := [.int y32]) (rest := []) ⟨hx, hb, hml, hown, hts⟩ (q_cisDigit l y32) (va_cwS 1 hts (gi_S (in_9 _ (zs4 (zs4 (zs1 (zs1 (zs1 (zs0))))))) (in_9 _ (zs4 (zs4 (zs4 (zs0))))) (in_8 _ (zs4 (zs4 (zs4 (zs1 (zs1 (zs0))))))) (in_8 _ (zs16 (zs1 (zs1 (zs0)))))) rfl rfl rfl hz_yX10_isDigit_1 ⟨Nat.le_of_ble_eq_true rfl, Nat.le_of_ble_eq_true rfl⟩) ⟨fun _ _ _ _ q => q, fun _ _ _ => ⟨rfl, trivial⟩⟩ rfl rfl hl.1 rfl (lv_room (Nat.le_of_ble_eq_true rfl)) dX10_readNumber_29 ⟨Nat.le_of_ble_eq_true rfl, Nat.le_of_ble_eq_true rfl⟩) hS (fun r34 H1 locs1 hw hk1 hS => ?_)
          have hP := ub_keep hP hk1
          generalize H1 = H at hP hS ⊢
          generalize locs1 = locs at hS ⊢
          rcases hw with hw | hw
          · -- cisDigit, case 0
            obtain ⟨rfl, f35⟩ := hw
            refine lv_if_eq (tgt := 69) hx hb dX10_readNumber_32 (by decide) (fun c36 => ?_) (fun c36 => ?_)
            · --32 taken
              exact absurd c36 (by decide)
            · --32 not
              refine lv_iload_n hx hb dX10_readNumber_35 rfl (lv_at hl 1 rfl) ?_
              refine lv_bipush (v := 10) hx hb dX10_readNumber_36 (by decide) ?_
              refine lv_imul hx hb dX10_readNumber_38 ?_
              refine lv_topi (fun y37 ey37 => ?_)
              refine lv_aload_n hx hb dX10_readNumber_39 rfl (lv_at hl 2 rfl) ?_
              refine th_getL (ci := 11) (C := RX10) (T := TX10) (N := 10) (v := .ref (ad 21)) hx hb hts hinX10 hown hK hP hI 2 (mF 2 rfl) rfl rfl 0 (Nat.le_of_ble_eq_true rfl) (hts _ (vA_in _ _ (in_8 _ (zs16 (zs1 (zs0)))))) (fun _ h9 => h9) (hI.fr 2 (mF 2 rfl) rfl (Nat.le_of_ble_eq_true rfl) 21 rfl) dX10_readNumber_40 ?_
              refine lv_aload_n hx hb dX10_readNumber_43 rfl (lv_at hl 2 rfl) ?_
              refine th_getL (ci := 11) (C := RX10) (T := TX10) (N := 10) (v := .int w4_2_2) hx hb hts hinX10 hown hK hP hI 2 (mF 2 rfl) rfl rfl 2 (Nat.le_of_ble_eq_true rfl) (hts _ (vA_in _ _ (in_8 _ (zs4 (zs4 (zs1 (zs0))))))) (fun _ h9 => h9) hs4_2_2 dX10_readNumber_44 ?_
              have n39 : vp_in w4_2_2 200 := (iv_in (n := 200) i30 (by decide))
              refine th_ialdL hx hb hK hP hI 21 (mF 21 rfl) rfl rfl n39 dX10_readNumber_47 (fun y38 ey38 => ?_)
              have iy38 : 0 ≤ y38.toInt ∧ y38.toInt ≤ 255 := hI.el 21 (mF 21 rfl) rfl n39 (fun _ => rfl) ey38
              have ey38 := ey38.trans (hKp.ei 21 _ rfl)
              refine lv_iadd hx hb dX10_readNumber_48 ?_
              refine lv_topi (fun y40 ey40 => ?_)
              refine lv_bipush (v := 48) hx hb dX10_readNumber_49 (by decide) ?_
              refine lv_isub hx hb dX10_readNumber_51 ?_
              refine lv_topi (fun y41 ey41 => ?_)
              refine lv_istore_n (lv' := [(1, .int y41), (2, .int v4_2), (0, .ref (ad 2))]) hx hb dX10_readNumber_52 rfl hl (by decide) rfl (fun ls hl => ?_)
              obtain ⟨y42, ey42⟩ : ∃ y : Int32, y = v4_2 + (1 : Int32) := ⟨_, rfl⟩
              obtain ⟨ty42, iy42⟩ := ti_add (e := 1) (f := 5) i17 ln_1 ey42 (by decide)
              have ty42 : y42.toInt = v4_2.toInt + 1 := ty42
              have iy42 : 1 ≤ y42.toInt ∧ y42.toInt ≤ 5 := iy42
              refine lv_iinc (v := y42) (lv' := [(2, .int y42), (1, .int y41), (0, .ref (ad 2))]) hx hb dX10_readNumber_53 hl (k := 1) rfl (by rw [ey42]; rfl) (by decide) rfl (fun ls hl => ?_)
              refine lv_aload_n hx hb dX10_readNumber_56 rfl (lv_at hl 2 rfl) ?_
              refine lv_dup hx hb dX10_readNumber_57 rfl ?_
              refine th_getL (ci := 11) (C := RX10) (T := TX10) (N := 10) (v := .int w4_2_2) hx hb hts hinX10 hown hK hP hI 2 (mF 2 rfl) rfl rfl 2 (Nat.le_of_ble_eq_true rfl) (hts _ (vA_in _ _ (in_8 _ (zs4 (zs4 (zs1 (zs0))))))) (fun _ h9 => h9) hs4_2_2 dX10_readNumber_58 ?_
              refine lv_iconst (v := 1) hx hb dX10_readNumber_61 (by decide) ?_
              refine lv_iadd hx hb dX10_readNumber_62 ?_
              refine lv_topi (fun y43 ey43 => ?_)
              obtain ⟨ty43, iy43⟩ := ti_add (e := 1) (f := 200) i30 ln_1 ey43 (by decide)
              have ty43 : y43.toInt = w4_2_2.toInt + 1 := ty43
              have iy43 : 1 ≤ y43.toInt ∧ y43.toInt ≤ 200 := iy43
              refine th_putL (ci := 11) (C := RX10) (T := TX10) (N := 10) (v := .int y43) (ty := .int) hx hb hts hinX10 tyX10 tyX10_ok nmX10 hown hK hP (WL_D hD) hS hI 2 (mF 2 rfl) rfl rfl 2 (Nat.le_of_ble_eq_true rfl) (hts _ (vA_in _ _ (in_8 _ (zs4 (zs4 (zs1 (zs0))))))) (fun _ h9 => h9) rfl (by decide +kernel) rfl rfl (okI rfl (iv_w iy43 (by decide))) dX10_readNumber_63 (fun H locs E44 pw45 hI hP hS => ?_)
              have hKp := hKp.pw pw45 rfl
              have k46 : AtP E4_ E44 := AtP.pw pw45.2 (vi_e hs4_2_2) (vi_e pw45.1) ty43 (by omega)
              have k47 : SZ E4_ E44 := SZ.pw pw45 (by decide) (fun _ => by decide)
              refine lv_goto (tgt := 4) hx hb dX10_readNumber_66 (by decide) ?_
              exact ih4 y43 y42 y41 E44 _ _ _ (iv_w iy43 (by decide)) (iv_w iy42 (by decide)) (NumI.step hx4_0 k46 (by have ka := tA_e hs4_2_2 (by omega); have kl := tN_e (E := E) (by omega); omega) (by rw [tT_e (E := E) hs4_2_2 ey32]; exact ⟨by omega, by omega⟩) (by omega) ty42) (NumW.step hx4_1 k46 (by have ka := tA_e hs4_2_2 (by omega); have kl := tN_e (E := E) (by omega); omega) (tT_e (E := E) hs4_2_2 ey38) (by rw [show y38 = y32 from ey38.trans ey32.symm]; exact ⟨by omega, by omega⟩) (by omega) ty42 ey37 ey40 ey41) (hx4_2.tr k47) (by first | exact ms_su hx4_3 ty42 (by decide) | omega) hI hKp pw45.1 ((pw45.2 2 5 (fun q9 => absurd q9.2 (Nat.ne_of_beq_eq_false rfl))).trans hs4_2_5) hP hS (lv_sub hl [0, 1, 2] rfl)
          · -- cisDigit, case 1
            obtain ⟨rfl, f48⟩ := hw
            refine lv_if_eq (tgt := 69) hx hb dX10_readNumber_32 (by decide) (fun c49 => ?_) (fun c49 => ?_)
            · --32 taken
              refine lv_aload_n hx hb dX10_readNumber_69 rfl (lv_at hl 2 rfl) ?_
              refine lv_iload_n hx hb dX10_readNumber_70 rfl (lv_at hl 1 rfl) ?_
              refine th_vL (va_runV (As := [.int v4_1]) (rest := []) ⟨hx, hb, hml, hown, hts⟩ (q_addV l dC dI cT cf hC ad E4_ H.size v4_1 hI) (cwV 1 hts (gi_V (in_9 _ (zs4 (zs1 (zs1 (zs1 (zs0)))))) (in_9 _ (zs4 (zs4 (zs0)))) (in_9 _ (zs4 (zs4 (zs1 (zs0))))) (in_8 _ (zs4 (zs4 (zs4 (zs1 (zs1 (zs0))))))) (in_7 _ (zs16 (zs4 (zs4 (zs4 (zs1 (zs0)))))))) rfl rfl rfl ⟨rfl, hz_yX10_add_1⟩ ⟨Nat.le_of_ble_eq_true rfl, Nat.le_of_ble_eq_true rfl⟩) ⟨HWL_bl, va_recv hK hP (ci := 11) (q0 := posL 2 (LC cf)) rfl (hI.ob 2 (mF 2 rfl) rfl), (HWL_wi hP hK (WL_D hD) hS hA hEV)⟩ rfl rfl hl.1 rfl (lv_room (Nat.le_of_ble_eq_true rfl)) dX10_readNumber_71 ⟨Nat.le_of_ble_eq_true rfl, Nat.le_of_ble_eq_true rfl⟩) (WL_D hD) hS hA (fun E51 H locs hw hP hS => ?_)
              obtain ⟨hI, kq52, hw⟩ := hw
              have hKb := hKp
              have hKp := hKp.tr kq52 (wl_sub rfl rfl)
              obtain ⟨y53, ey53⟩ : ∃ y, xi (E51 2) 5 = y := ⟨_, rfl⟩
              have fy53 : xv (E51 2) 5 = .int y53 := (hI.fi 2 (mF 2 rfl) rfl (Nat.le_of_ble_eq_true rfl) rfl).trans (congrArg Value.int ey53)
              have i54 : 0 ≤ y53.toInt ∧ y53.toInt ≤ 200 := by rw [← ey53]; exact hI.iv 2 (mF 2 rfl) rfl (Nat.le_of_ble_eq_true rfl) rfl
              obtain ⟨f55, f56, f57⟩ := hw
              try rw [(show xi (E4_ 2) 5 = y1 from vi_e hs4_2_5)] at f55
              try rw [(show xi (E51 2) 5 = y53 from vi_e fy53)] at f55
              rw [hQ]
              exact W.vret hx hb hr (fun t ht hW => ⟨⟨E51, rfl, ⟨hI, hKp, ⟨by (try rw [(show xi (E51 2) 5 = y53 from vi_e fy53)]); (try rw [ey1]); (try rw [ey3]); all_goals omega, NumI.out hx4_0 f56 (Or.inr (fun q9 => by obtain ⟨q8, q7⟩ := q9; have ka := tA_e hs4_2_2 (by omega); have kl := tN_e (E := E) (by omega); have by32 := tT_e (E := E) hs4_2_2 ey32; unfold dgt at q7; omega)), NumW.out hx4_1 hx4_2 f56 f57 (Or.inr (fun q9 => by obtain ⟨q8, q7⟩ := q9; have ka := tA_e hs4_2_2 (by omega); have kl := tN_e (E := E) (by omega); have by32 := tT_e (E := E) hs4_2_2 ey32; unfold dgt at q7; omega))⟩⟩, by show va_P (dC, dI) vwCl (WL (LC cf) ad E51) t.heap; rw [ht]; exact hP⟩, hS.F ht⟩) hS.2.2 dX10_readNumber_74
            · --32 not
              exact absurd c49 (by decide)
  exact hL4 (6) y3 (0 : Int32) (0 : Int32) E _ _ _ i4 (iv_w ln_0 (by decide)) NumI.rf NumW.rf SZ.rf (by have h9 := ln_0; first | exact ms_bu h9.1 (by decide) | omega) hI hKp fy3 fy1 hP hS (lv_sub hl [0, 1, 2] rfl)
def v_casLetterX : List Cond := .code yX7_asLetter cX7_asLetter 1 (some .int) :: vA
abbrev rm_casLetterX : Room := { frames := 0, cells := 0, slots := 0, locals := 0 }
set_option maxHeartbeats 4000000 in
set_option maxRecDepth 100000 in
theorem q_casLetterX (l : Launch) (a0 : Int32)  : Met l yX7_asLetter v_casLetterX rm_casLetterX (va_Pc [.int a0] (fun _ => True)) (va_Qi (S := Unit) (fun r _ => (r.toInt = -1 - a0.toInt)) (fun _ _ => True) (fun _ => False)) 0 0 (fun _ => False) := by
  refine Met.ofW (cc := cX7_asLetter) (maxL := 1) (ret := (some .int)) (by decide) rfl ?_
  intro p e s m args below meth c s₁ B hml hv
  obtain ⟨hargs, -⟩ := hv
  have hx := B.exec
  have hb := B.bytes
  have hr := B.returns
  have hts := atoms_spec (ws := v_casLetterX) B.pre
  have hown : s.vm.findClass RX7 = some m.cls := findClass_of_methodNamed B.named
  have hlocks := B.notSynchronized
  have hS : va_S (fun _ : Nat => False) s.heap s.heap [] := va_S.rf
  have hl := lv_entry ([.int a0]) (n := 1) (Nat.le_of_ble_eq_true rfl)
  obtain ⟨Q, hQ⟩ : ∃ Q, Q = MQ below (va_Qi (S := Unit) (fun r _ => (r.toInt = -1 - a0.toInt)) (fun _ _ => True) (fun _ => False)) args s 0 0 (fun _ => False) := ⟨_, rfl⟩
  rw [← hQ, show entryFrame m args 1 = _ from (congrArg (fun z => entryFrame m z 1) hargs).trans (lg_entry_eq _ _ _)]
  generalize (lg_sl ([.int a0]) ++ List.replicate (1 - (lg_sl ([.int a0])).length) Slot.unset).toArray = ls at hl ⊢
  have hl : lv_has ls 1 [(0, .int a0)] := hl
  refine lv_iconst (v := -1) hx hb dX7_asLetter_0 (by decide) ?_
  refine lv_iload_n hx hb dX7_asLetter_1 rfl (lv_at hl 0 rfl) ?_
  refine lv_isub hx hb dX7_asLetter_2 ?_
  refine lv_topi (fun y1 ey1 => ?_)
  obtain ⟨ty1, iy1⟩ := ti_sub (e := (-2147483648)) (f := 2147483647) ln_m1 (iv_all _) ey1 (by decide)
  have ty1 : y1.toInt = -1 - a0.toInt := ty1
  have iy1 : -2147483648 ≤ y1.toInt ∧ y1.toInt ≤ 2147483647 := iy1
  rw [hQ]
  exact W.iret (v := y1) hx hb hr (fun t ht hW => ⟨⟨y1, (), rfl, (by all_goals omega), trivial⟩, hS.F ht⟩) hS.2.2 dX7_asLetter_3
def v_readAtomV : List Cond := .code yX10_readAtom cX10_readAtom 3 none :: vA
abbrev rm_readAtomV (n : Nat) : Room := { frames := 7 * n + 7, cells := 0, slots := 0, locals := 40 * (7 * n + 7) }
def w_readAtomV : Nat → Nat → Bool := wl [22] [(2, 2), (2, 3), (2, 5)]
def C_readAtomV (l : Launch) (n : Nat) : Prop := ∀ (dC : Nat → ClassId) (dI : Nat → Nat → Nat) (cT : Nat → ClassId) (cf : Nat → Nat) (hC : CF cf) (ad : Nat → Nat) (E : Nat → va_E) (sz : Nat) (a0 : Int32) (hI0 : IXL cT (shC cf) (spC cf) (LC cf) ad E) (hh0 : 0 ≤ a0.toInt ∧ a0.toInt ≤ 8) (hh1 : a0.toInt + (n : Int) = 8), Met l yX10_readAtom v_readAtomV (rm_readAtomV n) (va_Pc [.ref (ad 2), .int a0] (HWL dC dI (TYC cT) cf ad E sz)) (va_Qv (S := Nat → va_E) (fun u => IXL cT (shC cf) (spC cf) (LC cf) ad u ∧ Kp w_readAtomV E u ∧ (((xi (E 2) 5).toInt ≤ (xi (u 2) 5).toInt) ∧ (RdC (fun t m a => atomS false t m n a) E u) ∧ (RdV (fun t m a => atomS false t m n a) E u))) (HBL dC dI (LC cf) ad) (va_A (WL (LC cf) ad E) sz)) 0 0 (va_A (WL (LC cf) ad E) sz)
def v_readTermV : List Cond := .code yX10_readTerm cX10_readTerm 4 none :: vA
abbrev rm_readTermV (n : Nat) : Room := { frames := 7 * n + 8, cells := 0, slots := 0, locals := 40 * (7 * n + 8) }
def w_readTermV : Nat → Nat → Bool := wl [22] [(2, 2), (2, 3), (2, 5)]
def C_readTermV (l : Launch) (n : Nat) : Prop := ∀ (dC : Nat → ClassId) (dI : Nat → Nat → Nat) (cT : Nat → ClassId) (cf : Nat → Nat) (hC : CF cf) (ad : Nat → Nat) (E : Nat → va_E) (sz : Nat) (a0 : Int32) (hI0 : IXL cT (shC cf) (spC cf) (LC cf) ad E) (hh0 : 0 ≤ a0.toInt ∧ a0.toInt ≤ 8) (hh1 : a0.toInt + (n : Int) = 8), Met l yX10_readTerm v_readTermV (rm_readTermV n) (va_Pc [.ref (ad 2), .int a0] (HWL dC dI (TYC cT) cf ad E sz)) (va_Qv (S := Nat → va_E) (fun u => IXL cT (shC cf) (spC cf) (LC cf) ad u ∧ Kp w_readTermV E u ∧ (((xi (E 2) 5).toInt ≤ (xi (u 2) 5).toInt) ∧ (RdC (fun t m a => termS false t m n a) E u) ∧ (RdV (fun t m a => termS false t m n a) E u))) (HBL dC dI (LC cf) ad) (va_A (WL (LC cf) ad E) sz)) 0 0 (va_A (WL (LC cf) ad E) sz)
def v_readSumV : List Cond := .code yX10_readSum cX10_readSum 4 none :: vA
abbrev rm_readSumV (n : Nat) : Room := { frames := 7 * n + 9, cells := 0, slots := 0, locals := 40 * (7 * n + 9) }
def w_readSumV : Nat → Nat → Bool := wl [22] [(2, 2), (2, 3), (2, 5)]
def C_readSumV (l : Launch) (n : Nat) : Prop := ∀ (dC : Nat → ClassId) (dI : Nat → Nat → Nat) (cT : Nat → ClassId) (cf : Nat → Nat) (hC : CF cf) (ad : Nat → Nat) (E : Nat → va_E) (sz : Nat) (a0 : Int32) (hI0 : IXL cT (shC cf) (spC cf) (LC cf) ad E) (hh0 : 0 ≤ a0.toInt ∧ a0.toInt ≤ 8) (hh1 : a0.toInt + (n : Int) = 8), Met l yX10_readSum v_readSumV (rm_readSumV n) (va_Pc [.ref (ad 2), .int a0] (HWL dC dI (TYC cT) cf ad E sz)) (va_Qv (S := Nat → va_E) (fun u => IXL cT (shC cf) (spC cf) (LC cf) ad u ∧ Kp w_readSumV E u ∧ (((xi (E 2) 5).toInt ≤ (xi (u 2) 5).toInt) ∧ (RdC (fun t m a => sumS false t m n a) E u) ∧ (RdV (fun t m a => sumS false t m n a) E u))) (HBL dC dI (LC cf) ad) (va_A (WL (LC cf) ad E) sz)) 0 0 (va_A (WL (LC cf) ad E) sz)
def v_readComparisonV : List Cond := .code yX10_readComparison cX10_readComparison 3 none :: vA
abbrev rm_readComparisonV (n : Nat) : Room := { frames := 7 * n + 10, cells := 0, slots := 0, locals := 40 * (7 * n + 10) }
def w_readComparisonV : Nat → Nat → Bool := wl [22] [(2, 2), (2, 3), (2, 5)]
def C_readComparisonV (l : Launch) (n : Nat) : Prop := ∀ (dC : Nat → ClassId) (dI : Nat → Nat → Nat) (cT : Nat → ClassId) (cf : Nat → Nat) (hC : CF cf) (ad : Nat → Nat) (E : Nat → va_E) (sz : Nat) (a0 : Int32) (hI0 : IXL cT (shC cf) (spC cf) (LC cf) ad E) (hh0 : 0 ≤ a0.toInt ∧ a0.toInt ≤ 8) (hh1 : a0.toInt + (n : Int) = 8), Met l yX10_readComparison v_readComparisonV (rm_readComparisonV n) (va_Pc [.ref (ad 2), .int a0] (HWL dC dI (TYC cT) cf ad E sz)) (va_Qv (S := Nat → va_E) (fun u => IXL cT (shC cf) (spC cf) (LC cf) ad u ∧ Kp w_readComparisonV E u ∧ (((xi (E 2) 5).toInt ≤ (xi (u 2) 5).toInt) ∧ (RdC (fun t m a => cmpS false t m n a) E u) ∧ (RdV (fun t m a => cmpS false t m n a) E u))) (HBL dC dI (LC cf) ad) (va_A (WL (LC cf) ad E) sz)) 0 0 (va_A (WL (LC cf) ad E) sz)
def v_readUnitV : List Cond := .code yX10_readUnit cX10_readUnit 4 none :: vA
abbrev rm_readUnitV (n : Nat) : Room := { frames := 7 * n + 11, cells := 0, slots := 0, locals := 40 * (7 * n + 11) }
def w_readUnitV : Nat → Nat → Bool := wl [22] [(2, 2), (2, 3), (2, 5)]
def C_readUnitV (l : Launch) (n : Nat) : Prop := ∀ (dC : Nat → ClassId) (dI : Nat → Nat → Nat) (cT : Nat → ClassId) (cf : Nat → Nat) (hC : CF cf) (ad : Nat → Nat) (E : Nat → va_E) (sz : Nat) (a0 : Int32) (a1 : Int32) (hI0 : IXL cT (shC cf) (spC cf) (LC cf) ad E) (hh0 : 0 ≤ a0.toInt ∧ a0.toInt ≤ 8) (hh1 : a0.toInt + (n : Int) = 8) (hh2 : 0 ≤ a1.toInt ∧ a1.toInt ≤ 1), Met l yX10_readUnit v_readUnitV (rm_readUnitV n) (va_Pc [.ref (ad 2), .int a0, .int a1] (HWL dC dI (TYC cT) cf ad E sz)) (va_Qv (S := Nat → va_E) (fun u => IXL cT (shC cf) (spC cf) (LC cf) ad u ∧ Kp w_readUnitV E u ∧ (((xi (E 2) 5).toInt ≤ (xi (u 2) 5).toInt) ∧ (RdC (unX a1 n) E u) ∧ (RdV (unX a1 n) E u))) (HBL dC dI (LC cf) ad) (va_A (WL (LC cf) ad E) sz)) 0 0 (va_A (WL (LC cf) ad E) sz)
def v_readPartV : List Cond := .code yX10_readPart cX10_readPart 4 none :: vA
abbrev rm_readPartV (n : Nat) : Room := { frames := 7 * n + 12, cells := 0, slots := 0, locals := 40 * (7 * n + 12) }
def w_readPartV : Nat → Nat → Bool := wl [22] [(2, 2), (2, 3), (2, 5)]
def C_readPartV (l : Launch) (n : Nat) : Prop := ∀ (dC : Nat → ClassId) (dI : Nat → Nat → Nat) (cT : Nat → ClassId) (cf : Nat → Nat) (hC : CF cf) (ad : Nat → Nat) (E : Nat → va_E) (sz : Nat) (a0 : Int32) (a1 : Int32) (hI0 : IXL cT (shC cf) (spC cf) (LC cf) ad E) (hh0 : 0 ≤ a0.toInt ∧ a0.toInt ≤ 8) (hh1 : a0.toInt + (n : Int) = 8) (hh2 : 0 ≤ a1.toInt ∧ a1.toInt ≤ 1), Met l yX10_readPart v_readPartV (rm_readPartV n) (va_Pc [.ref (ad 2), .int a0, .int a1] (HWL dC dI (TYC cT) cf ad E sz)) (va_Qv (S := Nat → va_E) (fun u => IXL cT (shC cf) (spC cf) (LC cf) ad u ∧ Kp w_readPartV E u ∧ (((xi (E 2) 5).toInt ≤ (xi (u 2) 5).toInt) ∧ (RdC (paX a1 n) E u) ∧ (RdV (paX a1 n) E u))) (HBL dC dI (LC cf) ad) (va_A (WL (LC cf) ad E) sz)) 0 0 (va_A (WL (LC cf) ad E) sz)
def v_readConditionV : List Cond := .code yX10_readCondition cX10_readCondition 4 none :: vA
abbrev rm_readConditionV (n : Nat) : Room := { frames := 7 * n + 13, cells := 0, slots := 0, locals := 40 * (7 * n + 13) }
def w_readConditionV : Nat → Nat → Bool := wl [22] [(2, 2), (2, 3), (2, 5)]
def C_readConditionV (l : Launch) (n : Nat) : Prop := ∀ (dC : Nat → ClassId) (dI : Nat → Nat → Nat) (cT : Nat → ClassId) (cf : Nat → Nat) (hC : CF cf) (ad : Nat → Nat) (E : Nat → va_E) (sz : Nat) (a0 : Int32) (a1 : Int32) (hI0 : IXL cT (shC cf) (spC cf) (LC cf) ad E) (hh0 : 0 ≤ a0.toInt ∧ a0.toInt ≤ 8) (hh1 : a0.toInt + (n : Int) = 8) (hh2 : 0 ≤ a1.toInt ∧ a1.toInt ≤ 1), Met l yX10_readCondition v_readConditionV (rm_readConditionV n) (va_Pc [.ref (ad 2), .int a0, .int a1] (HWL dC dI (TYC cT) cf ad E sz)) (va_Qv (S := Nat → va_E) (fun u => IXL cT (shC cf) (spC cf) (LC cf) ad u ∧ Kp w_readConditionV E u ∧ (((xi (E 2) 5).toInt ≤ (xi (u 2) 5).toInt) ∧ (RdC (coX a1 n) E u) ∧ (RdV (coX a1 n) E u))) (HBL dC dI (LC cf) ad) (va_A (WL (LC cf) ad E) sz)) 0 0 (va_A (WL (LC cf) ad E) sz)
set_option maxHeartbeats 4000000 in
set_option maxRecDepth 100000 in
theorem q_readAtomV (l : Launch) (n : Nat) (gSum : ∀ k, k < n → C_readSumV l k) : C_readAtomV l n := by
  intro dC dI cT cf hC ad E sz a0 hI0 hh0 hh1
  obtain ⟨⟨hc0, hc1, hc2, hc3, hc4, hc5⟩, hcr⟩ := id hC
  refine Met.ofW (cc := cX10_readAtom) (maxL := 3) (ret := none) (by decide) rfl ?_
  intro p e s m args below meth c s₁ B hml hv
  obtain ⟨hargs, hsz, hP, hK, hD0, hEV⟩ := hv
  subst hsz
  have hx := B.exec
  have hb := B.bytes
  have hr := B.returns
  have hts := atoms_spec (ws := v_readAtomV) B.pre
  have hown : s.vm.findClass RX10 = some m.cls := findClass_of_methodNamed B.named
  have hlocks := B.notSynchronized
  have hinX10 : ∀ w ∈ u_ws RX10 TX10 10, w ∈ v_readAtomV := fun w h => vA_in _ w (in_X10 w h)
  generalize hAe : va_A (WL (LC cf) ad E) s.heap.size = A at hEV ⊢
  have hA : ∀ q : Nat, s.heap.size ≤ q → A q := fun q h => by rw [← hAe]; exact Or.inr h
  have hD : va_D A (WL (LC cf) ad E) := by rw [← hAe]; exact hD0.self
  have hS : va_S A s.heap s.heap [] := va_S.rf
  have hI := hI0
  have hKp : Kp w_readAtomV E E := Kp.rf
  have hl := lv_entry ([.ref (ad 2), .int a0]) (n := 3) (Nat.le_of_ble_eq_true rfl)
  obtain ⟨Q, hQ⟩ : ∃ Q, Q = MQ below (va_Qv (S := Nat → va_E) (fun u => IXL cT (shC cf) (spC cf) (LC cf) ad u ∧ Kp w_readAtomV E u ∧ (((xi (E 2) 5).toInt ≤ (xi (u 2) 5).toInt) ∧ (RdC (fun t m a => atomS false t m n a) E u) ∧ (RdV (fun t m a => atomS false t m n a) E u))) (HBL dC dI (LC cf) ad) (A)) args s 0 0 (A) := ⟨_, rfl⟩
  rw [← hQ, show entryFrame m args 3 = _ from (congrArg (fun z => entryFrame m z 3) hargs).trans (lg_entry_eq _ _ _)]
  generalize (lg_sl ([.ref (ad 2), .int a0]) ++ List.replicate (3 - (lg_sl ([.ref (ad 2), .int a0])).length) Slot.unset).toArray = ls at hl ⊢
  have hl : lv_has ls 3 [(0, .ref (ad 2)), (1, .int a0)] := hl
  obtain ⟨y1, ey1⟩ : ∃ y, xi (E 2) 5 = y := ⟨_, rfl⟩
  have fy1 : xv (E 2) 5 = .int y1 := (hI.fi 2 (mF 2 rfl) rfl (Nat.le_of_ble_eq_true rfl) rfl).trans (congrArg Value.int ey1)
  have i2 : 0 ≤ y1.toInt ∧ y1.toInt ≤ 200 := by rw [← ey1]; exact hI.iv 2 (mF 2 rfl) rfl (Nat.le_of_ble_eq_true rfl) rfl
  refine lv_aload_n hx hb dX10_readAtom_0 rfl (lv_at hl 0 rfl) ?_
  refine th_iL (va_runV (As := []) (rest := []) ⟨hx, hb, hml, hown, hts⟩ (q_nextX l dC dI cT cf hC ad E s.heap.size hI) (cwV 0 hts (gi_V (in_8 _ (zs16 (zs4 (zs4 (zs1 (zs1 (zs1 (zs0)))))))) (in_8 _ (zs16 (zs4 (zs4 (zs4 (zs0)))))) (in_8 _ (zs16 (zs4 (zs4 (zs4 (zs1 (zs0))))))) (in_8 _ (zs4 (zs4 (zs4 (zs1 (zs1 (zs0))))))) (in_8 _ (zs16 (zs1 (zs1 (zs1 (zs0))))))) rfl rfl rfl ⟨rfl, hz_yX10_next_0⟩ ⟨(show 0 + 1 ≤ 7 * n + 7 from nl_1 (Nat.le_of_ble_eq_true rfl)), (show 8 + (1 + 11) + 40 * (0) ≤ 40 * (7 * n + 7) from nl_2 (Nat.le_of_ble_eq_true rfl))⟩) ⟨HWL_bl, va_recv hK hP (ci := 11) (q0 := posL 2 (LC cf)) rfl (hI.ob 2 (mF 2 rfl) rfl), (HWL_wi hP hK (WL_D hD) hS hA hEV)⟩ rfl rfl hl.1 rfl (lv_room (Nat.le_of_ble_eq_true rfl)) dX10_readAtom_1 ⟨Nat.le_of_ble_eq_true rfl, Nat.le_of_ble_eq_true rfl⟩) (WL_D hD) hS hA (fun r3 E4 H locs hw hP hS => ?_)
  obtain ⟨hI, kq5, hw⟩ := hw
  have hKb := hKp
  have hKp := hKp.tr kq5 (wl_sub rfl rfl)
  obtain ⟨y6, ey6⟩ : ∃ y, xi (E4 2) 2 = y := ⟨_, rfl⟩
  have fy6 : xv (E4 2) 2 = .int y6 := (hI.fi 2 (mF 2 rfl) rfl (Nat.le_of_ble_eq_true rfl) rfl).trans (congrArg Value.int ey6)
  have i7 : 0 ≤ y6.toInt ∧ y6.toInt ≤ 200 := by rw [← ey6]; exact hI.iv 2 (mF 2 rfl) rfl (Nat.le_of_ble_eq_true rfl) rfl
  obtain ⟨f8, f9, f10⟩ := hw
  have i11 : 0 ≤ (xi (E 2) 1).toInt ∧ (xi (E 2) 1).toInt ≤ 200 := hI0.iv 2 (mF 2 rfl) rfl (Nat.le_of_ble_eq_true rfl) rfl
  try rw [(show xi (E4 2) 2 = y6 from vi_e fy6)] at f9
  have k12 : SZ E E4 := SZ.kp kq5 (fun _ => rfl) rfl
  refine lv_istore_n (lv' := [(2, .int r3), (0, .ref (ad 2)), (1, .int a0)]) hx hb dX10_readAtom_4 rfl hl (by decide) rfl (fun ls hl => ?_)
  refine lv_iload_n hx hb dX10_readAtom_5 rfl (lv_at hl 0 rfl) ?_
  refine th_pi (va_runS (As := [.int r3]) (rest := []) ⟨hx, hb, hml, hown, hts⟩ (q_cisDigit l r3) (va_cwS 1 hts (gi_S (in_9 _ (zs4 (zs4 (zs1 (zs1 (zs1 (zs0))))))) (in_9 _ (zs4 (zs4 (zs4 (zs0))))) (in_8 _ (zs4 (zs4 (zs4 (zs1 (zs1 (zs0))))))) (in_8 _ (zs16 (zs1 (zs1 (zs0)))))) rfl rfl rfl hz_yX10_isDigit_1 ⟨(show 0 + 1 ≤ 7 * n + 7 from nl_1 (Nat.le_of_ble_eq_true rfl)), (show 8 + (1 + 11) + 40 * (0) ≤ 40 * (7 * n + 7) from nl_2 (Nat.le_of_ble_eq_true rfl))⟩) ⟨fun _ _ _ _ q => q, fun _ _ _ => ⟨rfl, trivial⟩⟩ rfl rfl hl.1 rfl (lv_room (Nat.le_of_ble_eq_true rfl)) dX10_readAtom_6 ⟨Nat.le_of_ble_eq_true rfl, Nat.le_of_ble_eq_true rfl⟩) hS (fun r13 H1 locs1 hw hk1 hS => ?_)
  have hP := ub_keep hP hk1
  generalize H1 = H at hP hS ⊢
  generalize locs1 = locs at hS ⊢
  rcases hw with hw | hw
  · -- cisDigit, case 0
    obtain ⟨rfl, f14⟩ := hw
    refine lv_if_eq (tgt := 19) hx hb dX10_readAtom_9 (by decide) (fun c15 => ?_) (fun c15 => ?_)
    · --9 taken
      exact absurd c15 (by decide)
    · --9 not
      refine lv_aload_n hx hb dX10_readAtom_12 rfl (lv_at hl 1 rfl) ?_
      refine th_vL (va_runV (As := []) (rest := []) ⟨hx, hb, hml, hown, hts⟩ (q_readNumberV l dC dI cT cf hC ad E4 H.size hI) (cwV 0 hts (gi_V (in_9 _ (zs4 (zs4 (zs4 (zs1 (zs0)))))) (in_9 _ (zs4 (zs4 (zs4 (zs1 (zs1 (zs0))))))) (in_9 _ (zs4 (zs4 (zs4 (zs1 (zs1 (zs1 (zs0)))))))) (in_8 _ (zs4 (zs4 (zs4 (zs1 (zs1 (zs0))))))) (in_9 _ (zs16 (zs0)))) rfl rfl rfl ⟨rfl, hz_yX10_readNumber_0⟩ ⟨(show 1 + 1 ≤ 7 * n + 7 from nl_1 (Nat.le_of_ble_eq_true rfl)), (show 8 + (3 + 11) + 40 * (1) ≤ 40 * (7 * n + 7) from nl_2 (Nat.le_of_ble_eq_true rfl))⟩) ⟨HWL_bl, va_recv hK hP (ci := 11) (q0 := posL 2 (LC cf)) rfl (hI.ob 2 (mF 2 rfl) rfl), (HWL_wi hP hK (WL_D hD) hS hA hEV)⟩ rfl rfl hl.1 rfl (lv_room (Nat.le_of_ble_eq_true rfl)) dX10_readAtom_13 ⟨Nat.le_of_ble_eq_true rfl, Nat.le_of_ble_eq_true rfl⟩) (WL_D hD) hS hA (fun E17 H locs hw hP hS => ?_)
      obtain ⟨hI, kq18, hw⟩ := hw
      have hKb := hKp
      have hKp := hKp.tr kq18 (wl_sub rfl rfl)
      obtain ⟨y19, ey19⟩ : ∃ y, xi (E17 2) 5 = y := ⟨_, rfl⟩
      have fy19 : xv (E17 2) 5 = .int y19 := (hI.fi 2 (mF 2 rfl) rfl (Nat.le_of_ble_eq_true rfl) rfl).trans (congrArg Value.int ey19)
      have i20 : 0 ≤ y19.toInt ∧ y19.toInt ≤ 200 := by rw [← ey19]; exact hI.iv 2 (mF 2 rfl) rfl (Nat.le_of_ble_eq_true rfl) rfl
      obtain ⟨f21, f22, f23⟩ := hw
      try rw [(show xi (E4 2) 5 = y1 from vi_e ((kq5 2 5 rfl).trans fy1))] at f21
      try rw [(show xi (E17 2) 5 = y19 from vi_e fy19)] at f21
      refine lv_goto (tgt := 90) hx hb dX10_readAtom_16 (by decide) ?_
      rw [hQ]
      exact W.vret hx hb hr (fun t ht hW => ⟨⟨E17, rfl, ⟨hI, hKp, ⟨by (try rw [(show xi (E17 2) 5 = y19 from vi_e fy19)]); (try rw [ey1]); all_goals omega, atC_num f10 ⟨by omega, by omega⟩ f22, atV_num f10 k12 ⟨by omega, by omega⟩ f22 f23⟩⟩, by show va_P (dC, dI) vwCl (WL (LC cf) ad E17) t.heap; rw [ht]; exact hP⟩, hS.F ht⟩) hS.2.2 dX10_readAtom_90
  · -- cisDigit, case 1
    obtain ⟨rfl, f24⟩ := hw
    refine lv_if_eq (tgt := 19) hx hb dX10_readAtom_9 (by decide) (fun c25 => ?_) (fun c25 => ?_)
    · --9 taken
      obtain ⟨qs26, vs27, hRqs26, hSSqs26⟩ := hEV.2.1.2.2.2.2.2
      refine va_ldcS hx hb hown hRqs26 dX10_readAtom_19 ?_
      refine lv_iload_n hx hb dX10_readAtom_21 rfl (lv_at hl 0 rfl) ?_
      refine th_pi (va_runSN (As := [.ref qs26, .int r3]) (rest := []) ⟨hx, hb, hml, hown, hts⟩ (q_isOneOfX l qs26 vs27 tLET r3 (by decide) (by decide) f8) ⟨va_cnB 2 hts (gi_0 (in_8 _ (zs16 (zs4 (zs4 (zs4 (zs1 (zs1 (zs1 (zs0)))))))))) rfl rfl rfl (hEV.1.1 _ (List.mem_of_getElem? (i := 12) rfl)) (hts _ (vA_in _ _ (in_4 _ (zs16 (zs4 (zs1 (zs1 (zs1 (zs0))))))))) hz_yX12_isOneOf_2 ⟨(show 4 + 1 ≤ 7 * n + 7 from nl_1 (Nat.le_of_ble_eq_true rfl)), (show 8 + (2 + 11) + 40 * (4) ≤ 40 * (7 * n + 7) from nl_2 (Nat.le_of_ble_eq_true rfl))⟩, (hts _ (vA_in _ _ (in_8 _ (zs16 (zs4 (zs4 (zs4 (zs1 (zs1 (zs0)))))))))), trivial⟩ ⟨fun a U g mk q => ⟨q.1, SS_c q.2⟩, fun U hU hW => ⟨rfl, SS_w hU hW hS (fun _ h => h.elim) hSSqs26⟩⟩ rfl rfl hl.1 rfl (lv_room (Nat.le_of_ble_eq_true rfl)) dX10_readAtom_22 ⟨Nat.le_of_ble_eq_true rfl, Nat.le_of_ble_eq_true rfl⟩) hS (fun r28 H1 locs1 hw hk1 hS => ?_)
      have hP := ub_keep hP hk1
      generalize H1 = H at hP hS ⊢
      generalize locs1 = locs at hS ⊢
      rcases hw with hw | hw
      · -- isOneOfX, case 0
        obtain ⟨rfl, f29⟩ := hw
        refine lv_if_eq (tgt := 55) hx hb dX10_readAtom_25 (by decide) (fun c30 => ?_) (fun c30 => ?_)
        · --25 taken
          exact absurd c30 (by decide)
        · --25 not
          refine lv_aload_n hx hb dX10_readAtom_28 rfl (lv_at hl 1 rfl) ?_
          refine lv_dup hx hb dX10_readAtom_29 rfl ?_
          refine th_getL (ci := 11) (C := RX10) (T := TX10) (N := 10) (v := .int y6) hx hb hts hinX10 hown hK hP hI 2 (mF 2 rfl) rfl rfl 2 (Nat.le_of_ble_eq_true rfl) (hts _ (vA_in _ _ (in_8 _ (zs4 (zs4 (zs1 (zs0))))))) (fun _ h9 => h9) fy6 dX10_readAtom_30 ?_
          refine lv_iconst (v := 1) hx hb dX10_readAtom_33 (by decide) ?_
          refine lv_iadd hx hb dX10_readAtom_34 ?_
          refine lv_topi (fun y31 ey31 => ?_)
          obtain ⟨ty31, iy31⟩ := ti_add (e := 1) (f := 201) i7 ln_1 ey31 (by decide)
          have ty31 : y31.toInt = y6.toInt + 1 := ty31
          have iy31 : 1 ≤ y31.toInt ∧ y31.toInt ≤ 201 := iy31
          have i32 : 1 ≤ y31.toInt ∧ y31.toInt ≤ 200 := by omega
          refine th_putL (ci := 11) (C := RX10) (T := TX10) (N := 10) (v := .int y31) (ty := .int) hx hb hts hinX10 tyX10 tyX10_ok nmX10 hown hK hP (WL_D hD) hS hI 2 (mF 2 rfl) rfl rfl 2 (Nat.le_of_ble_eq_true rfl) (hts _ (vA_in _ _ (in_8 _ (zs4 (zs4 (zs1 (zs0))))))) (fun _ h9 => h9) rfl (by decide +kernel) rfl rfl (okI rfl (iv_w i32 (by decide))) dX10_readAtom_35 (fun H locs E33 pw34 hI hP hS => ?_)
          have hKp := hKp.pw pw34 rfl
          have k35 : AtP E4 E33 := AtP.pw pw34.2 (vi_e fy6) (vi_e pw34.1) ty31 (by omega)
          have k36 : SZ E4 E33 := SZ.pw pw34 (by decide) (fun _ => by decide)
          refine lv_aload_n hx hb dX10_readAtom_38 rfl (lv_at hl 1 rfl) ?_
          obtain ⟨qs37, vs38, hRqs37, hSSqs37⟩ := hEV.2.1.2.2.2.2.2
          refine va_ldcS hx hb hown hRqs37 dX10_readAtom_39 ?_
          refine lv_iload_n hx hb dX10_readAtom_41 rfl (lv_at hl 0 rfl) ?_
          refine lv_i2c hx hb dX10_readAtom_42 rfl ?_
          refine lv_topi (fun y39 ey39 => ?_)
          refine th_pi (va_runV (As := [.int y39]) (rest := [.ref (ad 2)]) ⟨hx, hb, hml, hown, hts⟩ (q_indexOf l qs37 vs38 tLET y39 (by decide) (by decide)) (cwV 1 hts (gi_V (in_9 _ (zs16 (zs1 (zs0)))) (in_8 _ (zs16 (zs16 (zs1 (zs0))))) (in_8 _ (zs16 (zs16 (zs1 (zs1 (zs0)))))) (in_0 _ (zs4 (zs4 (zs4 (zs1 (zs0)))))) (in_0 _ (zs4 (zs4 (zs1 (zs0)))))) rfl rfl rfl ⟨rfl, hz_yJ0_indexOf_0f7a4_1⟩ ⟨(show 3 + 1 ≤ 7 * n + 7 from nl_1 (Nat.le_of_ble_eq_true rfl)), (show 8 + (2 + 11) + 40 * (3) ≤ 40 * (7 * n + 7) from nl_2 (Nat.le_of_ble_eq_true rfl))⟩) ⟨fun a U g mk q => ⟨q.1, SS_c q.2⟩, va_Orecv hSSqs37.1 hS, fun U hU hW => ⟨rfl, SS_w hU hW hS (fun _ h => h.elim) hSSqs37⟩⟩ rfl rfl hl.1 rfl (lv_room (Nat.le_of_ble_eq_true rfl)) dX10_readAtom_43 ⟨Nat.le_of_ble_eq_true rfl, Nat.le_of_ble_eq_true rfl⟩) hS (fun r40 H1 locs1 hw hk1 hS => ?_)
          have hP := ub_keep hP hk1
          generalize H1 = H at hP hS ⊢
          generalize locs1 = locs at hS ⊢
          obtain ⟨f41, f42⟩ := hw
          refine th_pi (va_runS (As := [.int r40]) (rest := [.ref (ad 2)]) ⟨hx, hb, hml, hown, hts⟩ (q_casLetterX l r40) (va_cwS 1 hts (gi_S (in_9 _ (zs16 (zs1 (zs1 (zs0))))) (in_9 _ (zs16 (zs1 (zs1 (zs1 (zs0)))))) (in_7 _ (zs1 (zs1 (zs0)))) (in_9 _ (zs16 (zs4 (zs0))))) rfl rfl rfl hz_yX7_asLetter_1 ⟨(show 0 + 1 ≤ 7 * n + 7 from nl_1 (Nat.le_of_ble_eq_true rfl)), (show 8 + (1 + 11) + 40 * (0) ≤ 40 * (7 * n + 7) from nl_2 (Nat.le_of_ble_eq_true rfl))⟩) ⟨fun _ _ _ _ q => q, fun _ _ _ => ⟨rfl, trivial⟩⟩ rfl rfl hl.1 rfl (lv_room (Nat.le_of_ble_eq_true rfl)) dX10_readAtom_46 ⟨Nat.le_of_ble_eq_true rfl, Nat.le_of_ble_eq_true rfl⟩) hS (fun r43 H1 locs1 hw hk1 hS => ?_)
          have hP := ub_keep hP hk1
          generalize H1 = H at hP hS ⊢
          generalize locs1 = locs at hS ⊢
          have f44 := hw
          refine th_vL (va_runV (As := [.int r43]) (rest := []) ⟨hx, hb, hml, hown, hts⟩ (q_addV l dC dI cT cf hC ad E33 H.size r43 hI) (cwV 1 hts (gi_V (in_9 _ (zs4 (zs1 (zs1 (zs1 (zs0)))))) (in_9 _ (zs4 (zs4 (zs0)))) (in_9 _ (zs4 (zs4 (zs1 (zs0))))) (in_8 _ (zs4 (zs4 (zs4 (zs1 (zs1 (zs0))))))) (in_7 _ (zs16 (zs4 (zs4 (zs4 (zs1 (zs0)))))))) rfl rfl rfl ⟨rfl, hz_yX10_add_1⟩ ⟨(show 0 + 1 ≤ 7 * n + 7 from nl_1 (Nat.le_of_ble_eq_true rfl)), (show 8 + (2 + 11) + 40 * (0) ≤ 40 * (7 * n + 7) from nl_2 (Nat.le_of_ble_eq_true rfl))⟩) ⟨HWL_bl, va_recv hK hP (ci := 11) (q0 := posL 2 (LC cf)) rfl (hI.ob 2 (mF 2 rfl) rfl), (HWL_wi hP hK (WL_D hD) hS hA hEV)⟩ rfl rfl hl.1 rfl (lv_room (Nat.le_of_ble_eq_true rfl)) dX10_readAtom_49 ⟨Nat.le_of_ble_eq_true rfl, Nat.le_of_ble_eq_true rfl⟩) (WL_D hD) hS hA (fun E46 H locs hw hP hS => ?_)
          obtain ⟨hI, kq47, hw⟩ := hw
          have hKb := hKp
          have hKp := hKp.tr kq47 (wl_sub rfl rfl)
          obtain ⟨y48, ey48⟩ : ∃ y, xi (E46 2) 5 = y := ⟨_, rfl⟩
          have fy48 : xv (E46 2) 5 = .int y48 := (hI.fi 2 (mF 2 rfl) rfl (Nat.le_of_ble_eq_true rfl) rfl).trans (congrArg Value.int ey48)
          have i49 : 0 ≤ y48.toInt ∧ y48.toInt ≤ 200 := by rw [← ey48]; exact hI.iv 2 (mF 2 rfl) rfl (Nat.le_of_ble_eq_true rfl) rfl
          obtain ⟨f50, f51, f52⟩ := hw
          try rw [(show xi (E33 2) 5 = y1 from vi_e ((pw34.2 2 5 (fun q9 => absurd q9.2 (Nat.ne_of_beq_eq_false rfl))).trans ((kq5 2 5 rfl).trans fy1)))] at f50
          try rw [(show xi (E46 2) 5 = y48 from vi_e fy48)] at f50
          refine lv_goto (tgt := 90) hx hb dX10_readAtom_52 (by decide) ?_
          rw [hQ]
          exact W.vret hx hb hr (fun t ht hW => ⟨⟨E46, rfl, ⟨hI, hKp, ⟨by (try rw [(show xi (E46 2) 5 = y48 from vi_e fy48)]); (try rw [ey1]); all_goals omega, atC_let f10 (by unfold dgt; omega) (ix_let.mp f29.2) k35 f51, atV_let f10 k12 (by unfold dgt; omega) (ix_let.mp f29.2) k35 k36 f51 (letx f29.2 f42 ey39 (by omega) (by omega)) f52⟩⟩, by show va_P (dC, dI) vwCl (WL (LC cf) ad E46) t.heap; rw [ht]; exact hP⟩, hS.F ht⟩) hS.2.2 dX10_readAtom_90
      · -- isOneOfX, case 1
        obtain ⟨rfl, f53⟩ := hw
        refine lv_if_eq (tgt := 55) hx hb dX10_readAtom_25 (by decide) (fun c54 => ?_) (fun c54 => ?_)
        · --25 taken
          refine lv_iload_n hx hb dX10_readAtom_55 rfl (lv_at hl 0 rfl) ?_
          refine lv_bipush (v := 91) hx hb dX10_readAtom_56 (by decide) ?_
          refine lv_icmp_ne (tgt := 86) hx hb dX10_readAtom_58 (by decide) (fun c55 => ?_) (fun c55 => ?_)
          · --58 taken
            have t56 : ¬ r3.toInt = 91 := ti_ne c55
            refine lv_aload_n hx hb dX10_readAtom_86 rfl (lv_at hl 1 rfl) ?_
            refine th_vL (va_runV (As := []) (rest := []) ⟨hx, hb, hml, hown, hts⟩ (q_failX l dC dI cT cf hC ad E4 H.size hI) (cwV 0 hts (gi_V (in_8 _ (zs4 (zs4 (zs1 (zs1 (zs1 (zs0))))))) (in_8 _ (zs4 (zs4 (zs4 (zs0))))) (in_8 _ (zs4 (zs4 (zs4 (zs1 (zs0)))))) (in_8 _ (zs4 (zs4 (zs4 (zs1 (zs1 (zs0))))))) (in_8 _ (zs4 (zs1 (zs1 (zs1 (zs0))))))) rfl rfl rfl ⟨rfl, hz_yX10_fail_0⟩ ⟨(show 0 + 1 ≤ 7 * n + 7 from nl_1 (Nat.le_of_ble_eq_true rfl)), (show 8 + (1 + 11) + 40 * (0) ≤ 40 * (7 * n + 7) from nl_2 (Nat.le_of_ble_eq_true rfl))⟩) ⟨HWL_bl, va_recv hK hP (ci := 11) (q0 := posL 2 (LC cf)) rfl (hI.ob 2 (mF 2 rfl) rfl), (HWL_wi hP hK (WL_D hD) hS hA hEV)⟩ rfl rfl hl.1 rfl (lv_room (Nat.le_of_ble_eq_true rfl)) dX10_readAtom_87 ⟨Nat.le_of_ble_eq_true rfl, Nat.le_of_ble_eq_true rfl⟩) (WL_D hD) hS hA (fun E58 H locs hw hP hS => ?_)
            obtain ⟨hI, kq59, hw⟩ := hw
            have hKb := hKp
            have hKp := hKp.tr kq59 (wl_sub rfl rfl)
            have f60 := hw
            rw [hQ]
            exact W.vret hx hb hr (fun t ht hW => ⟨⟨E58, rfl, ⟨hI, hKp, ⟨by (try rw [(show xi (E58 2) 5 = y1 from vi_e ((kq59 2 5 rfl).trans ((kq5 2 5 rfl).trans fy1)))]); (try rw [ey1]); all_goals omega, atC_no f10 (by unfold dgt; omega) (no_let f53) (by omega) f60, RdV.no f60⟩⟩, by show va_P (dC, dI) vwCl (WL (LC cf) ad E58) t.heap; rw [ht]; exact hP⟩, hS.F ht⟩) hS.2.2 dX10_readAtom_90
          · --58 not
            have t61 : r3.toInt = 91 := ti_eq c55
            have i62 : 91 ≤ r3.toInt ∧ r3.toInt ≤ 91 := iv_eqi t61 f8 (il_ 91) (by decide)
            refine lv_aload_n hx hb dX10_readAtom_61 rfl (lv_at hl 1 rfl) ?_
            refine lv_iload_n hx hb dX10_readAtom_62 rfl (lv_at hl 2 rfl) ?_
            refine th_iL (va_runV (As := [.int a0]) (rest := []) ⟨hx, hb, hml, hown, hts⟩ (q_goDeeperX l dC dI cT cf hC ad E4 H.size a0 hI hh0 (by (try rw [(show xi (E4 2) 2 = y6 from vi_e fy6)]); (try rw [hKp.ei 2 1 rfl]); omega)) (cwV 1 hts (gi_V (in_9 _ (zs16 (zs4 (zs1 (zs0))))) (in_9 _ (zs16 (zs4 (zs1 (zs1 (zs0)))))) (in_9 _ (zs16 (zs4 (zs1 (zs1 (zs1 (zs0))))))) (in_8 _ (zs4 (zs4 (zs4 (zs1 (zs1 (zs0))))))) (in_8 _ (zs4 (zs4 (zs1 (zs1 (zs0))))))) rfl rfl rfl ⟨rfl, hz_yX10_goDeeper_1⟩ ⟨(show 1 + 1 ≤ 7 * n + 7 from nl_1 (Nat.le_of_ble_eq_true rfl)), (show 8 + (2 + 11) + 40 * (1) ≤ 40 * (7 * n + 7) from nl_2 (Nat.le_of_ble_eq_true rfl))⟩) ⟨HWL_bl, va_recv hK hP (ci := 11) (q0 := posL 2 (LC cf)) rfl (hI.ob 2 (mF 2 rfl) rfl), (HWL_wi hP hK (WL_D hD) hS hA hEV)⟩ rfl rfl hl.1 rfl (lv_room (Nat.le_of_ble_eq_true rfl)) dX10_readAtom_63 ⟨Nat.le_of_ble_eq_true rfl, Nat.le_of_ble_eq_true rfl⟩) (WL_D hD) hS hA (fun r63 E64 H locs hw hP hS => ?_)
            obtain ⟨hI, kq65, hw⟩ := hw
            have hKb := hKp
            have hKp := hKp.tr kq65 (wl_sub rfl rfl)
            rcases hw with hw | hw
            · -- goDeeperX, case 0
              obtain ⟨rfl, f66, f67⟩ := hw
              obtain ⟨k9, hk9⟩ : ∃ k9, n = k9 + 1 := ⟨n - 1, by omega⟩
              have k68 : SZ E4 E64 := SZ.kp kq65 (fun _ => rfl) rfl
              refine lv_if_ne (tgt := 70) hx hb dX10_readAtom_66 (by decide) (fun c69 => ?_) (fun c69 => ?_)
              · --66 taken
                refine lv_aload_n hx hb dX10_readAtom_70 rfl (lv_at hl 1 rfl) ?_
                refine lv_iload_n hx hb dX10_readAtom_71 rfl (lv_at hl 2 rfl) ?_
                refine lv_iconst (v := 1) hx hb dX10_readAtom_72 (by decide) ?_
                refine lv_iadd hx hb dX10_readAtom_73 ?_
                refine lv_topi (fun y70 ey70 => ?_)
                obtain ⟨ty70, iy70⟩ := ti_add (e := 1) (f := 8) f66 ln_1 ey70 (by decide)
                have ty70 : y70.toInt = a0.toInt + 1 := ty70
                have iy70 : 1 ≤ y70.toInt ∧ y70.toInt ≤ 8 := iy70
                refine th_vL (va_runV (As := [.int y70]) (rest := []) ⟨hx, hb, hml, hown, hts⟩ ((gSum k9 (by omega)) dC dI cT cf hC ad E64 H.size y70 hI (iv_w iy70 (by decide)) (by omega)) (cwV 1 hts (gi_V (in_8 _ (zs16 (zs16 (zs4 (zs1 (zs1 (zs1 (zs0)))))))) (in_9 _ zs0) (in_9 _ (zs1 (zs0))) (in_8 _ (zs4 (zs4 (zs4 (zs1 (zs1 (zs0))))))) (in_9 _ (zs1 (zs1 (zs0))))) rfl rfl rfl (by decide +kernel) ⟨(show 7 * k9 + 9 + 1 ≤ 7 * n + 7 by omega), (show 8 + (4 + 11) + 40 * (7 * k9 + 9) ≤ 40 * (7 * n + 7) by omega)⟩) ⟨HWL_bl, va_recv hK hP (ci := 11) (q0 := posL 2 (LC cf)) rfl (hI.ob 2 (mF 2 rfl) rfl), (HWL_wi hP hK (WL_D hD) hS hA hEV)⟩ rfl rfl hl.1 rfl (lv_room (Nat.le_of_ble_eq_true rfl)) dX10_readAtom_74 ⟨Nat.le_of_ble_eq_true rfl, Nat.le_of_ble_eq_true rfl⟩) (WL_D hD) hS hA (fun E72 H locs hw hP hS => ?_)
                obtain ⟨hI, kq73, hw⟩ := hw
                have hKb := hKp
                have hKp := hKp.tr kq73 (wl_sub rfl rfl)
                obtain ⟨y74, ey74⟩ : ∃ y, xi (E72 2) 5 = y := ⟨_, rfl⟩
                have fy74 : xv (E72 2) 5 = .int y74 := (hI.fi 2 (mF 2 rfl) rfl (Nat.le_of_ble_eq_true rfl) rfl).trans (congrArg Value.int ey74)
                have i75 : 0 ≤ y74.toInt ∧ y74.toInt ≤ 200 := by rw [← ey74]; exact hI.iv 2 (mF 2 rfl) rfl (Nat.le_of_ble_eq_true rfl) rfl
                obtain ⟨f76, f77, f78⟩ := hw
                try rw [(show xi (E64 2) 5 = y1 from vi_e ((kq65 2 5 rfl).trans ((kq5 2 5 rfl).trans fy1)))] at f76
                try rw [(show xi (E72 2) 5 = y74 from vi_e fy74)] at f76
                refine lv_aload_n hx hb dX10_readAtom_77 rfl (lv_at hl 1 rfl) ?_
                refine lv_bipush (v := 93) hx hb dX10_readAtom_78 (by decide) ?_
                refine th_vL (va_runV (As := [.int 93]) (rest := []) ⟨hx, hb, hml, hown, hts⟩ (q_takeX l dC dI cT cf hC ad E72 H.size (93 : Int32) hI (iv_w ln_93 (by decide))) (cwV 1 hts (gi_V (in_8 _ (zs16 (zs16 (zs1 (zs1 (zs1 (zs0))))))) (in_8 _ (zs16 (zs16 (zs4 (zs0))))) (in_8 _ (zs16 (zs16 (zs4 (zs1 (zs0)))))) (in_8 _ (zs4 (zs4 (zs4 (zs1 (zs1 (zs0))))))) (in_8 _ (zs16 (zs16 (zs4 (zs1 (zs1 (zs0)))))))) rfl rfl rfl ⟨rfl, hz_yX10_take_1⟩ ⟨(show 1 + 1 ≤ 7 * n + 7 from nl_1 (Nat.le_of_ble_eq_true rfl)), (show 8 + (2 + 11) + 40 * (1) ≤ 40 * (7 * n + 7) from nl_2 (Nat.le_of_ble_eq_true rfl))⟩) ⟨HWL_bl, va_recv hK hP (ci := 11) (q0 := posL 2 (LC cf)) rfl (hI.ob 2 (mF 2 rfl) rfl), (HWL_wi hP hK (WL_D hD) hS hA hEV)⟩ rfl rfl hl.1 rfl (lv_room (Nat.le_of_ble_eq_true rfl)) dX10_readAtom_80 ⟨Nat.le_of_ble_eq_true rfl, Nat.le_of_ble_eq_true rfl⟩) (WL_D hD) hS hA (fun E80 H locs hw hP hS => ?_)
                obtain ⟨hI, kq81, hw⟩ := hw
                have hKb := hKp
                have hKp := hKp.tr kq81 (wl_sub rfl rfl)
                have f82 := hw
                have k83 : SZ E72 E80 := SZ.kp kq81 (fun _ => rfl) rfl
                refine lv_goto (tgt := 90) hx hb dX10_readAtom_83 (by decide) ?_
                rw [hQ]
                exact W.vret hx hb hr (fun t ht hW => ⟨⟨E80, rfl, ⟨hI, hKp, ⟨by (try rw [(show xi (E80 2) 5 = y74 from vi_e ((kq81 2 5 rfl).trans fy74))]); (try rw [ey1]); all_goals omega, atC_in f10 (by omega) f67 f77 f82 hk9, atV_in f10 k12 (by omega) f67 k68 f77 f78 f82 k83 hk9⟩⟩, by show va_P (dC, dI) vwCl (WL (LC cf) ad E80) t.heap; rw [ht]; exact hP⟩, hS.F ht⟩) hS.2.2 dX10_readAtom_90
              · --66 not
                exact absurd c69 (by decide)
            · -- goDeeperX, case 1
              obtain ⟨rfl, f84, f85⟩ := hw
              have k86 : SZ E4 E64 := SZ.kp kq65 (fun _ => rfl) rfl
              refine lv_if_ne (tgt := 70) hx hb dX10_readAtom_66 (by decide) (fun c87 => ?_) (fun c87 => ?_)
              · --66 taken
                exact absurd c87 (by decide)
              · --66 not
                rw [hQ]
                exact W.vret hx hb hr (fun t ht hW => ⟨⟨E64, rfl, ⟨hI, hKp, ⟨by (try rw [(show xi (E64 2) 5 = y1 from vi_e ((kq65 2 5 rfl).trans ((kq5 2 5 rfl).trans fy1)))]); (try rw [ey1]); all_goals omega, atC_in0 f10 (by omega) f85 (by omega), RdV.no f85⟩⟩, by show va_P (dC, dI) vwCl (WL (LC cf) ad E64) t.heap; rw [ht]; exact hP⟩, hS.F ht⟩) hS.2.2 dX10_readAtom_69
        · --25 not
          exact absurd c54 (by decide)
    · --9 not
      exact absurd c25 (by decide)
set_option maxHeartbeats 4000000 in
set_option maxRecDepth 100000 in
theorem q_readTermV (l : Launch) (n : Nat) (gA : C_readAtomV l n) : C_readTermV l n := by
  intro dC dI cT cf hC ad E sz a0 hI0 hh0 hh1
  obtain ⟨⟨hc0, hc1, hc2, hc3, hc4, hc5⟩, hcr⟩ := id hC
  refine Met.ofW (cc := cX10_readTerm) (maxL := 4) (ret := none) (by decide) rfl ?_
  intro p e s m args below meth c s₁ B hml hv
  obtain ⟨hargs, hsz, hP, hK, hD0, hEV⟩ := hv
  subst hsz
  have hx := B.exec
  have hb := B.bytes
  have hr := B.returns
  have hts := atoms_spec (ws := v_readTermV) B.pre
  have hown : s.vm.findClass RX10 = some m.cls := findClass_of_methodNamed B.named
  have hlocks := B.notSynchronized
  have hinX10 : ∀ w ∈ u_ws RX10 TX10 10, w ∈ v_readTermV := fun w h => vA_in _ w (in_X10 w h)
  generalize hAe : va_A (WL (LC cf) ad E) s.heap.size = A at hEV ⊢
  have hA : ∀ q : Nat, s.heap.size ≤ q → A q := fun q h => by rw [← hAe]; exact Or.inr h
  have hD : va_D A (WL (LC cf) ad E) := by rw [← hAe]; exact hD0.self
  have hS : va_S A s.heap s.heap [] := va_S.rf
  have hI := hI0
  have hKp : Kp w_readTermV E E := Kp.rf
  have hl := lv_entry ([.ref (ad 2), .int a0]) (n := 4) (Nat.le_of_ble_eq_true rfl)
  obtain ⟨Q, hQ⟩ : ∃ Q, Q = MQ below (va_Qv (S := Nat → va_E) (fun u => IXL cT (shC cf) (spC cf) (LC cf) ad u ∧ Kp w_readTermV E u ∧ (((xi (E 2) 5).toInt ≤ (xi (u 2) 5).toInt) ∧ (RdC (fun t m a => termS false t m n a) E u) ∧ (RdV (fun t m a => termS false t m n a) E u))) (HBL dC dI (LC cf) ad) (A)) args s 0 0 (A) := ⟨_, rfl⟩
  rw [← hQ, show entryFrame m args 4 = _ from (congrArg (fun z => entryFrame m z 4) hargs).trans (lg_entry_eq _ _ _)]
  generalize (lg_sl ([.ref (ad 2), .int a0]) ++ List.replicate (4 - (lg_sl ([.ref (ad 2), .int a0])).length) Slot.unset).toArray = ls at hl ⊢
  have hl : lv_has ls 4 [(0, .ref (ad 2)), (1, .int a0)] := hl
  obtain ⟨y1, ey1⟩ : ∃ y, xi (E 2) 5 = y := ⟨_, rfl⟩
  have fy1 : xv (E 2) 5 = .int y1 := (hI.fi 2 (mF 2 rfl) rfl (Nat.le_of_ble_eq_true rfl) rfl).trans (congrArg Value.int ey1)
  have i2 : 0 ≤ y1.toInt ∧ y1.toInt ≤ 200 := by rw [← ey1]; exact hI.iv 2 (mF 2 rfl) rfl (Nat.le_of_ble_eq_true rfl) rfl
  have i3 : 0 ≤ (xi (E 2) 1).toInt ∧ (xi (E 2) 1).toInt ≤ 200 := hI0.iv 2 (mF 2 rfl) rfl (Nat.le_of_ble_eq_true rfl) rfl
  refine lv_aload_n hx hb dX10_readTerm_0 rfl (lv_at hl 0 rfl) ?_
  refine lv_iload_n hx hb dX10_readTerm_1 rfl (lv_at hl 1 rfl) ?_
  refine th_vL (va_runV (As := [.int a0]) (rest := []) ⟨hx, hb, hml, hown, hts⟩ (gA dC dI cT cf hC ad E s.heap.size a0 hI hh0 (by omega)) (cwV 1 hts (gi_V (in_9 _ (zs16 (zs4 (zs4 (zs1 (zs0)))))) (in_9 _ (zs16 (zs4 (zs4 (zs1 (zs1 (zs0))))))) (in_9 _ (zs16 (zs4 (zs4 (zs1 (zs1 (zs1 (zs0)))))))) (in_8 _ (zs4 (zs4 (zs4 (zs1 (zs1 (zs0))))))) (in_9 _ (zs4 (zs4 (zs1 (zs1 (zs0))))))) rfl rfl rfl (by decide +kernel) ⟨(show 7 * n + 7 + 1 ≤ 7 * n + 8 from nl_4 (Nat.le_of_ble_eq_true rfl) (Nat.le_of_ble_eq_true rfl)), (show 8 + (3 + 11) + 40 * (7 * n + 7) ≤ 40 * (7 * n + 8) from nl_3 (Nat.le_of_ble_eq_true rfl) (Nat.le_of_ble_eq_true rfl))⟩) ⟨HWL_bl, va_recv hK hP (ci := 11) (q0 := posL 2 (LC cf)) rfl (hI.ob 2 (mF 2 rfl) rfl), (HWL_wi hP hK (WL_D hD) hS hA hEV)⟩ rfl rfl hl.1 rfl (lv_room (Nat.le_of_ble_eq_true rfl)) dX10_readTerm_2 ⟨Nat.le_of_ble_eq_true rfl, Nat.le_of_ble_eq_true rfl⟩) (WL_D hD) hS hA (fun E5 H locs hw hP hS => ?_)
  obtain ⟨hI, kq6, hw⟩ := hw
  have hKb := hKp
  have hKp := hKp.tr kq6 (wl_sub rfl rfl)
  obtain ⟨y7, ey7⟩ : ∃ y, xi (E5 2) 5 = y := ⟨_, rfl⟩
  have fy7 : xv (E5 2) 5 = .int y7 := (hI.fi 2 (mF 2 rfl) rfl (Nat.le_of_ble_eq_true rfl) rfl).trans (congrArg Value.int ey7)
  have i8 : 0 ≤ y7.toInt ∧ y7.toInt ≤ 200 := by rw [← ey7]; exact hI.iv 2 (mF 2 rfl) rfl (Nat.le_of_ble_eq_true rfl) rfl
  obtain ⟨f9, f10, f11⟩ := hw
  try rw [(show xi (E 2) 5 = y1 from vi_e fy1)] at f9
  try rw [(show xi (E5 2) 5 = y7 from vi_e fy7)] at f9
  refine lv_iconst (v := 0) hx hb dX10_readTerm_5 (by decide) ?_
  refine lv_istore_n (lv' := [(2, .int 0), (0, .ref (ad 2)), (1, .int a0)]) hx hb dX10_readTerm_6 rfl hl (by decide) rfl (fun ls hl => ?_)
  have hL7 : ∀ d : Nat, ∀ (w7_2_5 : Int32) (v7_2 : Int32) (E7_ : Nat → va_E) (H : Heap) (locs : List Loc) (ls : Array Slot), 0 ≤ w7_2_5.toInt ∧ w7_2_5.toInt ≤ 200 → 0 ≤ v7_2.toInt ∧ v7_2.toInt ≤ 200 → y1.toInt ≤ w7_2_5.toInt → Lp (fun t m a => termS false t m n a) (fun t m => opL t m isMul jb ((fun t m => atomS false t m n) t m)) v7_2.toInt E E7_ → LpV (fun t m a => termS false t m n a) (fun t m => opL t m isMul jb ((fun t m => atomS false t m n) t m)) E E7_ → 200 - v7_2.toInt < (d : Int) → IXL cT (shC cf) (spC cf) (LC cf) ad E7_ → Kp w_readTermV E E7_ → xv (E7_ 2) 5 = .int w7_2_5 → va_P (dC, dI) vwCl (WL (LC cf) ad E7_) H → va_S A s.heap H locs → lv_has ls 4 [(2, .int v7_2), (0, .ref (ad 2)), (1, .int a0)] → W p l e (headSpec v_readTermV (rm_readTermV n)).room s m args below meth c H locs 0 0 Q (F0 m 7 ls []) := by
    intro d
    induction d with
    | zero =>
      intro w7_2_5 v7_2 E7_ H locs ls hw7_2_5 hv7_2 hx7_0 hx7_1 hx7_2 hx7_3 hI hKp hs7_2_5 hP hS hl
      exact absurd hx7_3 (by first | exact ms_zu hv7_2.2 | omega)
    | succ d ih7 =>
      intro w7_2_5 v7_2 E7_ H locs ls hw7_2_5 hv7_2 hx7_0 hx7_1 hx7_2 hx7_3 hI hKp hs7_2_5 hP hS hl
      refine lv_iload_n hx hb dX10_readTerm_7 rfl (lv_at hl 0 rfl) ?_
      refine lv_sipush (v := 200) hx hb dX10_readTerm_8 (by decide) ?_
      refine lv_icmp_ge (tgt := 65) hx hb dX10_readTerm_11 (by decide) (fun c12 => ?_) (fun c12 => ?_)
      · --11 taken
        have t13 : (200 : Int) ≤ v7_2.toInt := ti_le c12
        have i14 : 200 ≤ v7_2.toInt ∧ v7_2.toInt ≤ 200 := iv_le_r t13 (il_ 200) hv7_2 (by decide)
        rw [hQ]
        exact W.vret hx hb hr (fun t ht hW => ⟨⟨E7_, rfl, ⟨hI, hKp, ⟨by (try rw [(show xi (E7_ 2) 5 = w7_2_5 from vi_e hs7_2_5)]); (try rw [ey1]); all_goals omega, Lp.fin (op := isMul) hx7_1 (by have kl := tN_e (E := E) (by omega); omega) rfl (fun t m a c h => opL_0 h), LpV.fin (op := isMul) hx7_1 hx7_2 (by have kl := tN_e (E := E) (by omega); omega) rfl (fun t m a c h => opL_0 h)⟩⟩, by show va_P (dC, dI) vwCl (WL (LC cf) ad E7_) t.heap; rw [ht]; exact hP⟩, hS.F ht⟩) hS.2.2 dX10_readTerm_65
      · --11 not
        have t15 : v7_2.toInt < 200 := ti_nle c12
        have i16 : 0 ≤ v7_2.toInt ∧ v7_2.toInt ≤ 199 := iv_lt_l t15 hv7_2 (il_ 200) (by decide)
        obtain ⟨qs17, vs18, hRqs17, hSSqs17⟩ := hEV.2.1.2.2.2.2.1
        refine va_ldcS hx hb hown hRqs17 dX10_readTerm_14 ?_
        refine lv_aload_n hx hb dX10_readTerm_16 rfl (lv_at hl 1 rfl) ?_
        refine th_iL (va_runV (As := []) (rest := [.ref qs17]) ⟨hx, hb, hml, hown, hts⟩ (q_nextX l dC dI cT cf hC ad E7_ H.size hI) (cwV 0 hts (gi_V (in_8 _ (zs16 (zs4 (zs4 (zs1 (zs1 (zs1 (zs0)))))))) (in_8 _ (zs16 (zs4 (zs4 (zs4 (zs0)))))) (in_8 _ (zs16 (zs4 (zs4 (zs4 (zs1 (zs0))))))) (in_8 _ (zs4 (zs4 (zs4 (zs1 (zs1 (zs0))))))) (in_8 _ (zs16 (zs1 (zs1 (zs1 (zs0))))))) rfl rfl rfl ⟨rfl, hz_yX10_next_0⟩ ⟨(show 0 + 1 ≤ 7 * n + 8 from nl_1 (Nat.le_of_ble_eq_true rfl)), (show 8 + (1 + 11) + 40 * (0) ≤ 40 * (7 * n + 8) from nl_2 (Nat.le_of_ble_eq_true rfl))⟩) ⟨HWL_bl, va_recv hK hP (ci := 11) (q0 := posL 2 (LC cf)) rfl (hI.ob 2 (mF 2 rfl) rfl), (HWL_wi hP hK (WL_D hD) hS hA hEV)⟩ rfl rfl hl.1 rfl (lv_room (Nat.le_of_ble_eq_true rfl)) dX10_readTerm_17 ⟨Nat.le_of_ble_eq_true rfl, Nat.le_of_ble_eq_true rfl⟩) (WL_D hD) hS hA (fun r19 E20 H locs hw hP hS => ?_)
        obtain ⟨hI, kq21, hw⟩ := hw
        have hKb := hKp
        have hKp := hKp.tr kq21 (wl_sub rfl rfl)
        obtain ⟨y22, ey22⟩ : ∃ y, xi (E20 2) 2 = y := ⟨_, rfl⟩
        have fy22 : xv (E20 2) 2 = .int y22 := (hI.fi 2 (mF 2 rfl) rfl (Nat.le_of_ble_eq_true rfl) rfl).trans (congrArg Value.int ey22)
        have i23 : 0 ≤ y22.toInt ∧ y22.toInt ≤ 200 := by rw [← ey22]; exact hI.iv 2 (mF 2 rfl) rfl (Nat.le_of_ble_eq_true rfl) rfl
        obtain ⟨f24, f25, f26⟩ := hw
        try rw [hKb.ei 2 1 rfl] at f25
        try rw [(show xi (E20 2) 2 = y22 from vi_e fy22)] at f25
        have k27 : SZ E7_ E20 := SZ.kp kq21 (fun _ => rfl) rfl
        refine th_pi (va_runSN (As := [.ref qs17, .int r19]) (rest := []) ⟨hx, hb, hml, hown, hts⟩ (q_isOneOfX l qs17 vs18 tMUL r19 (by decide) (by decide) f24) ⟨va_cnB 2 hts (gi_0 (in_8 _ (zs16 (zs4 (zs4 (zs4 (zs1 (zs1 (zs1 (zs0)))))))))) rfl rfl rfl (hEV.1.1 _ (List.mem_of_getElem? (i := 12) rfl)) (hts _ (vA_in _ _ (in_4 _ (zs16 (zs4 (zs1 (zs1 (zs1 (zs0))))))))) hz_yX12_isOneOf_2 ⟨(show 4 + 1 ≤ 7 * n + 8 from nl_1 (Nat.le_of_ble_eq_true rfl)), (show 8 + (2 + 11) + 40 * (4) ≤ 40 * (7 * n + 8) from nl_2 (Nat.le_of_ble_eq_true rfl))⟩, (hts _ (vA_in _ _ (in_8 _ (zs16 (zs4 (zs4 (zs4 (zs1 (zs1 (zs0)))))))))), trivial⟩ ⟨fun a U g mk q => ⟨q.1, SS_c q.2⟩, fun U hU hW => ⟨rfl, SS_w hU hW hS (fun _ h => h.elim) hSSqs17⟩⟩ rfl rfl hl.1 rfl (lv_room (Nat.le_of_ble_eq_true rfl)) dX10_readTerm_20 ⟨Nat.le_of_ble_eq_true rfl, Nat.le_of_ble_eq_true rfl⟩) hS (fun r28 H1 locs1 hw hk1 hS => ?_)
        have hP := ub_keep hP hk1
        generalize H1 = H at hP hS ⊢
        generalize locs1 = locs at hS ⊢
        rcases hw with hw | hw
        · -- isOneOfX, case 0
          obtain ⟨rfl, f29⟩ := hw
          refine lv_if_eq (tgt := 65) hx hb dX10_readTerm_23 (by decide) (fun c30 => ?_) (fun c30 => ?_)
          · --23 taken
            exact absurd c30 (by decide)
          · --23 not
            refine lv_aload_n hx hb dX10_readTerm_26 rfl (lv_at hl 1 rfl) ?_
            refine th_getL (ci := 11) (C := RX10) (T := TX10) (N := 10) (v := .ref (ad 21)) hx hb hts hinX10 hown hK hP hI 2 (mF 2 rfl) rfl rfl 0 (Nat.le_of_ble_eq_true rfl) (hts _ (vA_in _ _ (in_8 _ (zs16 (zs1 (zs0)))))) (fun _ h9 => h9) (hI.fr 2 (mF 2 rfl) rfl (Nat.le_of_ble_eq_true rfl) 21 rfl) dX10_readTerm_27 ?_
            refine lv_aload_n hx hb dX10_readTerm_30 rfl (lv_at hl 1 rfl) ?_
            refine th_getL (ci := 11) (C := RX10) (T := TX10) (N := 10) (v := .int y22) hx hb hts hinX10 hown hK hP hI 2 (mF 2 rfl) rfl rfl 2 (Nat.le_of_ble_eq_true rfl) (hts _ (vA_in _ _ (in_8 _ (zs4 (zs4 (zs1 (zs0))))))) (fun _ h9 => h9) fy22 dX10_readTerm_31 ?_
            have n32 : vp_in y22 200 := (vp_in_iff.mpr ⟨by omega, by omega⟩)
            refine th_ialdL hx hb hK hP hI 21 (mF 21 rfl) rfl rfl n32 dX10_readTerm_34 (fun y31 ey31 => ?_)
            have iy31 : 0 ≤ y31.toInt ∧ y31.toInt ≤ 255 := hI.el 21 (mF 21 rfl) rfl n32 (fun _ => rfl) ey31
            have ey31 := ey31.trans (hKp.ei 21 _ rfl)
            refine lv_istore_n (lv' := [(3, .int y31), (2, .int v7_2), (0, .ref (ad 2)), (1, .int a0)]) hx hb dX10_readTerm_35 rfl hl (by decide) rfl (fun ls hl => ?_)
            refine lv_aload_n hx hb dX10_readTerm_36 rfl (lv_at hl 2 rfl) ?_
            refine lv_dup hx hb dX10_readTerm_37 rfl ?_
            refine th_getL (ci := 11) (C := RX10) (T := TX10) (N := 10) (v := .int y22) hx hb hts hinX10 hown hK hP hI 2 (mF 2 rfl) rfl rfl 2 (Nat.le_of_ble_eq_true rfl) (hts _ (vA_in _ _ (in_8 _ (zs4 (zs4 (zs1 (zs0))))))) (fun _ h9 => h9) fy22 dX10_readTerm_38 ?_
            refine lv_iconst (v := 1) hx hb dX10_readTerm_41 (by decide) ?_
            refine lv_iadd hx hb dX10_readTerm_42 ?_
            refine lv_topi (fun y33 ey33 => ?_)
            obtain ⟨ty33, iy33⟩ := ti_add (e := 1) (f := 201) i23 ln_1 ey33 (by decide)
            have ty33 : y33.toInt = y22.toInt + 1 := ty33
            have iy33 : 1 ≤ y33.toInt ∧ y33.toInt ≤ 201 := iy33
            have i34 : 1 ≤ y33.toInt ∧ y33.toInt ≤ 200 := by omega
            refine th_putL (ci := 11) (C := RX10) (T := TX10) (N := 10) (v := .int y33) (ty := .int) hx hb hts hinX10 tyX10 tyX10_ok nmX10 hown hK hP (WL_D hD) hS hI 2 (mF 2 rfl) rfl rfl 2 (Nat.le_of_ble_eq_true rfl) (hts _ (vA_in _ _ (in_8 _ (zs4 (zs4 (zs1 (zs0))))))) (fun _ h9 => h9) rfl (by decide +kernel) rfl rfl (okI rfl (iv_w i34 (by decide))) dX10_readTerm_43 (fun H locs E35 pw36 hI hP hS => ?_)
            have hKp := hKp.pw pw36 rfl
            have k37 : AtP E20 E35 := AtP.pw pw36.2 (vi_e fy22) (vi_e pw36.1) ty33 (by omega)
            have k38 : SZ E20 E35 := SZ.pw pw36 (by decide) (fun _ => by decide)
            refine lv_aload_n hx hb dX10_readTerm_46 rfl (lv_at hl 2 rfl) ?_
            refine lv_iload_n hx hb dX10_readTerm_47 rfl (lv_at hl 3 rfl) ?_
            refine th_vL (va_runV (As := [.int a0]) (rest := []) ⟨hx, hb, hml, hown, hts⟩ (gA dC dI cT cf hC ad E35 H.size a0 hI hh0 (by omega)) (cwV 1 hts (gi_V (in_9 _ (zs16 (zs4 (zs4 (zs1 (zs0)))))) (in_9 _ (zs16 (zs4 (zs4 (zs1 (zs1 (zs0))))))) (in_9 _ (zs16 (zs4 (zs4 (zs1 (zs1 (zs1 (zs0)))))))) (in_8 _ (zs4 (zs4 (zs4 (zs1 (zs1 (zs0))))))) (in_9 _ (zs4 (zs4 (zs1 (zs1 (zs0))))))) rfl rfl rfl (by decide +kernel) ⟨(show 7 * n + 7 + 1 ≤ 7 * n + 8 from nl_4 (Nat.le_of_ble_eq_true rfl) (Nat.le_of_ble_eq_true rfl)), (show 8 + (3 + 11) + 40 * (7 * n + 7) ≤ 40 * (7 * n + 8) from nl_3 (Nat.le_of_ble_eq_true rfl) (Nat.le_of_ble_eq_true rfl))⟩) ⟨HWL_bl, va_recv hK hP (ci := 11) (q0 := posL 2 (LC cf)) rfl (hI.ob 2 (mF 2 rfl) rfl), (HWL_wi hP hK (WL_D hD) hS hA hEV)⟩ rfl rfl hl.1 rfl (lv_room (Nat.le_of_ble_eq_true rfl)) dX10_readTerm_48 ⟨Nat.le_of_ble_eq_true rfl, Nat.le_of_ble_eq_true rfl⟩) (WL_D hD) hS hA (fun E40 H locs hw hP hS => ?_)
            obtain ⟨hI, kq41, hw⟩ := hw
            have hKb := hKp
            have hKp := hKp.tr kq41 (wl_sub rfl rfl)
            obtain ⟨y42, ey42⟩ : ∃ y, xi (E40 2) 5 = y := ⟨_, rfl⟩
            have fy42 : xv (E40 2) 5 = .int y42 := (hI.fi 2 (mF 2 rfl) rfl (Nat.le_of_ble_eq_true rfl) rfl).trans (congrArg Value.int ey42)
            have i43 : 0 ≤ y42.toInt ∧ y42.toInt ≤ 200 := by rw [← ey42]; exact hI.iv 2 (mF 2 rfl) rfl (Nat.le_of_ble_eq_true rfl) rfl
            obtain ⟨f44, f45, f46⟩ := hw
            try rw [(show xi (E35 2) 5 = w7_2_5 from vi_e ((pw36.2 2 5 (fun q9 => absurd q9.2 (Nat.ne_of_beq_eq_false rfl))).trans ((kq21 2 5 rfl).trans hs7_2_5)))] at f44
            try rw [(show xi (E40 2) 5 = y42 from vi_e fy42)] at f44
            refine lv_aload_n hx hb dX10_readTerm_51 rfl (lv_at hl 2 rfl) ?_
            refine lv_iload_n hx hb dX10_readTerm_52 rfl (lv_at hl 0 rfl) ?_
            refine th_pi (va_runS (As := [.int y31]) (rest := [.ref (ad 2)]) ⟨hx, hb, hml, hown, hts⟩ (q_casSign l y31 iy31) (va_cwS 1 hts (gi_S (in_9 _ (zs4 (zs1 (zs1 (zs0))))) (in_7 _ (zs4 (zs4 (zs4 (zs1 (zs0)))))) (in_7 _ (zs1 (zs1 (zs0)))) (in_7 _ (zs4 (zs4 (zs4 (zs1 (zs1 (zs0)))))))) rfl rfl rfl hz_yX7_asSign_1 ⟨(show 0 + 1 ≤ 7 * n + 8 from nl_1 (Nat.le_of_ble_eq_true rfl)), (show 8 + (1 + 11) + 40 * (0) ≤ 40 * (7 * n + 8) from nl_2 (Nat.le_of_ble_eq_true rfl))⟩) ⟨fun _ _ _ _ q => q, fun _ _ _ => ⟨rfl, trivial⟩⟩ rfl rfl hl.1 rfl (lv_room (Nat.le_of_ble_eq_true rfl)) dX10_readTerm_53 ⟨Nat.le_of_ble_eq_true rfl, Nat.le_of_ble_eq_true rfl⟩) hS (fun r47 H1 locs1 hw hk1 hS => ?_)
            have hP := ub_keep hP hk1
            generalize H1 = H at hP hS ⊢
            generalize locs1 = locs at hS ⊢
            obtain ⟨f48, f49⟩ := hw
            refine th_vL (va_runV (As := [.int r47]) (rest := []) ⟨hx, hb, hml, hown, hts⟩ (q_addV l dC dI cT cf hC ad E40 H.size r47 hI) (cwV 1 hts (gi_V (in_9 _ (zs4 (zs1 (zs1 (zs1 (zs0)))))) (in_9 _ (zs4 (zs4 (zs0)))) (in_9 _ (zs4 (zs4 (zs1 (zs0))))) (in_8 _ (zs4 (zs4 (zs4 (zs1 (zs1 (zs0))))))) (in_7 _ (zs16 (zs4 (zs4 (zs4 (zs1 (zs0)))))))) rfl rfl rfl ⟨rfl, hz_yX10_add_1⟩ ⟨(show 0 + 1 ≤ 7 * n + 8 from nl_1 (Nat.le_of_ble_eq_true rfl)), (show 8 + (2 + 11) + 40 * (0) ≤ 40 * (7 * n + 8) from nl_2 (Nat.le_of_ble_eq_true rfl))⟩) ⟨HWL_bl, va_recv hK hP (ci := 11) (q0 := posL 2 (LC cf)) rfl (hI.ob 2 (mF 2 rfl) rfl), (HWL_wi hP hK (WL_D hD) hS hA hEV)⟩ rfl rfl hl.1 rfl (lv_room (Nat.le_of_ble_eq_true rfl)) dX10_readTerm_56 ⟨Nat.le_of_ble_eq_true rfl, Nat.le_of_ble_eq_true rfl⟩) (WL_D hD) hS hA (fun E51 H locs hw hP hS => ?_)
            obtain ⟨hI, kq52, hw⟩ := hw
            have hKb := hKp
            have hKp := hKp.tr kq52 (wl_sub rfl rfl)
            obtain ⟨y53, ey53⟩ : ∃ y, xi (E51 2) 5 = y := ⟨_, rfl⟩
            have fy53 : xv (E51 2) 5 = .int y53 := (hI.fi 2 (mF 2 rfl) rfl (Nat.le_of_ble_eq_true rfl) rfl).trans (congrArg Value.int ey53)
            have i54 : 0 ≤ y53.toInt ∧ y53.toInt ≤ 200 := by rw [← ey53]; exact hI.iv 2 (mF 2 rfl) rfl (Nat.le_of_ble_eq_true rfl) rfl
            obtain ⟨f55, f56, f57⟩ := hw
            try rw [(show xi (E40 2) 5 = y42 from vi_e fy42)] at f55
            try rw [(show xi (E51 2) 5 = y53 from vi_e fy53)] at f55
            obtain ⟨y58, ey58⟩ : ∃ y : Int32, y = v7_2 + (1 : Int32) := ⟨_, rfl⟩
            obtain ⟨ty58, iy58⟩ := ti_add (e := 1) (f := 200) i16 ln_1 ey58 (by decide)
            have ty58 : y58.toInt = v7_2.toInt + 1 := ty58
            have iy58 : 1 ≤ y58.toInt ∧ y58.toInt ≤ 200 := iy58
            refine lv_iinc (v := y58) (lv' := [(2, .int y58), (3, .int y31), (0, .ref (ad 2)), (1, .int a0)]) hx hb dX10_readTerm_59 hl (k := 1) rfl (by rw [ey58]; rfl) (by decide) rfl (fun ls hl => ?_)
            refine lv_goto (tgt := 7) hx hb dX10_readTerm_62 (by decide) ?_
            exact ih7 y53 y58 E51 _ _ _ i54 (iv_w iy58 (by decide)) (by have h9 := i54; omega) (Lp.step (op := isMul) (cb := jb) hx7_1 f26 (ix_mul.mp f29.2) (by omega) k37 f45 f56 ty58 (fun t m => atomS_mono false t m n) (fun t m a c h => opL_1 (atomS_mono false t m n) rfl h)) (LpV.step (op := isMul) hx7_1 hx7_2 f26 k27 (ix_mul.mp f29.2) k37 k38 f45 f46 f56 (sgn_e f26 (by omega) hx7_1 (tT_e (E := E) fy22 ey31) (by omega)) f57 (fun t m a c h => opL_1 (atomS_mono false t m n) rfl h)) (by first | exact ms_su hx7_3 ty58 (by decide) | omega) hI hKp fy53 hP hS (lv_sub hl [0, 2, 3] rfl)
        · -- isOneOfX, case 1
          obtain ⟨rfl, f59⟩ := hw
          refine lv_if_eq (tgt := 65) hx hb dX10_readTerm_23 (by decide) (fun c60 => ?_) (fun c60 => ?_)
          · --23 taken
            rw [hQ]
            exact W.vret hx hb hr (fun t ht hW => ⟨⟨E20, rfl, ⟨hI, hKp, ⟨by (try rw [(show xi (E20 2) 5 = w7_2_5 from vi_e ((kq21 2 5 rfl).trans hs7_2_5))]); (try rw [ey1]); all_goals omega, Lp.exit (op := isMul) hx7_1 f26 (no_mul f59) (fun t m a c h => opL_0 h), LpV.exit (op := isMul) hx7_1 hx7_2 f26 k27 (no_mul f59) (fun t m a c h => opL_0 h)⟩⟩, by show va_P (dC, dI) vwCl (WL (LC cf) ad E20) t.heap; rw [ht]; exact hP⟩, hS.F ht⟩) hS.2.2 dX10_readTerm_65
          · --23 not
            exact absurd c60 (by decide)
  exact hL7 (201) y7 (0 : Int32) E5 _ _ _ i8 (iv_w ln_0 (by decide)) (by have h9 := i8; omega) (Lp.start f10 lpT (by decide)) (LpV.start f11 lpT) (by have h9 := ln_0; first | exact ms_bu h9.1 (by decide) | omega) hI hKp fy7 hP hS (lv_sub hl [0, 1, 2] rfl)
set_option maxHeartbeats 4000000 in
set_option maxRecDepth 100000 in
theorem q_readSumV (l : Launch) (n : Nat) (gT : C_readTermV l n) : C_readSumV l n := by
  intro dC dI cT cf hC ad E sz a0 hI0 hh0 hh1
  obtain ⟨⟨hc0, hc1, hc2, hc3, hc4, hc5⟩, hcr⟩ := id hC
  refine Met.ofW (cc := cX10_readSum) (maxL := 4) (ret := none) (by decide) rfl ?_
  intro p e s m args below meth c s₁ B hml hv
  obtain ⟨hargs, hsz, hP, hK, hD0, hEV⟩ := hv
  subst hsz
  have hx := B.exec
  have hb := B.bytes
  have hr := B.returns
  have hts := atoms_spec (ws := v_readSumV) B.pre
  have hown : s.vm.findClass RX10 = some m.cls := findClass_of_methodNamed B.named
  have hlocks := B.notSynchronized
  have hinX10 : ∀ w ∈ u_ws RX10 TX10 10, w ∈ v_readSumV := fun w h => vA_in _ w (in_X10 w h)
  generalize hAe : va_A (WL (LC cf) ad E) s.heap.size = A at hEV ⊢
  have hA : ∀ q : Nat, s.heap.size ≤ q → A q := fun q h => by rw [← hAe]; exact Or.inr h
  have hD : va_D A (WL (LC cf) ad E) := by rw [← hAe]; exact hD0.self
  have hS : va_S A s.heap s.heap [] := va_S.rf
  have hI := hI0
  have hKp : Kp w_readSumV E E := Kp.rf
  have hl := lv_entry ([.ref (ad 2), .int a0]) (n := 4) (Nat.le_of_ble_eq_true rfl)
  obtain ⟨Q, hQ⟩ : ∃ Q, Q = MQ below (va_Qv (S := Nat → va_E) (fun u => IXL cT (shC cf) (spC cf) (LC cf) ad u ∧ Kp w_readSumV E u ∧ (((xi (E 2) 5).toInt ≤ (xi (u 2) 5).toInt) ∧ (RdC (fun t m a => sumS false t m n a) E u) ∧ (RdV (fun t m a => sumS false t m n a) E u))) (HBL dC dI (LC cf) ad) (A)) args s 0 0 (A) := ⟨_, rfl⟩
  rw [← hQ, show entryFrame m args 4 = _ from (congrArg (fun z => entryFrame m z 4) hargs).trans (lg_entry_eq _ _ _)]
  generalize (lg_sl ([.ref (ad 2), .int a0]) ++ List.replicate (4 - (lg_sl ([.ref (ad 2), .int a0])).length) Slot.unset).toArray = ls at hl ⊢
  have hl : lv_has ls 4 [(0, .ref (ad 2)), (1, .int a0)] := hl
  obtain ⟨y1, ey1⟩ : ∃ y, xi (E 2) 5 = y := ⟨_, rfl⟩
  have fy1 : xv (E 2) 5 = .int y1 := (hI.fi 2 (mF 2 rfl) rfl (Nat.le_of_ble_eq_true rfl) rfl).trans (congrArg Value.int ey1)
  have i2 : 0 ≤ y1.toInt ∧ y1.toInt ≤ 200 := by rw [← ey1]; exact hI.iv 2 (mF 2 rfl) rfl (Nat.le_of_ble_eq_true rfl) rfl
  have i3 : 0 ≤ (xi (E 2) 1).toInt ∧ (xi (E 2) 1).toInt ≤ 200 := hI0.iv 2 (mF 2 rfl) rfl (Nat.le_of_ble_eq_true rfl) rfl
  refine lv_aload_n hx hb dX10_readSum_0 rfl (lv_at hl 0 rfl) ?_
  refine lv_iload_n hx hb dX10_readSum_1 rfl (lv_at hl 1 rfl) ?_
  refine th_vL (va_runV (As := [.int a0]) (rest := []) ⟨hx, hb, hml, hown, hts⟩ (gT dC dI cT cf hC ad E s.heap.size a0 hI hh0 (by omega)) (cwV 1 hts (gi_V (in_9 _ (zs1 (zs1 (zs1 (zs0))))) (in_9 _ (zs4 (zs0))) (in_9 _ (zs4 (zs1 (zs0)))) (in_8 _ (zs4 (zs4 (zs4 (zs1 (zs1 (zs0))))))) (in_9 _ (zs16 (zs4 (zs4 (zs0)))))) rfl rfl rfl (by decide +kernel) ⟨(show 7 * n + 8 + 1 ≤ 7 * n + 9 from nl_4 (Nat.le_of_ble_eq_true rfl) (Nat.le_of_ble_eq_true rfl)), (show 8 + (4 + 11) + 40 * (7 * n + 8) ≤ 40 * (7 * n + 9) from nl_3 (Nat.le_of_ble_eq_true rfl) (Nat.le_of_ble_eq_true rfl))⟩) ⟨HWL_bl, va_recv hK hP (ci := 11) (q0 := posL 2 (LC cf)) rfl (hI.ob 2 (mF 2 rfl) rfl), (HWL_wi hP hK (WL_D hD) hS hA hEV)⟩ rfl rfl hl.1 rfl (lv_room (Nat.le_of_ble_eq_true rfl)) dX10_readSum_2 ⟨Nat.le_of_ble_eq_true rfl, Nat.le_of_ble_eq_true rfl⟩) (WL_D hD) hS hA (fun E5 H locs hw hP hS => ?_)
  obtain ⟨hI, kq6, hw⟩ := hw
  have hKb := hKp
  have hKp := hKp.tr kq6 (wl_sub rfl rfl)
  obtain ⟨y7, ey7⟩ : ∃ y, xi (E5 2) 5 = y := ⟨_, rfl⟩
  have fy7 : xv (E5 2) 5 = .int y7 := (hI.fi 2 (mF 2 rfl) rfl (Nat.le_of_ble_eq_true rfl) rfl).trans (congrArg Value.int ey7)
  have i8 : 0 ≤ y7.toInt ∧ y7.toInt ≤ 200 := by rw [← ey7]; exact hI.iv 2 (mF 2 rfl) rfl (Nat.le_of_ble_eq_true rfl) rfl
  obtain ⟨f9, f10, f11⟩ := hw
  try rw [(show xi (E 2) 5 = y1 from vi_e fy1)] at f9
  try rw [(show xi (E5 2) 5 = y7 from vi_e fy7)] at f9
  refine lv_iconst (v := 0) hx hb dX10_readSum_5 (by decide) ?_
  refine lv_istore_n (lv' := [(2, .int 0), (0, .ref (ad 2)), (1, .int a0)]) hx hb dX10_readSum_6 rfl hl (by decide) rfl (fun ls hl => ?_)
  have hL7 : ∀ d : Nat, ∀ (w7_2_5 : Int32) (v7_2 : Int32) (E7_ : Nat → va_E) (H : Heap) (locs : List Loc) (ls : Array Slot), 0 ≤ w7_2_5.toInt ∧ w7_2_5.toInt ≤ 200 → 0 ≤ v7_2.toInt ∧ v7_2.toInt ≤ 200 → y1.toInt ≤ w7_2_5.toInt → Lp (fun t m a => sumS false t m n a) (fun t m => opL t m isAdd jb ((fun t m => termS false t m n) t m)) v7_2.toInt E E7_ → LpV (fun t m a => sumS false t m n a) (fun t m => opL t m isAdd jb ((fun t m => termS false t m n) t m)) E E7_ → 200 - v7_2.toInt < (d : Int) → IXL cT (shC cf) (spC cf) (LC cf) ad E7_ → Kp w_readSumV E E7_ → xv (E7_ 2) 5 = .int w7_2_5 → va_P (dC, dI) vwCl (WL (LC cf) ad E7_) H → va_S A s.heap H locs → lv_has ls 4 [(2, .int v7_2), (0, .ref (ad 2)), (1, .int a0)] → W p l e (headSpec v_readSumV (rm_readSumV n)).room s m args below meth c H locs 0 0 Q (F0 m 7 ls []) := by
    intro d
    induction d with
    | zero =>
      intro w7_2_5 v7_2 E7_ H locs ls hw7_2_5 hv7_2 hx7_0 hx7_1 hx7_2 hx7_3 hI hKp hs7_2_5 hP hS hl
      exact absurd hx7_3 (by first | exact ms_zu hv7_2.2 | omega)
    | succ d ih7 =>
      intro w7_2_5 v7_2 E7_ H locs ls hw7_2_5 hv7_2 hx7_0 hx7_1 hx7_2 hx7_3 hI hKp hs7_2_5 hP hS hl
      refine lv_iload_n hx hb dX10_readSum_7 rfl (lv_at hl 0 rfl) ?_
      refine lv_sipush (v := 200) hx hb dX10_readSum_8 (by decide) ?_
      refine lv_icmp_ge (tgt := 65) hx hb dX10_readSum_11 (by decide) (fun c12 => ?_) (fun c12 => ?_)
      · --11 taken
        have t13 : (200 : Int) ≤ v7_2.toInt := ti_le c12
        have i14 : 200 ≤ v7_2.toInt ∧ v7_2.toInt ≤ 200 := iv_le_r t13 (il_ 200) hv7_2 (by decide)
        rw [hQ]
        exact W.vret hx hb hr (fun t ht hW => ⟨⟨E7_, rfl, ⟨hI, hKp, ⟨by (try rw [(show xi (E7_ 2) 5 = w7_2_5 from vi_e hs7_2_5)]); (try rw [ey1]); all_goals omega, Lp.fin (op := isAdd) hx7_1 (by have kl := tN_e (E := E) (by omega); omega) rfl (fun t m a c h => opL_0 h), LpV.fin (op := isAdd) hx7_1 hx7_2 (by have kl := tN_e (E := E) (by omega); omega) rfl (fun t m a c h => opL_0 h)⟩⟩, by show va_P (dC, dI) vwCl (WL (LC cf) ad E7_) t.heap; rw [ht]; exact hP⟩, hS.F ht⟩) hS.2.2 dX10_readSum_65
      · --11 not
        have t15 : v7_2.toInt < 200 := ti_nle c12
        have i16 : 0 ≤ v7_2.toInt ∧ v7_2.toInt ≤ 199 := iv_lt_l t15 hv7_2 (il_ 200) (by decide)
        obtain ⟨qs17, vs18, hRqs17, hSSqs17⟩ := hEV.2.1.2.2.2.1
        refine va_ldcS hx hb hown hRqs17 dX10_readSum_14 ?_
        refine lv_aload_n hx hb dX10_readSum_16 rfl (lv_at hl 1 rfl) ?_
        refine th_iL (va_runV (As := []) (rest := [.ref qs17]) ⟨hx, hb, hml, hown, hts⟩ (q_nextX l dC dI cT cf hC ad E7_ H.size hI) (cwV 0 hts (gi_V (in_8 _ (zs16 (zs4 (zs4 (zs1 (zs1 (zs1 (zs0)))))))) (in_8 _ (zs16 (zs4 (zs4 (zs4 (zs0)))))) (in_8 _ (zs16 (zs4 (zs4 (zs4 (zs1 (zs0))))))) (in_8 _ (zs4 (zs4 (zs4 (zs1 (zs1 (zs0))))))) (in_8 _ (zs16 (zs1 (zs1 (zs1 (zs0))))))) rfl rfl rfl ⟨rfl, hz_yX10_next_0⟩ ⟨(show 0 + 1 ≤ 7 * n + 9 from nl_1 (Nat.le_of_ble_eq_true rfl)), (show 8 + (1 + 11) + 40 * (0) ≤ 40 * (7 * n + 9) from nl_2 (Nat.le_of_ble_eq_true rfl))⟩) ⟨HWL_bl, va_recv hK hP (ci := 11) (q0 := posL 2 (LC cf)) rfl (hI.ob 2 (mF 2 rfl) rfl), (HWL_wi hP hK (WL_D hD) hS hA hEV)⟩ rfl rfl hl.1 rfl (lv_room (Nat.le_of_ble_eq_true rfl)) dX10_readSum_17 ⟨Nat.le_of_ble_eq_true rfl, Nat.le_of_ble_eq_true rfl⟩) (WL_D hD) hS hA (fun r19 E20 H locs hw hP hS => ?_)
        obtain ⟨hI, kq21, hw⟩ := hw
        have hKb := hKp
        have hKp := hKp.tr kq21 (wl_sub rfl rfl)
        obtain ⟨y22, ey22⟩ : ∃ y, xi (E20 2) 2 = y := ⟨_, rfl⟩
        have fy22 : xv (E20 2) 2 = .int y22 := (hI.fi 2 (mF 2 rfl) rfl (Nat.le_of_ble_eq_true rfl) rfl).trans (congrArg Value.int ey22)
        have i23 : 0 ≤ y22.toInt ∧ y22.toInt ≤ 200 := by rw [← ey22]; exact hI.iv 2 (mF 2 rfl) rfl (Nat.le_of_ble_eq_true rfl) rfl
        obtain ⟨f24, f25, f26⟩ := hw
        try rw [hKb.ei 2 1 rfl] at f25
        try rw [(show xi (E20 2) 2 = y22 from vi_e fy22)] at f25
        have k27 : SZ E7_ E20 := SZ.kp kq21 (fun _ => rfl) rfl
        refine th_pi (va_runSN (As := [.ref qs17, .int r19]) (rest := []) ⟨hx, hb, hml, hown, hts⟩ (q_isOneOfX l qs17 vs18 tADD r19 (by decide) (by decide) f24) ⟨va_cnB 2 hts (gi_0 (in_8 _ (zs16 (zs4 (zs4 (zs4 (zs1 (zs1 (zs1 (zs0)))))))))) rfl rfl rfl (hEV.1.1 _ (List.mem_of_getElem? (i := 12) rfl)) (hts _ (vA_in _ _ (in_4 _ (zs16 (zs4 (zs1 (zs1 (zs1 (zs0))))))))) hz_yX12_isOneOf_2 ⟨(show 4 + 1 ≤ 7 * n + 9 from nl_1 (Nat.le_of_ble_eq_true rfl)), (show 8 + (2 + 11) + 40 * (4) ≤ 40 * (7 * n + 9) from nl_2 (Nat.le_of_ble_eq_true rfl))⟩, (hts _ (vA_in _ _ (in_8 _ (zs16 (zs4 (zs4 (zs4 (zs1 (zs1 (zs0)))))))))), trivial⟩ ⟨fun a U g mk q => ⟨q.1, SS_c q.2⟩, fun U hU hW => ⟨rfl, SS_w hU hW hS (fun _ h => h.elim) hSSqs17⟩⟩ rfl rfl hl.1 rfl (lv_room (Nat.le_of_ble_eq_true rfl)) dX10_readSum_20 ⟨Nat.le_of_ble_eq_true rfl, Nat.le_of_ble_eq_true rfl⟩) hS (fun r28 H1 locs1 hw hk1 hS => ?_)
        have hP := ub_keep hP hk1
        generalize H1 = H at hP hS ⊢
        generalize locs1 = locs at hS ⊢
        rcases hw with hw | hw
        · -- isOneOfX, case 0
          obtain ⟨rfl, f29⟩ := hw
          refine lv_if_eq (tgt := 65) hx hb dX10_readSum_23 (by decide) (fun c30 => ?_) (fun c30 => ?_)
          · --23 taken
            exact absurd c30 (by decide)
          · --23 not
            refine lv_aload_n hx hb dX10_readSum_26 rfl (lv_at hl 1 rfl) ?_
            refine th_getL (ci := 11) (C := RX10) (T := TX10) (N := 10) (v := .ref (ad 21)) hx hb hts hinX10 hown hK hP hI 2 (mF 2 rfl) rfl rfl 0 (Nat.le_of_ble_eq_true rfl) (hts _ (vA_in _ _ (in_8 _ (zs16 (zs1 (zs0)))))) (fun _ h9 => h9) (hI.fr 2 (mF 2 rfl) rfl (Nat.le_of_ble_eq_true rfl) 21 rfl) dX10_readSum_27 ?_
            refine lv_aload_n hx hb dX10_readSum_30 rfl (lv_at hl 1 rfl) ?_
            refine th_getL (ci := 11) (C := RX10) (T := TX10) (N := 10) (v := .int y22) hx hb hts hinX10 hown hK hP hI 2 (mF 2 rfl) rfl rfl 2 (Nat.le_of_ble_eq_true rfl) (hts _ (vA_in _ _ (in_8 _ (zs4 (zs4 (zs1 (zs0))))))) (fun _ h9 => h9) fy22 dX10_readSum_31 ?_
            have n32 : vp_in y22 200 := (vp_in_iff.mpr ⟨by omega, by omega⟩)
            refine th_ialdL hx hb hK hP hI 21 (mF 21 rfl) rfl rfl n32 dX10_readSum_34 (fun y31 ey31 => ?_)
            have iy31 : 0 ≤ y31.toInt ∧ y31.toInt ≤ 255 := hI.el 21 (mF 21 rfl) rfl n32 (fun _ => rfl) ey31
            have ey31 := ey31.trans (hKp.ei 21 _ rfl)
            refine lv_istore_n (lv' := [(3, .int y31), (2, .int v7_2), (0, .ref (ad 2)), (1, .int a0)]) hx hb dX10_readSum_35 rfl hl (by decide) rfl (fun ls hl => ?_)
            refine lv_aload_n hx hb dX10_readSum_36 rfl (lv_at hl 2 rfl) ?_
            refine lv_dup hx hb dX10_readSum_37 rfl ?_
            refine th_getL (ci := 11) (C := RX10) (T := TX10) (N := 10) (v := .int y22) hx hb hts hinX10 hown hK hP hI 2 (mF 2 rfl) rfl rfl 2 (Nat.le_of_ble_eq_true rfl) (hts _ (vA_in _ _ (in_8 _ (zs4 (zs4 (zs1 (zs0))))))) (fun _ h9 => h9) fy22 dX10_readSum_38 ?_
            refine lv_iconst (v := 1) hx hb dX10_readSum_41 (by decide) ?_
            refine lv_iadd hx hb dX10_readSum_42 ?_
            refine lv_topi (fun y33 ey33 => ?_)
            obtain ⟨ty33, iy33⟩ := ti_add (e := 1) (f := 201) i23 ln_1 ey33 (by decide)
            have ty33 : y33.toInt = y22.toInt + 1 := ty33
            have iy33 : 1 ≤ y33.toInt ∧ y33.toInt ≤ 201 := iy33
            have i34 : 1 ≤ y33.toInt ∧ y33.toInt ≤ 200 := by omega
            refine th_putL (ci := 11) (C := RX10) (T := TX10) (N := 10) (v := .int y33) (ty := .int) hx hb hts hinX10 tyX10 tyX10_ok nmX10 hown hK hP (WL_D hD) hS hI 2 (mF 2 rfl) rfl rfl 2 (Nat.le_of_ble_eq_true rfl) (hts _ (vA_in _ _ (in_8 _ (zs4 (zs4 (zs1 (zs0))))))) (fun _ h9 => h9) rfl (by decide +kernel) rfl rfl (okI rfl (iv_w i34 (by decide))) dX10_readSum_43 (fun H locs E35 pw36 hI hP hS => ?_)
            have hKp := hKp.pw pw36 rfl
            have k37 : AtP E20 E35 := AtP.pw pw36.2 (vi_e fy22) (vi_e pw36.1) ty33 (by omega)
            have k38 : SZ E20 E35 := SZ.pw pw36 (by decide) (fun _ => by decide)
            refine lv_aload_n hx hb dX10_readSum_46 rfl (lv_at hl 2 rfl) ?_
            refine lv_iload_n hx hb dX10_readSum_47 rfl (lv_at hl 3 rfl) ?_
            refine th_vL (va_runV (As := [.int a0]) (rest := []) ⟨hx, hb, hml, hown, hts⟩ (gT dC dI cT cf hC ad E35 H.size a0 hI hh0 (by omega)) (cwV 1 hts (gi_V (in_9 _ (zs1 (zs1 (zs1 (zs0))))) (in_9 _ (zs4 (zs0))) (in_9 _ (zs4 (zs1 (zs0)))) (in_8 _ (zs4 (zs4 (zs4 (zs1 (zs1 (zs0))))))) (in_9 _ (zs16 (zs4 (zs4 (zs0)))))) rfl rfl rfl (by decide +kernel) ⟨(show 7 * n + 8 + 1 ≤ 7 * n + 9 from nl_4 (Nat.le_of_ble_eq_true rfl) (Nat.le_of_ble_eq_true rfl)), (show 8 + (4 + 11) + 40 * (7 * n + 8) ≤ 40 * (7 * n + 9) from nl_3 (Nat.le_of_ble_eq_true rfl) (Nat.le_of_ble_eq_true rfl))⟩) ⟨HWL_bl, va_recv hK hP (ci := 11) (q0 := posL 2 (LC cf)) rfl (hI.ob 2 (mF 2 rfl) rfl), (HWL_wi hP hK (WL_D hD) hS hA hEV)⟩ rfl rfl hl.1 rfl (lv_room (Nat.le_of_ble_eq_true rfl)) dX10_readSum_48 ⟨Nat.le_of_ble_eq_true rfl, Nat.le_of_ble_eq_true rfl⟩) (WL_D hD) hS hA (fun E40 H locs hw hP hS => ?_)
            obtain ⟨hI, kq41, hw⟩ := hw
            have hKb := hKp
            have hKp := hKp.tr kq41 (wl_sub rfl rfl)
            obtain ⟨y42, ey42⟩ : ∃ y, xi (E40 2) 5 = y := ⟨_, rfl⟩
            have fy42 : xv (E40 2) 5 = .int y42 := (hI.fi 2 (mF 2 rfl) rfl (Nat.le_of_ble_eq_true rfl) rfl).trans (congrArg Value.int ey42)
            have i43 : 0 ≤ y42.toInt ∧ y42.toInt ≤ 200 := by rw [← ey42]; exact hI.iv 2 (mF 2 rfl) rfl (Nat.le_of_ble_eq_true rfl) rfl
            obtain ⟨f44, f45, f46⟩ := hw
            try rw [(show xi (E35 2) 5 = w7_2_5 from vi_e ((pw36.2 2 5 (fun q9 => absurd q9.2 (Nat.ne_of_beq_eq_false rfl))).trans ((kq21 2 5 rfl).trans hs7_2_5)))] at f44
            try rw [(show xi (E40 2) 5 = y42 from vi_e fy42)] at f44
            refine lv_aload_n hx hb dX10_readSum_51 rfl (lv_at hl 2 rfl) ?_
            refine lv_iload_n hx hb dX10_readSum_52 rfl (lv_at hl 0 rfl) ?_
            refine th_pi (va_runS (As := [.int y31]) (rest := [.ref (ad 2)]) ⟨hx, hb, hml, hown, hts⟩ (q_casSign l y31 iy31) (va_cwS 1 hts (gi_S (in_9 _ (zs4 (zs1 (zs1 (zs0))))) (in_7 _ (zs4 (zs4 (zs4 (zs1 (zs0)))))) (in_7 _ (zs1 (zs1 (zs0)))) (in_7 _ (zs4 (zs4 (zs4 (zs1 (zs1 (zs0)))))))) rfl rfl rfl hz_yX7_asSign_1 ⟨(show 0 + 1 ≤ 7 * n + 9 from nl_1 (Nat.le_of_ble_eq_true rfl)), (show 8 + (1 + 11) + 40 * (0) ≤ 40 * (7 * n + 9) from nl_2 (Nat.le_of_ble_eq_true rfl))⟩) ⟨fun _ _ _ _ q => q, fun _ _ _ => ⟨rfl, trivial⟩⟩ rfl rfl hl.1 rfl (lv_room (Nat.le_of_ble_eq_true rfl)) dX10_readSum_53 ⟨Nat.le_of_ble_eq_true rfl, Nat.le_of_ble_eq_true rfl⟩) hS (fun r47 H1 locs1 hw hk1 hS => ?_)
            have hP := ub_keep hP hk1
            generalize H1 = H at hP hS ⊢
            generalize locs1 = locs at hS ⊢
            obtain ⟨f48, f49⟩ := hw
            refine th_vL (va_runV (As := [.int r47]) (rest := []) ⟨hx, hb, hml, hown, hts⟩ (q_addV l dC dI cT cf hC ad E40 H.size r47 hI) (cwV 1 hts (gi_V (in_9 _ (zs4 (zs1 (zs1 (zs1 (zs0)))))) (in_9 _ (zs4 (zs4 (zs0)))) (in_9 _ (zs4 (zs4 (zs1 (zs0))))) (in_8 _ (zs4 (zs4 (zs4 (zs1 (zs1 (zs0))))))) (in_7 _ (zs16 (zs4 (zs4 (zs4 (zs1 (zs0)))))))) rfl rfl rfl ⟨rfl, hz_yX10_add_1⟩ ⟨(show 0 + 1 ≤ 7 * n + 9 from nl_1 (Nat.le_of_ble_eq_true rfl)), (show 8 + (2 + 11) + 40 * (0) ≤ 40 * (7 * n + 9) from nl_2 (Nat.le_of_ble_eq_true rfl))⟩) ⟨HWL_bl, va_recv hK hP (ci := 11) (q0 := posL 2 (LC cf)) rfl (hI.ob 2 (mF 2 rfl) rfl), (HWL_wi hP hK (WL_D hD) hS hA hEV)⟩ rfl rfl hl.1 rfl (lv_room (Nat.le_of_ble_eq_true rfl)) dX10_readSum_56 ⟨Nat.le_of_ble_eq_true rfl, Nat.le_of_ble_eq_true rfl⟩) (WL_D hD) hS hA (fun E51 H locs hw hP hS => ?_)
            obtain ⟨hI, kq52, hw⟩ := hw
            have hKb := hKp
            have hKp := hKp.tr kq52 (wl_sub rfl rfl)
            obtain ⟨y53, ey53⟩ : ∃ y, xi (E51 2) 5 = y := ⟨_, rfl⟩
            have fy53 : xv (E51 2) 5 = .int y53 := (hI.fi 2 (mF 2 rfl) rfl (Nat.le_of_ble_eq_true rfl) rfl).trans (congrArg Value.int ey53)
            have i54 : 0 ≤ y53.toInt ∧ y53.toInt ≤ 200 := by rw [← ey53]; exact hI.iv 2 (mF 2 rfl) rfl (Nat.le_of_ble_eq_true rfl) rfl
            obtain ⟨f55, f56, f57⟩ := hw
            try rw [(show xi (E40 2) 5 = y42 from vi_e fy42)] at f55
            try rw [(show xi (E51 2) 5 = y53 from vi_e fy53)] at f55
            obtain ⟨y58, ey58⟩ : ∃ y : Int32, y = v7_2 + (1 : Int32) := ⟨_, rfl⟩
            obtain ⟨ty58, iy58⟩ := ti_add (e := 1) (f := 200) i16 ln_1 ey58 (by decide)
            have ty58 : y58.toInt = v7_2.toInt + 1 := ty58
            have iy58 : 1 ≤ y58.toInt ∧ y58.toInt ≤ 200 := iy58
            refine lv_iinc (v := y58) (lv' := [(2, .int y58), (3, .int y31), (0, .ref (ad 2)), (1, .int a0)]) hx hb dX10_readSum_59 hl (k := 1) rfl (by rw [ey58]; rfl) (by decide) rfl (fun ls hl => ?_)
            refine lv_goto (tgt := 7) hx hb dX10_readSum_62 (by decide) ?_
            exact ih7 y53 y58 E51 _ _ _ i54 (iv_w iy58 (by decide)) (by have h9 := i54; omega) (Lp.step (op := isAdd) (cb := jb) hx7_1 f26 (ix_add.mp f29.2) (by omega) k37 f45 f56 ty58 (fun t m => termS_mono false t m n) (fun t m a c h => opL_1 (termS_mono false t m n) rfl h)) (LpV.step (op := isAdd) hx7_1 hx7_2 f26 k27 (ix_add.mp f29.2) k37 k38 f45 f46 f56 (sgn_e f26 (by omega) hx7_1 (tT_e (E := E) fy22 ey31) (by omega)) f57 (fun t m a c h => opL_1 (termS_mono false t m n) rfl h)) (by first | exact ms_su hx7_3 ty58 (by decide) | omega) hI hKp fy53 hP hS (lv_sub hl [0, 2, 3] rfl)
        · -- isOneOfX, case 1
          obtain ⟨rfl, f59⟩ := hw
          refine lv_if_eq (tgt := 65) hx hb dX10_readSum_23 (by decide) (fun c60 => ?_) (fun c60 => ?_)
          · --23 taken
            rw [hQ]
            exact W.vret hx hb hr (fun t ht hW => ⟨⟨E20, rfl, ⟨hI, hKp, ⟨by (try rw [(show xi (E20 2) 5 = w7_2_5 from vi_e ((kq21 2 5 rfl).trans hs7_2_5))]); (try rw [ey1]); all_goals omega, Lp.exit (op := isAdd) hx7_1 f26 (no_add f59) (fun t m a c h => opL_0 h), LpV.exit (op := isAdd) hx7_1 hx7_2 f26 k27 (no_add f59) (fun t m a c h => opL_0 h)⟩⟩, by show va_P (dC, dI) vwCl (WL (LC cf) ad E20) t.heap; rw [ht]; exact hP⟩, hS.F ht⟩) hS.2.2 dX10_readSum_65
          · --23 not
            exact absurd c60 (by decide)
  exact hL7 (201) y7 (0 : Int32) E5 _ _ _ i8 (iv_w ln_0 (by decide)) (by have h9 := i8; omega) (Lp.start f10 lpS (by decide)) (LpV.start f11 lpS) (by have h9 := ln_0; first | exact ms_bu h9.1 (by decide) | omega) hI hKp fy7 hP hS (lv_sub hl [0, 1, 2] rfl)
set_option maxHeartbeats 4000000 in
set_option maxRecDepth 100000 in
theorem q_readComparisonV (l : Launch) (n : Nat) (gS : C_readSumV l n) : C_readComparisonV l n := by
  intro dC dI cT cf hC ad E sz a0 hI0 hh0 hh1
  obtain ⟨⟨hc0, hc1, hc2, hc3, hc4, hc5⟩, hcr⟩ := id hC
  refine Met.ofW (cc := cX10_readComparison) (maxL := 3) (ret := none) (by decide) rfl ?_
  intro p e s m args below meth c s₁ B hml hv
  obtain ⟨hargs, hsz, hP, hK, hD0, hEV⟩ := hv
  subst hsz
  have hx := B.exec
  have hb := B.bytes
  have hr := B.returns
  have hts := atoms_spec (ws := v_readComparisonV) B.pre
  have hown : s.vm.findClass RX10 = some m.cls := findClass_of_methodNamed B.named
  have hlocks := B.notSynchronized
  have hinX10 : ∀ w ∈ u_ws RX10 TX10 10, w ∈ v_readComparisonV := fun w h => vA_in _ w (in_X10 w h)
  generalize hAe : va_A (WL (LC cf) ad E) s.heap.size = A at hEV ⊢
  have hA : ∀ q : Nat, s.heap.size ≤ q → A q := fun q h => by rw [← hAe]; exact Or.inr h
  have hD : va_D A (WL (LC cf) ad E) := by rw [← hAe]; exact hD0.self
  have hS : va_S A s.heap s.heap [] := va_S.rf
  have hI := hI0
  have hKp : Kp w_readComparisonV E E := Kp.rf
  have hl := lv_entry ([.ref (ad 2), .int a0]) (n := 3) (Nat.le_of_ble_eq_true rfl)
  obtain ⟨Q, hQ⟩ : ∃ Q, Q = MQ below (va_Qv (S := Nat → va_E) (fun u => IXL cT (shC cf) (spC cf) (LC cf) ad u ∧ Kp w_readComparisonV E u ∧ (((xi (E 2) 5).toInt ≤ (xi (u 2) 5).toInt) ∧ (RdC (fun t m a => cmpS false t m n a) E u) ∧ (RdV (fun t m a => cmpS false t m n a) E u))) (HBL dC dI (LC cf) ad) (A)) args s 0 0 (A) := ⟨_, rfl⟩
  rw [← hQ, show entryFrame m args 3 = _ from (congrArg (fun z => entryFrame m z 3) hargs).trans (lg_entry_eq _ _ _)]
  generalize (lg_sl ([.ref (ad 2), .int a0]) ++ List.replicate (3 - (lg_sl ([.ref (ad 2), .int a0])).length) Slot.unset).toArray = ls at hl ⊢
  have hl : lv_has ls 3 [(0, .ref (ad 2)), (1, .int a0)] := hl
  obtain ⟨y1, ey1⟩ : ∃ y, xi (E 2) 5 = y := ⟨_, rfl⟩
  have fy1 : xv (E 2) 5 = .int y1 := (hI.fi 2 (mF 2 rfl) rfl (Nat.le_of_ble_eq_true rfl) rfl).trans (congrArg Value.int ey1)
  have i2 : 0 ≤ y1.toInt ∧ y1.toInt ≤ 200 := by rw [← ey1]; exact hI.iv 2 (mF 2 rfl) rfl (Nat.le_of_ble_eq_true rfl) rfl
  refine lv_aload_n hx hb dX10_readComparison_0 rfl (lv_at hl 0 rfl) ?_
  refine th_iL (va_runV (As := []) (rest := []) ⟨hx, hb, hml, hown, hts⟩ (q_nextX l dC dI cT cf hC ad E s.heap.size hI) (cwV 0 hts (gi_V (in_8 _ (zs16 (zs4 (zs4 (zs1 (zs1 (zs1 (zs0)))))))) (in_8 _ (zs16 (zs4 (zs4 (zs4 (zs0)))))) (in_8 _ (zs16 (zs4 (zs4 (zs4 (zs1 (zs0))))))) (in_8 _ (zs4 (zs4 (zs4 (zs1 (zs1 (zs0))))))) (in_8 _ (zs16 (zs1 (zs1 (zs1 (zs0))))))) rfl rfl rfl ⟨rfl, hz_yX10_next_0⟩ ⟨(show 0 + 1 ≤ 7 * n + 10 from nl_1 (Nat.le_of_ble_eq_true rfl)), (show 8 + (1 + 11) + 40 * (0) ≤ 40 * (7 * n + 10) from nl_2 (Nat.le_of_ble_eq_true rfl))⟩) ⟨HWL_bl, va_recv hK hP (ci := 11) (q0 := posL 2 (LC cf)) rfl (hI.ob 2 (mF 2 rfl) rfl), (HWL_wi hP hK (WL_D hD) hS hA hEV)⟩ rfl rfl hl.1 rfl (lv_room (Nat.le_of_ble_eq_true rfl)) dX10_readComparison_1 ⟨Nat.le_of_ble_eq_true rfl, Nat.le_of_ble_eq_true rfl⟩) (WL_D hD) hS hA (fun r3 E4 H locs hw hP hS => ?_)
  obtain ⟨hI, kq5, hw⟩ := hw
  have hKb := hKp
  have hKp := hKp.tr kq5 (wl_sub rfl rfl)
  obtain ⟨y6, ey6⟩ : ∃ y, xi (E4 2) 2 = y := ⟨_, rfl⟩
  have fy6 : xv (E4 2) 2 = .int y6 := (hI.fi 2 (mF 2 rfl) rfl (Nat.le_of_ble_eq_true rfl) rfl).trans (congrArg Value.int ey6)
  have i7 : 0 ≤ y6.toInt ∧ y6.toInt ≤ 200 := by rw [← ey6]; exact hI.iv 2 (mF 2 rfl) rfl (Nat.le_of_ble_eq_true rfl) rfl
  obtain ⟨f8, f9, f10⟩ := hw
  have i11 : 0 ≤ (xi (E 2) 1).toInt ∧ (xi (E 2) 1).toInt ≤ 200 := hI0.iv 2 (mF 2 rfl) rfl (Nat.le_of_ble_eq_true rfl) rfl
  try rw [(show xi (E4 2) 2 = y6 from vi_e fy6)] at f9
  have k12 : SZ E E4 := SZ.kp kq5 (fun _ => rfl) rfl
  refine lv_istore_n (lv' := [(2, .int r3), (0, .ref (ad 2)), (1, .int a0)]) hx hb dX10_readComparison_4 rfl hl (by decide) rfl (fun ls hl => ?_)
  obtain ⟨qs13, vs14, hRqs13, hSSqs13⟩ := hEV.2.1.2.2.1
  refine va_ldcS hx hb hown hRqs13 dX10_readComparison_5 ?_
  refine lv_iload_n hx hb dX10_readComparison_7 rfl (lv_at hl 0 rfl) ?_
  refine th_pi (va_runSN (As := [.ref qs13, .int r3]) (rest := []) ⟨hx, hb, hml, hown, hts⟩ (q_isOneOfX l qs13 vs14 tCMP r3 (by decide) (by decide) f8) ⟨va_cnB 2 hts (gi_0 (in_8 _ (zs16 (zs4 (zs4 (zs4 (zs1 (zs1 (zs1 (zs0)))))))))) rfl rfl rfl (hEV.1.1 _ (List.mem_of_getElem? (i := 12) rfl)) (hts _ (vA_in _ _ (in_4 _ (zs16 (zs4 (zs1 (zs1 (zs1 (zs0))))))))) hz_yX12_isOneOf_2 ⟨(show 4 + 1 ≤ 7 * n + 10 from nl_1 (Nat.le_of_ble_eq_true rfl)), (show 8 + (2 + 11) + 40 * (4) ≤ 40 * (7 * n + 10) from nl_2 (Nat.le_of_ble_eq_true rfl))⟩, (hts _ (vA_in _ _ (in_8 _ (zs16 (zs4 (zs4 (zs4 (zs1 (zs1 (zs0)))))))))), trivial⟩ ⟨fun a U g mk q => ⟨q.1, SS_c q.2⟩, fun U hU hW => ⟨rfl, SS_w hU hW hS (fun _ h => h.elim) hSSqs13⟩⟩ rfl rfl hl.1 rfl (lv_room (Nat.le_of_ble_eq_true rfl)) dX10_readComparison_8 ⟨Nat.le_of_ble_eq_true rfl, Nat.le_of_ble_eq_true rfl⟩) hS (fun r15 H1 locs1 hw hk1 hS => ?_)
  have hP := ub_keep hP hk1
  generalize H1 = H at hP hS ⊢
  generalize locs1 = locs at hS ⊢
  rcases hw with hw | hw
  · -- isOneOfX, case 0
    obtain ⟨rfl, f16⟩ := hw
    refine lv_if_ne (tgt := 19) hx hb dX10_readComparison_11 (by decide) (fun c17 => ?_) (fun c17 => ?_)
    · --11 taken
      refine lv_aload_n hx hb dX10_readComparison_19 rfl (lv_at hl 1 rfl) ?_
      refine lv_dup hx hb dX10_readComparison_20 rfl ?_
      refine th_getL (ci := 11) (C := RX10) (T := TX10) (N := 10) (v := .int y6) hx hb hts hinX10 hown hK hP hI 2 (mF 2 rfl) rfl rfl 2 (Nat.le_of_ble_eq_true rfl) (hts _ (vA_in _ _ (in_8 _ (zs4 (zs4 (zs1 (zs0))))))) (fun _ h9 => h9) fy6 dX10_readComparison_21 ?_
      refine lv_iconst (v := 1) hx hb dX10_readComparison_24 (by decide) ?_
      refine lv_iadd hx hb dX10_readComparison_25 ?_
      refine lv_topi (fun y18 ey18 => ?_)
      obtain ⟨ty18, iy18⟩ := ti_add (e := 1) (f := 201) i7 ln_1 ey18 (by decide)
      have ty18 : y18.toInt = y6.toInt + 1 := ty18
      have iy18 : 1 ≤ y18.toInt ∧ y18.toInt ≤ 201 := iy18
      have i19 : 1 ≤ y18.toInt ∧ y18.toInt ≤ 200 := by omega
      refine th_putL (ci := 11) (C := RX10) (T := TX10) (N := 10) (v := .int y18) (ty := .int) hx hb hts hinX10 tyX10 tyX10_ok nmX10 hown hK hP (WL_D hD) hS hI 2 (mF 2 rfl) rfl rfl 2 (Nat.le_of_ble_eq_true rfl) (hts _ (vA_in _ _ (in_8 _ (zs4 (zs4 (zs1 (zs0))))))) (fun _ h9 => h9) rfl (by decide +kernel) rfl rfl (okI rfl (iv_w i19 (by decide))) dX10_readComparison_26 (fun H locs E20 pw21 hI hP hS => ?_)
      have hKp := hKp.pw pw21 rfl
      have k22 : AtP E4 E20 := AtP.pw pw21.2 (vi_e fy6) (vi_e pw21.1) ty18 (by omega)
      have k23 : SZ E4 E20 := SZ.pw pw21 (by decide) (fun _ => by decide)
      refine lv_aload_n hx hb dX10_readComparison_29 rfl (lv_at hl 1 rfl) ?_
      refine lv_iload_n hx hb dX10_readComparison_30 rfl (lv_at hl 2 rfl) ?_
      refine th_vL (va_runV (As := [.int a0]) (rest := []) ⟨hx, hb, hml, hown, hts⟩ (gS dC dI cT cf hC ad E20 H.size a0 hI hh0 (by omega)) (cwV 1 hts (gi_V (in_8 _ (zs16 (zs16 (zs4 (zs1 (zs1 (zs1 (zs0)))))))) (in_9 _ zs0) (in_9 _ (zs1 (zs0))) (in_8 _ (zs4 (zs4 (zs4 (zs1 (zs1 (zs0))))))) (in_9 _ (zs1 (zs1 (zs0))))) rfl rfl rfl (by decide +kernel) ⟨(show 7 * n + 9 + 1 ≤ 7 * n + 10 from nl_4 (Nat.le_of_ble_eq_true rfl) (Nat.le_of_ble_eq_true rfl)), (show 8 + (4 + 11) + 40 * (7 * n + 9) ≤ 40 * (7 * n + 10) from nl_3 (Nat.le_of_ble_eq_true rfl) (Nat.le_of_ble_eq_true rfl))⟩) ⟨HWL_bl, va_recv hK hP (ci := 11) (q0 := posL 2 (LC cf)) rfl (hI.ob 2 (mF 2 rfl) rfl), (HWL_wi hP hK (WL_D hD) hS hA hEV)⟩ rfl rfl hl.1 rfl (lv_room (Nat.le_of_ble_eq_true rfl)) dX10_readComparison_31 ⟨Nat.le_of_ble_eq_true rfl, Nat.le_of_ble_eq_true rfl⟩) (WL_D hD) hS hA (fun E25 H locs hw hP hS => ?_)
      obtain ⟨hI, kq26, hw⟩ := hw
      have hKb := hKp
      have hKp := hKp.tr kq26 (wl_sub rfl rfl)
      obtain ⟨y27, ey27⟩ : ∃ y, xi (E25 2) 5 = y := ⟨_, rfl⟩
      have fy27 : xv (E25 2) 5 = .int y27 := (hI.fi 2 (mF 2 rfl) rfl (Nat.le_of_ble_eq_true rfl) rfl).trans (congrArg Value.int ey27)
      have i28 : 0 ≤ y27.toInt ∧ y27.toInt ≤ 200 := by rw [← ey27]; exact hI.iv 2 (mF 2 rfl) rfl (Nat.le_of_ble_eq_true rfl) rfl
      obtain ⟨f29, f30, f31⟩ := hw
      try rw [(show xi (E20 2) 5 = y1 from vi_e ((pw21.2 2 5 (fun q9 => absurd q9.2 (Nat.ne_of_beq_eq_false rfl))).trans ((kq5 2 5 rfl).trans fy1)))] at f29
      try rw [(show xi (E25 2) 5 = y27 from vi_e fy27)] at f29
      refine lv_aload_n hx hb dX10_readComparison_34 rfl (lv_at hl 1 rfl) ?_
      refine lv_iload_n hx hb dX10_readComparison_35 rfl (lv_at hl 0 rfl) ?_
      refine th_pi (va_runS (As := [.int r3]) (rest := [.ref (ad 2)]) ⟨hx, hb, hml, hown, hts⟩ (q_casSign l r3 (by omega)) (va_cwS 1 hts (gi_S (in_9 _ (zs4 (zs1 (zs1 (zs0))))) (in_7 _ (zs4 (zs4 (zs4 (zs1 (zs0)))))) (in_7 _ (zs1 (zs1 (zs0)))) (in_7 _ (zs4 (zs4 (zs4 (zs1 (zs1 (zs0)))))))) rfl rfl rfl hz_yX7_asSign_1 ⟨(show 0 + 1 ≤ 7 * n + 10 from nl_1 (Nat.le_of_ble_eq_true rfl)), (show 8 + (1 + 11) + 40 * (0) ≤ 40 * (7 * n + 10) from nl_2 (Nat.le_of_ble_eq_true rfl))⟩) ⟨fun _ _ _ _ q => q, fun _ _ _ => ⟨rfl, trivial⟩⟩ rfl rfl hl.1 rfl (lv_room (Nat.le_of_ble_eq_true rfl)) dX10_readComparison_36 ⟨Nat.le_of_ble_eq_true rfl, Nat.le_of_ble_eq_true rfl⟩) hS (fun r32 H1 locs1 hw hk1 hS => ?_)
      have hP := ub_keep hP hk1
      generalize H1 = H at hP hS ⊢
      generalize locs1 = locs at hS ⊢
      obtain ⟨f33, f34⟩ := hw
      refine th_vL (va_runV (As := [.int r32]) (rest := []) ⟨hx, hb, hml, hown, hts⟩ (q_addV l dC dI cT cf hC ad E25 H.size r32 hI) (cwV 1 hts (gi_V (in_9 _ (zs4 (zs1 (zs1 (zs1 (zs0)))))) (in_9 _ (zs4 (zs4 (zs0)))) (in_9 _ (zs4 (zs4 (zs1 (zs0))))) (in_8 _ (zs4 (zs4 (zs4 (zs1 (zs1 (zs0))))))) (in_7 _ (zs16 (zs4 (zs4 (zs4 (zs1 (zs0)))))))) rfl rfl rfl ⟨rfl, hz_yX10_add_1⟩ ⟨(show 0 + 1 ≤ 7 * n + 10 from nl_1 (Nat.le_of_ble_eq_true rfl)), (show 8 + (2 + 11) + 40 * (0) ≤ 40 * (7 * n + 10) from nl_2 (Nat.le_of_ble_eq_true rfl))⟩) ⟨HWL_bl, va_recv hK hP (ci := 11) (q0 := posL 2 (LC cf)) rfl (hI.ob 2 (mF 2 rfl) rfl), (HWL_wi hP hK (WL_D hD) hS hA hEV)⟩ rfl rfl hl.1 rfl (lv_room (Nat.le_of_ble_eq_true rfl)) dX10_readComparison_39 ⟨Nat.le_of_ble_eq_true rfl, Nat.le_of_ble_eq_true rfl⟩) (WL_D hD) hS hA (fun E36 H locs hw hP hS => ?_)
      obtain ⟨hI, kq37, hw⟩ := hw
      have hKb := hKp
      have hKp := hKp.tr kq37 (wl_sub rfl rfl)
      obtain ⟨y38, ey38⟩ : ∃ y, xi (E36 2) 5 = y := ⟨_, rfl⟩
      have fy38 : xv (E36 2) 5 = .int y38 := (hI.fi 2 (mF 2 rfl) rfl (Nat.le_of_ble_eq_true rfl) rfl).trans (congrArg Value.int ey38)
      have i39 : 0 ≤ y38.toInt ∧ y38.toInt ≤ 200 := by rw [← ey38]; exact hI.iv 2 (mF 2 rfl) rfl (Nat.le_of_ble_eq_true rfl) rfl
      obtain ⟨f40, f41, f42⟩ := hw
      try rw [(show xi (E25 2) 5 = y27 from vi_e fy27)] at f40
      try rw [(show xi (E36 2) 5 = y38 from vi_e fy38)] at f40
      rw [hQ]
      exact W.vret hx hb hr (fun t ht hW => ⟨⟨E36, rfl, ⟨hI, hKp, ⟨by (try rw [(show xi (E36 2) 5 = y38 from vi_e fy38)]); (try rw [ey1]); all_goals omega, cmC f10 (ix_cmp.mp f16.2) k22 f30 f41, cmV f10 k12 (ix_cmp.mp f16.2) k22 k23 f30 f31 f41 (by omega) f42⟩⟩, by show va_P (dC, dI) vwCl (WL (LC cf) ad E36) t.heap; rw [ht]; exact hP⟩, hS.F ht⟩) hS.2.2 dX10_readComparison_42
    · --11 not
      exact absurd c17 (by decide)
  · -- isOneOfX, case 1
    obtain ⟨rfl, f43⟩ := hw
    refine lv_if_ne (tgt := 19) hx hb dX10_readComparison_11 (by decide) (fun c44 => ?_) (fun c44 => ?_)
    · --11 taken
      exact absurd c44 (by decide)
    · --11 not
      refine lv_aload_n hx hb dX10_readComparison_14 rfl (lv_at hl 1 rfl) ?_
      refine th_vL (va_runV (As := []) (rest := []) ⟨hx, hb, hml, hown, hts⟩ (q_failX l dC dI cT cf hC ad E4 H.size hI) (cwV 0 hts (gi_V (in_8 _ (zs4 (zs4 (zs1 (zs1 (zs1 (zs0))))))) (in_8 _ (zs4 (zs4 (zs4 (zs0))))) (in_8 _ (zs4 (zs4 (zs4 (zs1 (zs0)))))) (in_8 _ (zs4 (zs4 (zs4 (zs1 (zs1 (zs0))))))) (in_8 _ (zs4 (zs1 (zs1 (zs1 (zs0))))))) rfl rfl rfl ⟨rfl, hz_yX10_fail_0⟩ ⟨(show 0 + 1 ≤ 7 * n + 10 from nl_1 (Nat.le_of_ble_eq_true rfl)), (show 8 + (1 + 11) + 40 * (0) ≤ 40 * (7 * n + 10) from nl_2 (Nat.le_of_ble_eq_true rfl))⟩) ⟨HWL_bl, va_recv hK hP (ci := 11) (q0 := posL 2 (LC cf)) rfl (hI.ob 2 (mF 2 rfl) rfl), (HWL_wi hP hK (WL_D hD) hS hA hEV)⟩ rfl rfl hl.1 rfl (lv_room (Nat.le_of_ble_eq_true rfl)) dX10_readComparison_15 ⟨Nat.le_of_ble_eq_true rfl, Nat.le_of_ble_eq_true rfl⟩) (WL_D hD) hS hA (fun E46 H locs hw hP hS => ?_)
      obtain ⟨hI, kq47, hw⟩ := hw
      have hKb := hKp
      have hKp := hKp.tr kq47 (wl_sub rfl rfl)
      have f48 := hw
      rw [hQ]
      exact W.vret hx hb hr (fun t ht hW => ⟨⟨E46, rfl, ⟨hI, hKp, ⟨by (try rw [(show xi (E46 2) 5 = y1 from vi_e ((kq47 2 5 rfl).trans ((kq5 2 5 rfl).trans fy1)))]); (try rw [ey1]); all_goals omega, cmC_no f10 (no_cmp f43) f48, RdV.no f48⟩⟩, by show va_P (dC, dI) vwCl (WL (LC cf) ad E46) t.heap; rw [ht]; exact hP⟩, hS.F ht⟩) hS.2.2 dX10_readComparison_18
set_option maxHeartbeats 4000000 in
set_option maxRecDepth 100000 in
theorem q_readUnitV (l : Launch) (n : Nat) (gS : C_readSumV l n) (gC : C_readComparisonV l n) (gU : ∀ k, k < n → C_readUnitV l k) (gO : ∀ k, k < n → C_readConditionV l k) : C_readUnitV l n := by
  intro dC dI cT cf hC ad E sz a0 a1 hI0 hh0 hh1 hh2
  obtain ⟨⟨hc0, hc1, hc2, hc3, hc4, hc5⟩, hcr⟩ := id hC
  refine Met.ofW (cc := cX10_readUnit) (maxL := 4) (ret := none) (by decide) rfl ?_
  intro p e s m args below meth c s₁ B hml hv
  obtain ⟨hargs, hsz, hP, hK, hD0, hEV⟩ := hv
  subst hsz
  have hx := B.exec
  have hb := B.bytes
  have hr := B.returns
  have hts := atoms_spec (ws := v_readUnitV) B.pre
  have hown : s.vm.findClass RX10 = some m.cls := findClass_of_methodNamed B.named
  have hlocks := B.notSynchronized
  generalize hAe : va_A (WL (LC cf) ad E) s.heap.size = A at hEV ⊢
  have hA : ∀ q : Nat, s.heap.size ≤ q → A q := fun q h => by rw [← hAe]; exact Or.inr h
  have hD : va_D A (WL (LC cf) ad E) := by rw [← hAe]; exact hD0.self
  have hS : va_S A s.heap s.heap [] := va_S.rf
  have hI := hI0
  have hKp : Kp w_readUnitV E E := Kp.rf
  have hl := lv_entry ([.ref (ad 2), .int a0, .int a1]) (n := 4) (Nat.le_of_ble_eq_true rfl)
  obtain ⟨Q, hQ⟩ : ∃ Q, Q = MQ below (va_Qv (S := Nat → va_E) (fun u => IXL cT (shC cf) (spC cf) (LC cf) ad u ∧ Kp w_readUnitV E u ∧ (((xi (E 2) 5).toInt ≤ (xi (u 2) 5).toInt) ∧ (RdC (unX a1 n) E u) ∧ (RdV (unX a1 n) E u))) (HBL dC dI (LC cf) ad) (A)) args s 0 0 (A) := ⟨_, rfl⟩
  rw [← hQ, show entryFrame m args 4 = _ from (congrArg (fun z => entryFrame m z 4) hargs).trans (lg_entry_eq _ _ _)]
  generalize (lg_sl ([.ref (ad 2), .int a0, .int a1]) ++ List.replicate (4 - (lg_sl ([.ref (ad 2), .int a0, .int a1])).length) Slot.unset).toArray = ls at hl ⊢
  have hl : lv_has ls 4 [(0, .ref (ad 2)), (1, .int a0), (2, .int a1)] := hl
  obtain ⟨y1, ey1⟩ : ∃ y, xi (E 2) 5 = y := ⟨_, rfl⟩
  have fy1 : xv (E 2) 5 = .int y1 := (hI.fi 2 (mF 2 rfl) rfl (Nat.le_of_ble_eq_true rfl) rfl).trans (congrArg Value.int ey1)
  have i2 : 0 ≤ y1.toInt ∧ y1.toInt ≤ 200 := by rw [← ey1]; exact hI.iv 2 (mF 2 rfl) rfl (Nat.le_of_ble_eq_true rfl) rfl
  refine lv_iload_n hx hb dX10_readUnit_0 rfl (lv_at hl 2 rfl) ?_
  refine lv_if_eq (tgt := 8) hx hb dX10_readUnit_1 (by decide) (fun c3 => ?_) (fun c3 => ?_)
  · --1 taken
    have t4 : a1.toInt = 0 := ti_eq c3
    have i5 : 0 ≤ a1.toInt ∧ a1.toInt ≤ 0 := iv_eqi t4 hh2 (il_ 0) (by decide)
    refine lv_aload_n hx hb dX10_readUnit_8 rfl (lv_at hl 0 rfl) ?_
    refine th_iL (va_runV (As := []) (rest := []) ⟨hx, hb, hml, hown, hts⟩ (q_nextX l dC dI cT cf hC ad E s.heap.size hI) (cwV 0 hts (gi_V (in_8 _ (zs16 (zs4 (zs4 (zs1 (zs1 (zs1 (zs0)))))))) (in_8 _ (zs16 (zs4 (zs4 (zs4 (zs0)))))) (in_8 _ (zs16 (zs4 (zs4 (zs4 (zs1 (zs0))))))) (in_8 _ (zs4 (zs4 (zs4 (zs1 (zs1 (zs0))))))) (in_8 _ (zs16 (zs1 (zs1 (zs1 (zs0))))))) rfl rfl rfl ⟨rfl, hz_yX10_next_0⟩ ⟨(show 0 + 1 ≤ 7 * n + 11 from nl_1 (Nat.le_of_ble_eq_true rfl)), (show 8 + (1 + 11) + 40 * (0) ≤ 40 * (7 * n + 11) from nl_2 (Nat.le_of_ble_eq_true rfl))⟩) ⟨HWL_bl, va_recv hK hP (ci := 11) (q0 := posL 2 (LC cf)) rfl (hI.ob 2 (mF 2 rfl) rfl), (HWL_wi hP hK (WL_D hD) hS hA hEV)⟩ rfl rfl hl.1 rfl (lv_room (Nat.le_of_ble_eq_true rfl)) dX10_readUnit_9 ⟨Nat.le_of_ble_eq_true rfl, Nat.le_of_ble_eq_true rfl⟩) (WL_D hD) hS hA (fun r6 E7 H locs hw hP hS => ?_)
    obtain ⟨hI, kq8, hw⟩ := hw
    have hKb := hKp
    have hKp := hKp.tr kq8 (wl_sub rfl rfl)
    obtain ⟨y9, ey9⟩ : ∃ y, xi (E7 2) 2 = y := ⟨_, rfl⟩
    have fy9 : xv (E7 2) 2 = .int y9 := (hI.fi 2 (mF 2 rfl) rfl (Nat.le_of_ble_eq_true rfl) rfl).trans (congrArg Value.int ey9)
    have i10 : 0 ≤ y9.toInt ∧ y9.toInt ≤ 200 := by rw [← ey9]; exact hI.iv 2 (mF 2 rfl) rfl (Nat.le_of_ble_eq_true rfl) rfl
    obtain ⟨f11, f12, f13⟩ := hw
    have i14 : 0 ≤ (xi (E 2) 1).toInt ∧ (xi (E 2) 1).toInt ≤ 200 := hI0.iv 2 (mF 2 rfl) rfl (Nat.le_of_ble_eq_true rfl) rfl
    try rw [(show xi (E7 2) 2 = y9 from vi_e fy9)] at f12
    have k15 : SZ E E7 := SZ.kp kq8 (fun _ => rfl) rfl
    refine lv_istore_n (lv' := [(3, .int r6), (0, .ref (ad 2)), (1, .int a0), (2, .int a1)]) hx hb dX10_readUnit_12 rfl hl (by decide) rfl (fun ls hl => ?_)
    refine lv_iload_n hx hb dX10_readUnit_13 rfl (lv_at hl 0 rfl) ?_
    refine lv_bipush (v := 33) hx hb dX10_readUnit_14 (by decide) ?_
    refine lv_icmp_ne (tgt := 48) hx hb dX10_readUnit_16 (by decide) (fun c16 => ?_) (fun c16 => ?_)
    · --16 taken
      have t17 : ¬ r6.toInt = 33 := ti_ne c16
      refine lv_iload_n hx hb dX10_readUnit_48 rfl (lv_at hl 0 rfl) ?_
      refine lv_bipush (v := 40) hx hb dX10_readUnit_49 (by decide) ?_
      refine lv_icmp_ne (tgt := 80) hx hb dX10_readUnit_51 (by decide) (fun c18 => ?_) (fun c18 => ?_)
      · --51 taken
        have t19 : ¬ r6.toInt = 40 := ti_ne c18
        refine lv_iload_n hx hb dX10_readUnit_80 rfl (lv_at hl 3 rfl) ?_
        refine lv_if_ne (tgt := 89) hx hb dX10_readUnit_81 (by decide) (fun c20 => ?_) (fun c20 => ?_)
        · --81 taken
          have t21 : ¬ a1.toInt = 0 := ti_ne c20
          have i22 : 1 ≤ a1.toInt ∧ a1.toInt ≤ 0 := iv_ne_l t21 i5 (il_ 0)
          exact iv_no i22 (by decide)
        · --81 not
          have t23 : a1.toInt = 0 := ti_eq c20
          refine lv_aload_n hx hb dX10_readUnit_84 rfl (lv_at hl 1 rfl) ?_
          refine lv_iload_n hx hb dX10_readUnit_85 rfl (lv_at hl 2 rfl) ?_
          refine th_vL (va_runV (As := [.int a0]) (rest := []) ⟨hx, hb, hml, hown, hts⟩ (gS dC dI cT cf hC ad E7 H.size a0 hI hh0 (by omega)) (cwV 1 hts (gi_V (in_8 _ (zs16 (zs16 (zs4 (zs1 (zs1 (zs1 (zs0)))))))) (in_9 _ zs0) (in_9 _ (zs1 (zs0))) (in_8 _ (zs4 (zs4 (zs4 (zs1 (zs1 (zs0))))))) (in_9 _ (zs1 (zs1 (zs0))))) rfl rfl rfl (by decide +kernel) ⟨(show 7 * n + 9 + 1 ≤ 7 * n + 11 from nl_4 (Nat.le_of_ble_eq_true rfl) (Nat.le_of_ble_eq_true rfl)), (show 8 + (4 + 11) + 40 * (7 * n + 9) ≤ 40 * (7 * n + 11) from nl_3 (Nat.le_of_ble_eq_true rfl) (Nat.le_of_ble_eq_true rfl))⟩) ⟨HWL_bl, va_recv hK hP (ci := 11) (q0 := posL 2 (LC cf)) rfl (hI.ob 2 (mF 2 rfl) rfl), (HWL_wi hP hK (WL_D hD) hS hA hEV)⟩ rfl rfl hl.1 rfl (lv_room (Nat.le_of_ble_eq_true rfl)) dX10_readUnit_86 ⟨Nat.le_of_ble_eq_true rfl, Nat.le_of_ble_eq_true rfl⟩) (WL_D hD) hS hA (fun E25 H locs hw hP hS => ?_)
          obtain ⟨hI, kq26, hw⟩ := hw
          have hKb := hKp
          have hKp := hKp.tr kq26 (wl_sub rfl rfl)
          obtain ⟨y27, ey27⟩ : ∃ y, xi (E25 2) 5 = y := ⟨_, rfl⟩
          have fy27 : xv (E25 2) 5 = .int y27 := (hI.fi 2 (mF 2 rfl) rfl (Nat.le_of_ble_eq_true rfl) rfl).trans (congrArg Value.int ey27)
          have i28 : 0 ≤ y27.toInt ∧ y27.toInt ≤ 200 := by rw [← ey27]; exact hI.iv 2 (mF 2 rfl) rfl (Nat.le_of_ble_eq_true rfl) rfl
          obtain ⟨f29, f30, f31⟩ := hw
          try rw [(show xi (E7 2) 5 = y1 from vi_e ((kq8 2 5 rfl).trans fy1))] at f29
          try rw [(show xi (E25 2) 5 = y27 from vi_e fy27)] at f29
          refine lv_aload_n hx hb dX10_readUnit_89 rfl (lv_at hl 1 rfl) ?_
          refine lv_iload_n hx hb dX10_readUnit_90 rfl (lv_at hl 2 rfl) ?_
          refine th_vL (va_runV (As := [.int a0]) (rest := []) ⟨hx, hb, hml, hown, hts⟩ (gC dC dI cT cf hC ad E25 H.size a0 hI hh0 (by omega)) (cwV 1 hts (gi_V (in_10 _ zs0) (in_10 _ (zs1 (zs0))) (in_10 _ (zs1 (zs1 (zs0)))) (in_8 _ (zs4 (zs4 (zs4 (zs1 (zs1 (zs0))))))) (in_10 _ (zs1 (zs1 (zs1 (zs0)))))) rfl rfl rfl (by decide +kernel) ⟨(show 7 * n + 10 + 1 ≤ 7 * n + 11 from nl_4 (Nat.le_of_ble_eq_true rfl) (Nat.le_of_ble_eq_true rfl)), (show 8 + (3 + 11) + 40 * (7 * n + 10) ≤ 40 * (7 * n + 11) from nl_3 (Nat.le_of_ble_eq_true rfl) (Nat.le_of_ble_eq_true rfl))⟩) ⟨HWL_bl, va_recv hK hP (ci := 11) (q0 := posL 2 (LC cf)) rfl (hI.ob 2 (mF 2 rfl) rfl), (HWL_wi hP hK (WL_D hD) hS hA hEV)⟩ rfl rfl hl.1 rfl (lv_room (Nat.le_of_ble_eq_true rfl)) dX10_readUnit_91 ⟨Nat.le_of_ble_eq_true rfl, Nat.le_of_ble_eq_true rfl⟩) (WL_D hD) hS hA (fun E33 H locs hw hP hS => ?_)
          obtain ⟨hI, kq34, hw⟩ := hw
          have hKb := hKp
          have hKp := hKp.tr kq34 (wl_sub rfl rfl)
          obtain ⟨y35, ey35⟩ : ∃ y, xi (E33 2) 5 = y := ⟨_, rfl⟩
          have fy35 : xv (E33 2) 5 = .int y35 := (hI.fi 2 (mF 2 rfl) rfl (Nat.le_of_ble_eq_true rfl) rfl).trans (congrArg Value.int ey35)
          have i36 : 0 ≤ y35.toInt ∧ y35.toInt ≤ 200 := by rw [← ey35]; exact hI.iv 2 (mF 2 rfl) rfl (Nat.le_of_ble_eq_true rfl) rfl
          obtain ⟨f37, f38, f39⟩ := hw
          try rw [(show xi (E25 2) 5 = y27 from vi_e fy27)] at f37
          try rw [(show xi (E33 2) 5 = y35 from vi_e fy35)] at f37
          rw [hQ]
          exact W.vret hx hb hr (fun t ht hW => ⟨⟨E33, rfl, ⟨hI, hKp, ⟨by (try rw [(show xi (E33 2) 5 = y35 from vi_e fy35)]); (try rw [ey1]); all_goals omega, unC_c (by omega) f13 (by omega) (by omega) f30 f38, unV_c (by omega) f13 k15 (by omega) (by omega) f30 f31 f38 f39⟩⟩, by show va_P (dC, dI) vwCl (WL (LC cf) ad E33) t.heap; rw [ht]; exact hP⟩, hS.F ht⟩) hS.2.2 dX10_readUnit_94
      · --51 not
        have t40 : r6.toInt = 40 := ti_eq c18
        have i41 : 40 ≤ r6.toInt ∧ r6.toInt ≤ 40 := iv_eqi t40 f11 (il_ 40) (by decide)
        refine lv_aload_n hx hb dX10_readUnit_54 rfl (lv_at hl 1 rfl) ?_
        refine lv_iload_n hx hb dX10_readUnit_55 rfl (lv_at hl 2 rfl) ?_
        refine th_iL (va_runV (As := [.int a0]) (rest := []) ⟨hx, hb, hml, hown, hts⟩ (q_goDeeperX l dC dI cT cf hC ad E7 H.size a0 hI hh0 (by (try rw [(show xi (E7 2) 2 = y9 from vi_e fy9)]); (try rw [hKp.ei 2 1 rfl]); omega)) (cwV 1 hts (gi_V (in_9 _ (zs16 (zs4 (zs1 (zs0))))) (in_9 _ (zs16 (zs4 (zs1 (zs1 (zs0)))))) (in_9 _ (zs16 (zs4 (zs1 (zs1 (zs1 (zs0))))))) (in_8 _ (zs4 (zs4 (zs4 (zs1 (zs1 (zs0))))))) (in_8 _ (zs4 (zs4 (zs1 (zs1 (zs0))))))) rfl rfl rfl ⟨rfl, hz_yX10_goDeeper_1⟩ ⟨(show 1 + 1 ≤ 7 * n + 11 from nl_1 (Nat.le_of_ble_eq_true rfl)), (show 8 + (2 + 11) + 40 * (1) ≤ 40 * (7 * n + 11) from nl_2 (Nat.le_of_ble_eq_true rfl))⟩) ⟨HWL_bl, va_recv hK hP (ci := 11) (q0 := posL 2 (LC cf)) rfl (hI.ob 2 (mF 2 rfl) rfl), (HWL_wi hP hK (WL_D hD) hS hA hEV)⟩ rfl rfl hl.1 rfl (lv_room (Nat.le_of_ble_eq_true rfl)) dX10_readUnit_56 ⟨Nat.le_of_ble_eq_true rfl, Nat.le_of_ble_eq_true rfl⟩) (WL_D hD) hS hA (fun r42 E43 H locs hw hP hS => ?_)
        obtain ⟨hI, kq44, hw⟩ := hw
        have hKb := hKp
        have hKp := hKp.tr kq44 (wl_sub rfl rfl)
        rcases hw with hw | hw
        · -- goDeeperX, case 0
          obtain ⟨rfl, f45, f46⟩ := hw
          obtain ⟨k9, hk9⟩ : ∃ k9, n = k9 + 1 := ⟨n - 1, by omega⟩
          have k47 : SZ E7 E43 := SZ.kp kq44 (fun _ => rfl) rfl
          refine lv_if_ne (tgt := 63) hx hb dX10_readUnit_59 (by decide) (fun c48 => ?_) (fun c48 => ?_)
          · --59 taken
            refine lv_aload_n hx hb dX10_readUnit_63 rfl (lv_at hl 1 rfl) ?_
            refine lv_iload_n hx hb dX10_readUnit_64 rfl (lv_at hl 2 rfl) ?_
            refine lv_iconst (v := 1) hx hb dX10_readUnit_65 (by decide) ?_
            refine lv_iadd hx hb dX10_readUnit_66 ?_
            refine lv_topi (fun y49 ey49 => ?_)
            obtain ⟨ty49, iy49⟩ := ti_add (e := 1) (f := 8) f45 ln_1 ey49 (by decide)
            have ty49 : y49.toInt = a0.toInt + 1 := ty49
            have iy49 : 1 ≤ y49.toInt ∧ y49.toInt ≤ 8 := iy49
            refine lv_iconst (v := 0) hx hb dX10_readUnit_67 (by decide) ?_
            have z0 := ln_0
            refine th_vL (va_runV (As := [.int y49, .int 0]) (rest := []) ⟨hx, hb, hml, hown, hts⟩ ((gO k9 (by omega)) dC dI cT cf hC ad E43 H.size y49 (0 : Int32) hI (iv_w iy49 (by decide)) (by omega) (iv_w ln_0 (by decide))) (cwV 2 hts (gi_V (in_9 _ (zs16 (zs4 (zs4 (zs4 (zs0)))))) (in_9 _ (zs16 (zs4 (zs4 (zs4 (zs1 (zs0))))))) (in_9 _ (zs16 (zs4 (zs4 (zs4 (zs1 (zs1 (zs0)))))))) (in_8 _ (zs4 (zs4 (zs4 (zs1 (zs1 (zs0))))))) (in_9 _ (zs16 (zs4 (zs4 (zs4 (zs1 (zs1 (zs1 (zs0)))))))))) rfl rfl rfl (by decide +kernel) ⟨(show 7 * k9 + 13 + 1 ≤ 7 * n + 11 by omega), (show 8 + (4 + 11) + 40 * (7 * k9 + 13) ≤ 40 * (7 * n + 11) by omega)⟩) ⟨HWL_bl, va_recv hK hP (ci := 11) (q0 := posL 2 (LC cf)) rfl (hI.ob 2 (mF 2 rfl) rfl), (HWL_wi hP hK (WL_D hD) hS hA hEV)⟩ rfl rfl hl.1 rfl (lv_room (Nat.le_of_ble_eq_true rfl)) dX10_readUnit_68 ⟨Nat.le_of_ble_eq_true rfl, Nat.le_of_ble_eq_true rfl⟩) (WL_D hD) hS hA (fun E51 H locs hw hP hS => ?_)
            obtain ⟨hI, kq52, hw⟩ := hw
            have hKb := hKp
            have hKp := hKp.tr kq52 (wl_sub rfl rfl)
            obtain ⟨y53, ey53⟩ : ∃ y, xi (E51 2) 5 = y := ⟨_, rfl⟩
            have fy53 : xv (E51 2) 5 = .int y53 := (hI.fi 2 (mF 2 rfl) rfl (Nat.le_of_ble_eq_true rfl) rfl).trans (congrArg Value.int ey53)
            have i54 : 0 ≤ y53.toInt ∧ y53.toInt ≤ 200 := by rw [← ey53]; exact hI.iv 2 (mF 2 rfl) rfl (Nat.le_of_ble_eq_true rfl) rfl
            obtain ⟨f55, f56, f57⟩ := hw
            try rw [(show xi (E43 2) 5 = y1 from vi_e ((kq44 2 5 rfl).trans ((kq8 2 5 rfl).trans fy1)))] at f55
            try rw [(show xi (E51 2) 5 = y53 from vi_e fy53)] at f55
            refine lv_aload_n hx hb dX10_readUnit_71 rfl (lv_at hl 1 rfl) ?_
            refine lv_bipush (v := 41) hx hb dX10_readUnit_72 (by decide) ?_
            refine th_vL (va_runV (As := [.int 41]) (rest := []) ⟨hx, hb, hml, hown, hts⟩ (q_takeX l dC dI cT cf hC ad E51 H.size (41 : Int32) hI (iv_w ln_41 (by decide))) (cwV 1 hts (gi_V (in_8 _ (zs16 (zs16 (zs1 (zs1 (zs1 (zs0))))))) (in_8 _ (zs16 (zs16 (zs4 (zs0))))) (in_8 _ (zs16 (zs16 (zs4 (zs1 (zs0)))))) (in_8 _ (zs4 (zs4 (zs4 (zs1 (zs1 (zs0))))))) (in_8 _ (zs16 (zs16 (zs4 (zs1 (zs1 (zs0)))))))) rfl rfl rfl ⟨rfl, hz_yX10_take_1⟩ ⟨(show 1 + 1 ≤ 7 * n + 11 from nl_1 (Nat.le_of_ble_eq_true rfl)), (show 8 + (2 + 11) + 40 * (1) ≤ 40 * (7 * n + 11) from nl_2 (Nat.le_of_ble_eq_true rfl))⟩) ⟨HWL_bl, va_recv hK hP (ci := 11) (q0 := posL 2 (LC cf)) rfl (hI.ob 2 (mF 2 rfl) rfl), (HWL_wi hP hK (WL_D hD) hS hA hEV)⟩ rfl rfl hl.1 rfl (lv_room (Nat.le_of_ble_eq_true rfl)) dX10_readUnit_74 ⟨Nat.le_of_ble_eq_true rfl, Nat.le_of_ble_eq_true rfl⟩) (WL_D hD) hS hA (fun E59 H locs hw hP hS => ?_)
            obtain ⟨hI, kq60, hw⟩ := hw
            have hKb := hKp
            have hKp := hKp.tr kq60 (wl_sub rfl rfl)
            have f61 := hw
            have k62 : SZ E51 E59 := SZ.kp kq60 (fun _ => rfl) rfl
            refine lv_goto (tgt := 94) hx hb dX10_readUnit_77 (by decide) ?_
            rw [hQ]
            exact W.vret hx hb hr (fun t ht hW => ⟨⟨E59, rfl, ⟨hI, hKp, ⟨by (try rw [(show xi (E59 2) 5 = y53 from vi_e ((kq60 2 5 rfl).trans fy53))]); (try rw [ey1]); all_goals omega, unC_p (by omega) f13 (by omega) f46 f56 f61 hk9, unV_p (by omega) f13 k15 (by omega) f46 k47 f56 f57 f61 k62 hk9⟩⟩, by show va_P (dC, dI) vwCl (WL (LC cf) ad E59) t.heap; rw [ht]; exact hP⟩, hS.F ht⟩) hS.2.2 dX10_readUnit_94
          · --59 not
            exact absurd c48 (by decide)
        · -- goDeeperX, case 1
          obtain ⟨rfl, f63, f64⟩ := hw
          have k65 : SZ E7 E43 := SZ.kp kq44 (fun _ => rfl) rfl
          refine lv_if_ne (tgt := 63) hx hb dX10_readUnit_59 (by decide) (fun c66 => ?_) (fun c66 => ?_)
          · --59 taken
            exact absurd c66 (by decide)
          · --59 not
            rw [hQ]
            exact W.vret hx hb hr (fun t ht hW => ⟨⟨E43, rfl, ⟨hI, hKp, ⟨by (try rw [(show xi (E43 2) 5 = y1 from vi_e ((kq44 2 5 rfl).trans ((kq8 2 5 rfl).trans fy1)))]); (try rw [ey1]); all_goals omega, unC_p0 (by omega) f13 (by omega) f64 (by omega), RdV.no f64⟩⟩, by show va_P (dC, dI) vwCl (WL (LC cf) ad E43) t.heap; rw [ht]; exact hP⟩, hS.F ht⟩) hS.2.2 dX10_readUnit_62
    · --16 not
      have t67 : r6.toInt = 33 := ti_eq c16
      have i68 : 33 ≤ r6.toInt ∧ r6.toInt ≤ 33 := iv_eqi t67 f11 (il_ 33) (by decide)
      refine lv_aload_n hx hb dX10_readUnit_19 rfl (lv_at hl 1 rfl) ?_
      refine lv_iload_n hx hb dX10_readUnit_20 rfl (lv_at hl 2 rfl) ?_
      refine th_iL (va_runV (As := [.int a0]) (rest := []) ⟨hx, hb, hml, hown, hts⟩ (q_goDeeperX l dC dI cT cf hC ad E7 H.size a0 hI hh0 (by (try rw [(show xi (E7 2) 2 = y9 from vi_e fy9)]); (try rw [hKp.ei 2 1 rfl]); omega)) (cwV 1 hts (gi_V (in_9 _ (zs16 (zs4 (zs1 (zs0))))) (in_9 _ (zs16 (zs4 (zs1 (zs1 (zs0)))))) (in_9 _ (zs16 (zs4 (zs1 (zs1 (zs1 (zs0))))))) (in_8 _ (zs4 (zs4 (zs4 (zs1 (zs1 (zs0))))))) (in_8 _ (zs4 (zs4 (zs1 (zs1 (zs0))))))) rfl rfl rfl ⟨rfl, hz_yX10_goDeeper_1⟩ ⟨(show 1 + 1 ≤ 7 * n + 11 from nl_1 (Nat.le_of_ble_eq_true rfl)), (show 8 + (2 + 11) + 40 * (1) ≤ 40 * (7 * n + 11) from nl_2 (Nat.le_of_ble_eq_true rfl))⟩) ⟨HWL_bl, va_recv hK hP (ci := 11) (q0 := posL 2 (LC cf)) rfl (hI.ob 2 (mF 2 rfl) rfl), (HWL_wi hP hK (WL_D hD) hS hA hEV)⟩ rfl rfl hl.1 rfl (lv_room (Nat.le_of_ble_eq_true rfl)) dX10_readUnit_21 ⟨Nat.le_of_ble_eq_true rfl, Nat.le_of_ble_eq_true rfl⟩) (WL_D hD) hS hA (fun r69 E70 H locs hw hP hS => ?_)
      obtain ⟨hI, kq71, hw⟩ := hw
      have hKb := hKp
      have hKp := hKp.tr kq71 (wl_sub rfl rfl)
      rcases hw with hw | hw
      · -- goDeeperX, case 0
        obtain ⟨rfl, f72, f73⟩ := hw
        obtain ⟨k9, hk9⟩ : ∃ k9, n = k9 + 1 := ⟨n - 1, by omega⟩
        have k74 : SZ E7 E70 := SZ.kp kq71 (fun _ => rfl) rfl
        refine lv_if_ne (tgt := 28) hx hb dX10_readUnit_24 (by decide) (fun c75 => ?_) (fun c75 => ?_)
        · --24 taken
          refine lv_aload_n hx hb dX10_readUnit_28 rfl (lv_at hl 1 rfl) ?_
          refine lv_iload_n hx hb dX10_readUnit_29 rfl (lv_at hl 2 rfl) ?_
          refine lv_iconst (v := 1) hx hb dX10_readUnit_30 (by decide) ?_
          refine lv_iadd hx hb dX10_readUnit_31 ?_
          refine lv_topi (fun y76 ey76 => ?_)
          obtain ⟨ty76, iy76⟩ := ti_add (e := 1) (f := 8) f72 ln_1 ey76 (by decide)
          have ty76 : y76.toInt = a0.toInt + 1 := ty76
          have iy76 : 1 ≤ y76.toInt ∧ y76.toInt ≤ 8 := iy76
          refine lv_iconst (v := 0) hx hb dX10_readUnit_32 (by decide) ?_
          have z0 := ln_0
          refine th_vL (va_runV (As := [.int y76, .int 0]) (rest := []) ⟨hx, hb, hml, hown, hts⟩ ((gU k9 (by omega)) dC dI cT cf hC ad E70 H.size y76 (0 : Int32) hI (iv_w iy76 (by decide)) (by omega) (iv_w ln_0 (by decide))) (cwV 2 hts (gi_V (in_9 _ (zs16 (zs16 (zs4 (zs0))))) (in_9 _ (zs16 (zs16 (zs4 (zs1 (zs0)))))) (in_9 _ (zs16 (zs16 (zs4 (zs1 (zs1 (zs0))))))) (in_8 _ (zs4 (zs4 (zs4 (zs1 (zs1 (zs0))))))) (in_9 _ (zs16 (zs16 (zs4 (zs1 (zs1 (zs1 (zs0))))))))) rfl rfl rfl (by decide +kernel) ⟨(show 7 * k9 + 11 + 1 ≤ 7 * n + 11 by omega), (show 8 + (4 + 11) + 40 * (7 * k9 + 11) ≤ 40 * (7 * n + 11) by omega)⟩) ⟨HWL_bl, va_recv hK hP (ci := 11) (q0 := posL 2 (LC cf)) rfl (hI.ob 2 (mF 2 rfl) rfl), (HWL_wi hP hK (WL_D hD) hS hA hEV)⟩ rfl rfl hl.1 rfl (lv_room (Nat.le_of_ble_eq_true rfl)) dX10_readUnit_33 ⟨Nat.le_of_ble_eq_true rfl, Nat.le_of_ble_eq_true rfl⟩) (WL_D hD) hS hA (fun E78 H locs hw hP hS => ?_)
          obtain ⟨hI, kq79, hw⟩ := hw
          have hKb := hKp
          have hKp := hKp.tr kq79 (wl_sub rfl rfl)
          obtain ⟨y80, ey80⟩ : ∃ y, xi (E78 2) 5 = y := ⟨_, rfl⟩
          have fy80 : xv (E78 2) 5 = .int y80 := (hI.fi 2 (mF 2 rfl) rfl (Nat.le_of_ble_eq_true rfl) rfl).trans (congrArg Value.int ey80)
          have i81 : 0 ≤ y80.toInt ∧ y80.toInt ≤ 200 := by rw [← ey80]; exact hI.iv 2 (mF 2 rfl) rfl (Nat.le_of_ble_eq_true rfl) rfl
          obtain ⟨f82, f83, f84⟩ := hw
          try rw [(show xi (E70 2) 5 = y1 from vi_e ((kq71 2 5 rfl).trans ((kq8 2 5 rfl).trans fy1)))] at f82
          try rw [(show xi (E78 2) 5 = y80 from vi_e fy80)] at f82
          refine lv_aload_n hx hb dX10_readUnit_36 rfl (lv_at hl 1 rfl) ?_
          refine lv_bipush (v := 33) hx hb dX10_readUnit_37 (by decide) ?_
          refine th_pi (va_runS (As := [.int 33]) (rest := [.ref (ad 2)]) ⟨hx, hb, hml, hown, hts⟩ (q_casSign l (33 : Int32) (iv_w ln_33 (by decide))) (va_cwS 1 hts (gi_S (in_9 _ (zs4 (zs1 (zs1 (zs0))))) (in_7 _ (zs4 (zs4 (zs4 (zs1 (zs0)))))) (in_7 _ (zs1 (zs1 (zs0)))) (in_7 _ (zs4 (zs4 (zs4 (zs1 (zs1 (zs0)))))))) rfl rfl rfl hz_yX7_asSign_1 ⟨(show 0 + 1 ≤ 7 * n + 11 from nl_1 (Nat.le_of_ble_eq_true rfl)), (show 8 + (1 + 11) + 40 * (0) ≤ 40 * (7 * n + 11) from nl_2 (Nat.le_of_ble_eq_true rfl))⟩) ⟨fun _ _ _ _ q => q, fun _ _ _ => ⟨rfl, trivial⟩⟩ rfl rfl hl.1 rfl (lv_room (Nat.le_of_ble_eq_true rfl)) dX10_readUnit_39 ⟨Nat.le_of_ble_eq_true rfl, Nat.le_of_ble_eq_true rfl⟩) hS (fun r85 H1 locs1 hw hk1 hS => ?_)
          have hP := ub_keep hP hk1
          generalize H1 = H at hP hS ⊢
          generalize locs1 = locs at hS ⊢
          obtain ⟨f86, f87⟩ := hw
          refine th_vL (va_runV (As := [.int r85]) (rest := []) ⟨hx, hb, hml, hown, hts⟩ (q_addV l dC dI cT cf hC ad E78 H.size r85 hI) (cwV 1 hts (gi_V (in_9 _ (zs4 (zs1 (zs1 (zs1 (zs0)))))) (in_9 _ (zs4 (zs4 (zs0)))) (in_9 _ (zs4 (zs4 (zs1 (zs0))))) (in_8 _ (zs4 (zs4 (zs4 (zs1 (zs1 (zs0))))))) (in_7 _ (zs16 (zs4 (zs4 (zs4 (zs1 (zs0)))))))) rfl rfl rfl ⟨rfl, hz_yX10_add_1⟩ ⟨(show 0 + 1 ≤ 7 * n + 11 from nl_1 (Nat.le_of_ble_eq_true rfl)), (show 8 + (2 + 11) + 40 * (0) ≤ 40 * (7 * n + 11) from nl_2 (Nat.le_of_ble_eq_true rfl))⟩) ⟨HWL_bl, va_recv hK hP (ci := 11) (q0 := posL 2 (LC cf)) rfl (hI.ob 2 (mF 2 rfl) rfl), (HWL_wi hP hK (WL_D hD) hS hA hEV)⟩ rfl rfl hl.1 rfl (lv_room (Nat.le_of_ble_eq_true rfl)) dX10_readUnit_42 ⟨Nat.le_of_ble_eq_true rfl, Nat.le_of_ble_eq_true rfl⟩) (WL_D hD) hS hA (fun E89 H locs hw hP hS => ?_)
          obtain ⟨hI, kq90, hw⟩ := hw
          have hKb := hKp
          have hKp := hKp.tr kq90 (wl_sub rfl rfl)
          obtain ⟨y91, ey91⟩ : ∃ y, xi (E89 2) 5 = y := ⟨_, rfl⟩
          have fy91 : xv (E89 2) 5 = .int y91 := (hI.fi 2 (mF 2 rfl) rfl (Nat.le_of_ble_eq_true rfl) rfl).trans (congrArg Value.int ey91)
          have i92 : 0 ≤ y91.toInt ∧ y91.toInt ≤ 200 := by rw [← ey91]; exact hI.iv 2 (mF 2 rfl) rfl (Nat.le_of_ble_eq_true rfl) rfl
          obtain ⟨f93, f94, f95⟩ := hw
          try rw [(show xi (E78 2) 5 = y80 from vi_e fy80)] at f93
          try rw [(show xi (E89 2) 5 = y91 from vi_e fy91)] at f93
          refine lv_goto (tgt := 94) hx hb dX10_readUnit_45 (by decide) ?_
          rw [hQ]
          exact W.vret hx hb hr (fun t ht hW => ⟨⟨E89, rfl, ⟨hI, hKp, ⟨by (try rw [(show xi (E89 2) 5 = y91 from vi_e fy91)]); (try rw [ey1]); all_goals omega, unC_n (by omega) f13 (by omega) f73 f83 f94 hk9, unV_n (by omega) f13 k15 (by omega) f73 k74 f83 f84 f94 (cd_e f95 (by have z9 : (33 : Int32).toInt = 33 := rfl; omega)) hk9⟩⟩, by show va_P (dC, dI) vwCl (WL (LC cf) ad E89) t.heap; rw [ht]; exact hP⟩, hS.F ht⟩) hS.2.2 dX10_readUnit_94
        · --24 not
          exact absurd c75 (by decide)
      · -- goDeeperX, case 1
        obtain ⟨rfl, f96, f97⟩ := hw
        have k98 : SZ E7 E70 := SZ.kp kq71 (fun _ => rfl) rfl
        refine lv_if_ne (tgt := 28) hx hb dX10_readUnit_24 (by decide) (fun c99 => ?_) (fun c99 => ?_)
        · --24 taken
          exact absurd c99 (by decide)
        · --24 not
          rw [hQ]
          exact W.vret hx hb hr (fun t ht hW => ⟨⟨E70, rfl, ⟨hI, hKp, ⟨by (try rw [(show xi (E70 2) 5 = y1 from vi_e ((kq71 2 5 rfl).trans ((kq8 2 5 rfl).trans fy1)))]); (try rw [ey1]); all_goals omega, unC_n0 (by omega) f13 (by omega) f97 (by omega), RdV.no f97⟩⟩, by show va_P (dC, dI) vwCl (WL (LC cf) ad E70) t.heap; rw [ht]; exact hP⟩, hS.F ht⟩) hS.2.2 dX10_readUnit_27
  · --1 not
    have t100 : ¬ a1.toInt = 0 := ti_ne c3
    have i101 : 1 ≤ a1.toInt ∧ a1.toInt ≤ 1 := iv_ne_l t100 hh2 (il_ 0)
    refine lv_iconst (v := -1) hx hb dX10_readUnit_4 (by decide) ?_
    refine lv_goto (tgt := 12) hx hb dX10_readUnit_5 (by decide) ?_
    refine lv_istore_n (lv' := [(3, .int (-1)), (0, .ref (ad 2)), (1, .int a0), (2, .int a1)]) hx hb dX10_readUnit_12 rfl hl (by decide) rfl (fun ls hl => ?_)
    refine lv_iload_n hx hb dX10_readUnit_13 rfl (lv_at hl 0 rfl) ?_
    refine lv_bipush (v := 33) hx hb dX10_readUnit_14 (by decide) ?_
    refine lv_icmp_ne (tgt := 48) hx hb dX10_readUnit_16 (by decide) (fun c102 => ?_) (fun c102 => ?_)
    · --16 taken
      refine lv_iload_n hx hb dX10_readUnit_48 rfl (lv_at hl 0 rfl) ?_
      refine lv_bipush (v := 40) hx hb dX10_readUnit_49 (by decide) ?_
      refine lv_icmp_ne (tgt := 80) hx hb dX10_readUnit_51 (by decide) (fun c103 => ?_) (fun c103 => ?_)
      · --51 taken
        refine lv_iload_n hx hb dX10_readUnit_80 rfl (lv_at hl 3 rfl) ?_
        refine lv_if_ne (tgt := 89) hx hb dX10_readUnit_81 (by decide) (fun c104 => ?_) (fun c104 => ?_)
        · --81 taken
          have t105 : ¬ a1.toInt = 0 := ti_ne c104
          refine lv_aload_n hx hb dX10_readUnit_89 rfl (lv_at hl 1 rfl) ?_
          refine lv_iload_n hx hb dX10_readUnit_90 rfl (lv_at hl 2 rfl) ?_
          refine th_vL (va_runV (As := [.int a0]) (rest := []) ⟨hx, hb, hml, hown, hts⟩ (gC dC dI cT cf hC ad E s.heap.size a0 hI hh0 (by omega)) (cwV 1 hts (gi_V (in_10 _ zs0) (in_10 _ (zs1 (zs0))) (in_10 _ (zs1 (zs1 (zs0)))) (in_8 _ (zs4 (zs4 (zs4 (zs1 (zs1 (zs0))))))) (in_10 _ (zs1 (zs1 (zs1 (zs0)))))) rfl rfl rfl (by decide +kernel) ⟨(show 7 * n + 10 + 1 ≤ 7 * n + 11 from nl_4 (Nat.le_of_ble_eq_true rfl) (Nat.le_of_ble_eq_true rfl)), (show 8 + (3 + 11) + 40 * (7 * n + 10) ≤ 40 * (7 * n + 11) from nl_3 (Nat.le_of_ble_eq_true rfl) (Nat.le_of_ble_eq_true rfl))⟩) ⟨HWL_bl, va_recv hK hP (ci := 11) (q0 := posL 2 (LC cf)) rfl (hI.ob 2 (mF 2 rfl) rfl), (HWL_wi hP hK (WL_D hD) hS hA hEV)⟩ rfl rfl hl.1 rfl (lv_room (Nat.le_of_ble_eq_true rfl)) dX10_readUnit_91 ⟨Nat.le_of_ble_eq_true rfl, Nat.le_of_ble_eq_true rfl⟩) (WL_D hD) hS hA (fun E107 H locs hw hP hS => ?_)
          obtain ⟨hI, kq108, hw⟩ := hw
          have hKb := hKp
          have hKp := hKp.tr kq108 (wl_sub rfl rfl)
          obtain ⟨y109, ey109⟩ : ∃ y, xi (E107 2) 5 = y := ⟨_, rfl⟩
          have fy109 : xv (E107 2) 5 = .int y109 := (hI.fi 2 (mF 2 rfl) rfl (Nat.le_of_ble_eq_true rfl) rfl).trans (congrArg Value.int ey109)
          have i110 : 0 ≤ y109.toInt ∧ y109.toInt ≤ 200 := by rw [← ey109]; exact hI.iv 2 (mF 2 rfl) rfl (Nat.le_of_ble_eq_true rfl) rfl
          obtain ⟨f111, f112, f113⟩ := hw
          try rw [(show xi (E 2) 5 = y1 from vi_e fy1)] at f111
          try rw [(show xi (E107 2) 5 = y109 from vi_e fy109)] at f111
          rw [hQ]
          exact W.vret hx hb hr (fun t ht hW => ⟨⟨E107, rfl, ⟨hI, hKp, ⟨by (try rw [(show xi (E107 2) 5 = y109 from vi_e fy109)]); (try rw [ey1]); all_goals omega, unC_b (by omega) f112, unV_b (by omega) f113⟩⟩, by show va_P (dC, dI) vwCl (WL (LC cf) ad E107) t.heap; rw [ht]; exact hP⟩, hS.F ht⟩) hS.2.2 dX10_readUnit_94
        · --81 not
          have t114 : a1.toInt = 0 := ti_eq c104
          have i115 : 1 ≤ a1.toInt ∧ a1.toInt ≤ 0 := iv_eqi t114 i101 (il_ 0) (by decide)
          exact iv_no i115 (by decide)
      · --51 not
        exact absurd c103 (by decide)
    · --16 not
      exact absurd c102 (by decide)
set_option maxHeartbeats 4000000 in
set_option maxRecDepth 100000 in
theorem q_readPartV (l : Launch) (n : Nat) (gU : C_readUnitV l n) : C_readPartV l n := by
  intro dC dI cT cf hC ad E sz a0 a1 hI0 hh0 hh1 hh2
  obtain ⟨⟨hc0, hc1, hc2, hc3, hc4, hc5⟩, hcr⟩ := id hC
  refine Met.ofW (cc := cX10_readPart) (maxL := 4) (ret := none) (by decide) rfl ?_
  intro p e s m args below meth c s₁ B hml hv
  obtain ⟨hargs, hsz, hP, hK, hD0, hEV⟩ := hv
  subst hsz
  have hx := B.exec
  have hb := B.bytes
  have hr := B.returns
  have hts := atoms_spec (ws := v_readPartV) B.pre
  have hown : s.vm.findClass RX10 = some m.cls := findClass_of_methodNamed B.named
  have hlocks := B.notSynchronized
  have hinX10 : ∀ w ∈ u_ws RX10 TX10 10, w ∈ v_readPartV := fun w h => vA_in _ w (in_X10 w h)
  generalize hAe : va_A (WL (LC cf) ad E) s.heap.size = A at hEV ⊢
  have hA : ∀ q : Nat, s.heap.size ≤ q → A q := fun q h => by rw [← hAe]; exact Or.inr h
  have hD : va_D A (WL (LC cf) ad E) := by rw [← hAe]; exact hD0.self
  have hS : va_S A s.heap s.heap [] := va_S.rf
  have hI := hI0
  have hKp : Kp w_readPartV E E := Kp.rf
  have hl := lv_entry ([.ref (ad 2), .int a0, .int a1]) (n := 4) (Nat.le_of_ble_eq_true rfl)
  obtain ⟨Q, hQ⟩ : ∃ Q, Q = MQ below (va_Qv (S := Nat → va_E) (fun u => IXL cT (shC cf) (spC cf) (LC cf) ad u ∧ Kp w_readPartV E u ∧ (((xi (E 2) 5).toInt ≤ (xi (u 2) 5).toInt) ∧ (RdC (paX a1 n) E u) ∧ (RdV (paX a1 n) E u))) (HBL dC dI (LC cf) ad) (A)) args s 0 0 (A) := ⟨_, rfl⟩
  rw [← hQ, show entryFrame m args 4 = _ from (congrArg (fun z => entryFrame m z 4) hargs).trans (lg_entry_eq _ _ _)]
  generalize (lg_sl ([.ref (ad 2), .int a0, .int a1]) ++ List.replicate (4 - (lg_sl ([.ref (ad 2), .int a0, .int a1])).length) Slot.unset).toArray = ls at hl ⊢
  have hl : lv_has ls 4 [(0, .ref (ad 2)), (1, .int a0), (2, .int a1)] := hl
  obtain ⟨y1, ey1⟩ : ∃ y, xi (E 2) 5 = y := ⟨_, rfl⟩
  have fy1 : xv (E 2) 5 = .int y1 := (hI.fi 2 (mF 2 rfl) rfl (Nat.le_of_ble_eq_true rfl) rfl).trans (congrArg Value.int ey1)
  have i2 : 0 ≤ y1.toInt ∧ y1.toInt ≤ 200 := by rw [← ey1]; exact hI.iv 2 (mF 2 rfl) rfl (Nat.le_of_ble_eq_true rfl) rfl
  have i3 : 0 ≤ (xi (E 2) 1).toInt ∧ (xi (E 2) 1).toInt ≤ 200 := hI0.iv 2 (mF 2 rfl) rfl (Nat.le_of_ble_eq_true rfl) rfl
  refine lv_aload_n hx hb dX10_readPart_0 rfl (lv_at hl 0 rfl) ?_
  refine lv_iload_n hx hb dX10_readPart_1 rfl (lv_at hl 1 rfl) ?_
  refine lv_iload_n hx hb dX10_readPart_2 rfl (lv_at hl 2 rfl) ?_
  refine th_vL (va_runV (As := [.int a0, .int a1]) (rest := []) ⟨hx, hb, hml, hown, hts⟩ (gU dC dI cT cf hC ad E s.heap.size a0 a1 hI hh0 (by omega) hh2) (cwV 2 hts (gi_V (in_9 _ (zs16 (zs16 (zs4 (zs0))))) (in_9 _ (zs16 (zs16 (zs4 (zs1 (zs0)))))) (in_9 _ (zs16 (zs16 (zs4 (zs1 (zs1 (zs0))))))) (in_8 _ (zs4 (zs4 (zs4 (zs1 (zs1 (zs0))))))) (in_9 _ (zs16 (zs16 (zs4 (zs1 (zs1 (zs1 (zs0))))))))) rfl rfl rfl (by decide +kernel) ⟨(show 7 * n + 11 + 1 ≤ 7 * n + 12 from nl_4 (Nat.le_of_ble_eq_true rfl) (Nat.le_of_ble_eq_true rfl)), (show 8 + (4 + 11) + 40 * (7 * n + 11) ≤ 40 * (7 * n + 12) from nl_3 (Nat.le_of_ble_eq_true rfl) (Nat.le_of_ble_eq_true rfl))⟩) ⟨HWL_bl, va_recv hK hP (ci := 11) (q0 := posL 2 (LC cf)) rfl (hI.ob 2 (mF 2 rfl) rfl), (HWL_wi hP hK (WL_D hD) hS hA hEV)⟩ rfl rfl hl.1 rfl (lv_room (Nat.le_of_ble_eq_true rfl)) dX10_readPart_3 ⟨Nat.le_of_ble_eq_true rfl, Nat.le_of_ble_eq_true rfl⟩) (WL_D hD) hS hA (fun E5 H locs hw hP hS => ?_)
  obtain ⟨hI, kq6, hw⟩ := hw
  have hKb := hKp
  have hKp := hKp.tr kq6 (wl_sub rfl rfl)
  obtain ⟨y7, ey7⟩ : ∃ y, xi (E5 2) 5 = y := ⟨_, rfl⟩
  have fy7 : xv (E5 2) 5 = .int y7 := (hI.fi 2 (mF 2 rfl) rfl (Nat.le_of_ble_eq_true rfl) rfl).trans (congrArg Value.int ey7)
  have i8 : 0 ≤ y7.toInt ∧ y7.toInt ≤ 200 := by rw [← ey7]; exact hI.iv 2 (mF 2 rfl) rfl (Nat.le_of_ble_eq_true rfl) rfl
  obtain ⟨f9, f10, f11⟩ := hw
  try rw [(show xi (E 2) 5 = y1 from vi_e fy1)] at f9
  try rw [(show xi (E5 2) 5 = y7 from vi_e fy7)] at f9
  refine lv_iconst (v := 0) hx hb dX10_readPart_6 (by decide) ?_
  refine lv_istore_n (lv' := [(3, .int 0), (0, .ref (ad 2)), (1, .int a0), (2, .int a1)]) hx hb dX10_readPart_7 rfl hl (by decide) rfl (fun ls hl => ?_)
  have hL8 : ∀ d : Nat, ∀ (w8_2_5 : Int32) (v8_3 : Int32) (E8_ : Nat → va_E) (H : Heap) (locs : List Loc) (ls : Array Slot), 0 ≤ w8_2_5.toInt ∧ w8_2_5.toInt ≤ 200 → 0 ≤ v8_3.toInt ∧ v8_3.toInt ≤ 200 → y1.toInt ≤ w8_2_5.toInt → Lp (paX a1 n) (fun t m => opL t m isAnd jb ((unX 0 n) t m)) v8_3.toInt E E8_ → LpV (paX a1 n) (fun t m => opL t m isAnd jb ((unX 0 n) t m)) E E8_ → 200 - v8_3.toInt < (d : Int) → IXL cT (shC cf) (spC cf) (LC cf) ad E8_ → Kp w_readPartV E E8_ → xv (E8_ 2) 5 = .int w8_2_5 → va_P (dC, dI) vwCl (WL (LC cf) ad E8_) H → va_S A s.heap H locs → lv_has ls 4 [(3, .int v8_3), (0, .ref (ad 2)), (1, .int a0), (2, .int a1)] → W p l e (headSpec v_readPartV (rm_readPartV n)).room s m args below meth c H locs 0 0 Q (F0 m 8 ls []) := by
    intro d
    induction d with
    | zero =>
      intro w8_2_5 v8_3 E8_ H locs ls hw8_2_5 hv8_3 hx8_0 hx8_1 hx8_2 hx8_3 hI hKp hs8_2_5 hP hS hl
      exact absurd hx8_3 (by first | exact ms_zu hv8_3.2 | omega)
    | succ d ih8 =>
      intro w8_2_5 v8_3 E8_ H locs ls hw8_2_5 hv8_3 hx8_0 hx8_1 hx8_2 hx8_3 hI hKp hs8_2_5 hP hS hl
      refine lv_iload_n hx hb dX10_readPart_8 rfl (lv_at hl 0 rfl) ?_
      refine lv_sipush (v := 200) hx hb dX10_readPart_9 (by decide) ?_
      refine lv_icmp_ge (tgt := 55) hx hb dX10_readPart_12 (by decide) (fun c12 => ?_) (fun c12 => ?_)
      · --12 taken
        have t13 : (200 : Int) ≤ v8_3.toInt := ti_le c12
        have i14 : 200 ≤ v8_3.toInt ∧ v8_3.toInt ≤ 200 := iv_le_r t13 (il_ 200) hv8_3 (by decide)
        rw [hQ]
        exact W.vret hx hb hr (fun t ht hW => ⟨⟨E8_, rfl, ⟨hI, hKp, ⟨by (try rw [(show xi (E8_ 2) 5 = w8_2_5 from vi_e hs8_2_5)]); (try rw [ey1]); all_goals omega, Lp.fin (op := isAnd) hx8_1 (by have kl := tN_e (E := E) (by omega); omega) rfl (fun t m a c h => opL_0 h), LpV.fin (op := isAnd) hx8_1 hx8_2 (by have kl := tN_e (E := E) (by omega); omega) rfl (fun t m a c h => opL_0 h)⟩⟩, by show va_P (dC, dI) vwCl (WL (LC cf) ad E8_) t.heap; rw [ht]; exact hP⟩, hS.F ht⟩) hS.2.2 dX10_readPart_55
      · --12 not
        have t15 : v8_3.toInt < 200 := ti_nle c12
        have i16 : 0 ≤ v8_3.toInt ∧ v8_3.toInt ≤ 199 := iv_lt_l t15 hv8_3 (il_ 200) (by decide)
        refine lv_aload_n hx hb dX10_readPart_15 rfl (lv_at hl 1 rfl) ?_
        refine th_iL (va_runV (As := []) (rest := []) ⟨hx, hb, hml, hown, hts⟩ (q_nextX l dC dI cT cf hC ad E8_ H.size hI) (cwV 0 hts (gi_V (in_8 _ (zs16 (zs4 (zs4 (zs1 (zs1 (zs1 (zs0)))))))) (in_8 _ (zs16 (zs4 (zs4 (zs4 (zs0)))))) (in_8 _ (zs16 (zs4 (zs4 (zs4 (zs1 (zs0))))))) (in_8 _ (zs4 (zs4 (zs4 (zs1 (zs1 (zs0))))))) (in_8 _ (zs16 (zs1 (zs1 (zs1 (zs0))))))) rfl rfl rfl ⟨rfl, hz_yX10_next_0⟩ ⟨(show 0 + 1 ≤ 7 * n + 12 from nl_1 (Nat.le_of_ble_eq_true rfl)), (show 8 + (1 + 11) + 40 * (0) ≤ 40 * (7 * n + 12) from nl_2 (Nat.le_of_ble_eq_true rfl))⟩) ⟨HWL_bl, va_recv hK hP (ci := 11) (q0 := posL 2 (LC cf)) rfl (hI.ob 2 (mF 2 rfl) rfl), (HWL_wi hP hK (WL_D hD) hS hA hEV)⟩ rfl rfl hl.1 rfl (lv_room (Nat.le_of_ble_eq_true rfl)) dX10_readPart_16 ⟨Nat.le_of_ble_eq_true rfl, Nat.le_of_ble_eq_true rfl⟩) (WL_D hD) hS hA (fun r17 E18 H locs hw hP hS => ?_)
        obtain ⟨hI, kq19, hw⟩ := hw
        have hKb := hKp
        have hKp := hKp.tr kq19 (wl_sub rfl rfl)
        obtain ⟨y20, ey20⟩ : ∃ y, xi (E18 2) 2 = y := ⟨_, rfl⟩
        have fy20 : xv (E18 2) 2 = .int y20 := (hI.fi 2 (mF 2 rfl) rfl (Nat.le_of_ble_eq_true rfl) rfl).trans (congrArg Value.int ey20)
        have i21 : 0 ≤ y20.toInt ∧ y20.toInt ≤ 200 := by rw [← ey20]; exact hI.iv 2 (mF 2 rfl) rfl (Nat.le_of_ble_eq_true rfl) rfl
        obtain ⟨f22, f23, f24⟩ := hw
        try rw [hKb.ei 2 1 rfl] at f23
        try rw [(show xi (E18 2) 2 = y20 from vi_e fy20)] at f23
        have k25 : SZ E8_ E18 := SZ.kp kq19 (fun _ => rfl) rfl
        refine lv_bipush (v := 38) hx hb dX10_readPart_19 (by decide) ?_
        refine lv_icmp_ne (tgt := 55) hx hb dX10_readPart_21 (by decide) (fun c26 => ?_) (fun c26 => ?_)
        · --21 taken
          have t27 : ¬ r17.toInt = 38 := ti_ne c26
          rw [hQ]
          exact W.vret hx hb hr (fun t ht hW => ⟨⟨E18, rfl, ⟨hI, hKp, ⟨by (try rw [(show xi (E18 2) 5 = w8_2_5 from vi_e ((kq19 2 5 rfl).trans hs8_2_5))]); (try rw [ey1]); all_goals omega, Lp.exit (op := isAnd) hx8_1 f24 (fun q9 => by have q8 := is_and.mp q9; omega) (fun t m a c h => opL_0 h), LpV.exit (op := isAnd) hx8_1 hx8_2 f24 k25 (fun q9 => by have q8 := is_and.mp q9; omega) (fun t m a c h => opL_0 h)⟩⟩, by show va_P (dC, dI) vwCl (WL (LC cf) ad E18) t.heap; rw [ht]; exact hP⟩, hS.F ht⟩) hS.2.2 dX10_readPart_55
        · --21 not
          have t28 : r17.toInt = 38 := ti_eq c26
          have i29 : 38 ≤ r17.toInt ∧ r17.toInt ≤ 38 := iv_eqi t28 f22 (il_ 38) (by decide)
          refine lv_aload_n hx hb dX10_readPart_24 rfl (lv_at hl 1 rfl) ?_
          refine lv_dup hx hb dX10_readPart_25 rfl ?_
          refine th_getL (ci := 11) (C := RX10) (T := TX10) (N := 10) (v := .int y20) hx hb hts hinX10 hown hK hP hI 2 (mF 2 rfl) rfl rfl 2 (Nat.le_of_ble_eq_true rfl) (hts _ (vA_in _ _ (in_8 _ (zs4 (zs4 (zs1 (zs0))))))) (fun _ h9 => h9) fy20 dX10_readPart_26 ?_
          refine lv_iconst (v := 1) hx hb dX10_readPart_29 (by decide) ?_
          refine lv_iadd hx hb dX10_readPart_30 ?_
          refine lv_topi (fun y30 ey30 => ?_)
          obtain ⟨ty30, iy30⟩ := ti_add (e := 1) (f := 201) i21 ln_1 ey30 (by decide)
          have ty30 : y30.toInt = y20.toInt + 1 := ty30
          have iy30 : 1 ≤ y30.toInt ∧ y30.toInt ≤ 201 := iy30
          have i31 : 1 ≤ y30.toInt ∧ y30.toInt ≤ 200 := by omega
          refine th_putL (ci := 11) (C := RX10) (T := TX10) (N := 10) (v := .int y30) (ty := .int) hx hb hts hinX10 tyX10 tyX10_ok nmX10 hown hK hP (WL_D hD) hS hI 2 (mF 2 rfl) rfl rfl 2 (Nat.le_of_ble_eq_true rfl) (hts _ (vA_in _ _ (in_8 _ (zs4 (zs4 (zs1 (zs0))))))) (fun _ h9 => h9) rfl (by decide +kernel) rfl rfl (okI rfl (iv_w i31 (by decide))) dX10_readPart_31 (fun H locs E32 pw33 hI hP hS => ?_)
          have hKp := hKp.pw pw33 rfl
          have k34 : AtP E18 E32 := AtP.pw pw33.2 (vi_e fy20) (vi_e pw33.1) ty30 (by omega)
          have k35 : SZ E18 E32 := SZ.pw pw33 (by decide) (fun _ => by decide)
          refine lv_aload_n hx hb dX10_readPart_34 rfl (lv_at hl 1 rfl) ?_
          refine lv_iload_n hx hb dX10_readPart_35 rfl (lv_at hl 2 rfl) ?_
          refine lv_iconst (v := 0) hx hb dX10_readPart_36 (by decide) ?_
          have z0 := ln_0
          refine th_vL (va_runV (As := [.int a0, .int 0]) (rest := []) ⟨hx, hb, hml, hown, hts⟩ (gU dC dI cT cf hC ad E32 H.size a0 (0 : Int32) hI hh0 (by omega) (iv_w ln_0 (by decide))) (cwV 2 hts (gi_V (in_9 _ (zs16 (zs16 (zs4 (zs0))))) (in_9 _ (zs16 (zs16 (zs4 (zs1 (zs0)))))) (in_9 _ (zs16 (zs16 (zs4 (zs1 (zs1 (zs0))))))) (in_8 _ (zs4 (zs4 (zs4 (zs1 (zs1 (zs0))))))) (in_9 _ (zs16 (zs16 (zs4 (zs1 (zs1 (zs1 (zs0))))))))) rfl rfl rfl (by decide +kernel) ⟨(show 7 * n + 11 + 1 ≤ 7 * n + 12 from nl_4 (Nat.le_of_ble_eq_true rfl) (Nat.le_of_ble_eq_true rfl)), (show 8 + (4 + 11) + 40 * (7 * n + 11) ≤ 40 * (7 * n + 12) from nl_3 (Nat.le_of_ble_eq_true rfl) (Nat.le_of_ble_eq_true rfl))⟩) ⟨HWL_bl, va_recv hK hP (ci := 11) (q0 := posL 2 (LC cf)) rfl (hI.ob 2 (mF 2 rfl) rfl), (HWL_wi hP hK (WL_D hD) hS hA hEV)⟩ rfl rfl hl.1 rfl (lv_room (Nat.le_of_ble_eq_true rfl)) dX10_readPart_37 ⟨Nat.le_of_ble_eq_true rfl, Nat.le_of_ble_eq_true rfl⟩) (WL_D hD) hS hA (fun E37 H locs hw hP hS => ?_)
          obtain ⟨hI, kq38, hw⟩ := hw
          have hKb := hKp
          have hKp := hKp.tr kq38 (wl_sub rfl rfl)
          obtain ⟨y39, ey39⟩ : ∃ y, xi (E37 2) 5 = y := ⟨_, rfl⟩
          have fy39 : xv (E37 2) 5 = .int y39 := (hI.fi 2 (mF 2 rfl) rfl (Nat.le_of_ble_eq_true rfl) rfl).trans (congrArg Value.int ey39)
          have i40 : 0 ≤ y39.toInt ∧ y39.toInt ≤ 200 := by rw [← ey39]; exact hI.iv 2 (mF 2 rfl) rfl (Nat.le_of_ble_eq_true rfl) rfl
          obtain ⟨f41, f42, f43⟩ := hw
          try rw [(show xi (E32 2) 5 = w8_2_5 from vi_e ((pw33.2 2 5 (fun q9 => absurd q9.2 (Nat.ne_of_beq_eq_false rfl))).trans ((kq19 2 5 rfl).trans hs8_2_5)))] at f41
          try rw [(show xi (E37 2) 5 = y39 from vi_e fy39)] at f41
          refine lv_aload_n hx hb dX10_readPart_40 rfl (lv_at hl 1 rfl) ?_
          refine lv_bipush (v := 38) hx hb dX10_readPart_41 (by decide) ?_
          refine th_pi (va_runS (As := [.int 38]) (rest := [.ref (ad 2)]) ⟨hx, hb, hml, hown, hts⟩ (q_casSign l (38 : Int32) (iv_w ln_38 (by decide))) (va_cwS 1 hts (gi_S (in_9 _ (zs4 (zs1 (zs1 (zs0))))) (in_7 _ (zs4 (zs4 (zs4 (zs1 (zs0)))))) (in_7 _ (zs1 (zs1 (zs0)))) (in_7 _ (zs4 (zs4 (zs4 (zs1 (zs1 (zs0)))))))) rfl rfl rfl hz_yX7_asSign_1 ⟨(show 0 + 1 ≤ 7 * n + 12 from nl_1 (Nat.le_of_ble_eq_true rfl)), (show 8 + (1 + 11) + 40 * (0) ≤ 40 * (7 * n + 12) from nl_2 (Nat.le_of_ble_eq_true rfl))⟩) ⟨fun _ _ _ _ q => q, fun _ _ _ => ⟨rfl, trivial⟩⟩ rfl rfl hl.1 rfl (lv_room (Nat.le_of_ble_eq_true rfl)) dX10_readPart_43 ⟨Nat.le_of_ble_eq_true rfl, Nat.le_of_ble_eq_true rfl⟩) hS (fun r44 H1 locs1 hw hk1 hS => ?_)
          have hP := ub_keep hP hk1
          generalize H1 = H at hP hS ⊢
          generalize locs1 = locs at hS ⊢
          obtain ⟨f45, f46⟩ := hw
          refine th_vL (va_runV (As := [.int r44]) (rest := []) ⟨hx, hb, hml, hown, hts⟩ (q_addV l dC dI cT cf hC ad E37 H.size r44 hI) (cwV 1 hts (gi_V (in_9 _ (zs4 (zs1 (zs1 (zs1 (zs0)))))) (in_9 _ (zs4 (zs4 (zs0)))) (in_9 _ (zs4 (zs4 (zs1 (zs0))))) (in_8 _ (zs4 (zs4 (zs4 (zs1 (zs1 (zs0))))))) (in_7 _ (zs16 (zs4 (zs4 (zs4 (zs1 (zs0)))))))) rfl rfl rfl ⟨rfl, hz_yX10_add_1⟩ ⟨(show 0 + 1 ≤ 7 * n + 12 from nl_1 (Nat.le_of_ble_eq_true rfl)), (show 8 + (2 + 11) + 40 * (0) ≤ 40 * (7 * n + 12) from nl_2 (Nat.le_of_ble_eq_true rfl))⟩) ⟨HWL_bl, va_recv hK hP (ci := 11) (q0 := posL 2 (LC cf)) rfl (hI.ob 2 (mF 2 rfl) rfl), (HWL_wi hP hK (WL_D hD) hS hA hEV)⟩ rfl rfl hl.1 rfl (lv_room (Nat.le_of_ble_eq_true rfl)) dX10_readPart_46 ⟨Nat.le_of_ble_eq_true rfl, Nat.le_of_ble_eq_true rfl⟩) (WL_D hD) hS hA (fun E48 H locs hw hP hS => ?_)
          obtain ⟨hI, kq49, hw⟩ := hw
          have hKb := hKp
          have hKp := hKp.tr kq49 (wl_sub rfl rfl)
          obtain ⟨y50, ey50⟩ : ∃ y, xi (E48 2) 5 = y := ⟨_, rfl⟩
          have fy50 : xv (E48 2) 5 = .int y50 := (hI.fi 2 (mF 2 rfl) rfl (Nat.le_of_ble_eq_true rfl) rfl).trans (congrArg Value.int ey50)
          have i51 : 0 ≤ y50.toInt ∧ y50.toInt ≤ 200 := by rw [← ey50]; exact hI.iv 2 (mF 2 rfl) rfl (Nat.le_of_ble_eq_true rfl) rfl
          obtain ⟨f52, f53, f54⟩ := hw
          try rw [(show xi (E37 2) 5 = y39 from vi_e fy39)] at f52
          try rw [(show xi (E48 2) 5 = y50 from vi_e fy50)] at f52
          obtain ⟨y55, ey55⟩ : ∃ y : Int32, y = v8_3 + (1 : Int32) := ⟨_, rfl⟩
          obtain ⟨ty55, iy55⟩ := ti_add (e := 1) (f := 200) i16 ln_1 ey55 (by decide)
          have ty55 : y55.toInt = v8_3.toInt + 1 := ty55
          have iy55 : 1 ≤ y55.toInt ∧ y55.toInt ≤ 200 := iy55
          refine lv_iinc (v := y55) (lv' := [(3, .int y55), (0, .ref (ad 2)), (1, .int a0), (2, .int a1)]) hx hb dX10_readPart_49 hl (k := 0) rfl (by rw [ey55]; rfl) (by decide) rfl (fun ls hl => ?_)
          refine lv_goto (tgt := 8) hx hb dX10_readPart_52 (by decide) ?_
          exact ih8 y50 y55 E48 _ _ _ i51 (iv_w iy55 (by decide)) (by have h9 := i51; omega) (Lp.step (op := isAnd) (cb := jb) hx8_1 f24 (is_and.mpr (by omega)) (by omega) k34 f42 f53 ty55 (fun t m => unX_mono n t m) (fun t m a c h => opL_1 (unX_mono n t m) rfl h)) (LpV.step (op := isAnd) hx8_1 hx8_2 f24 k25 (is_and.mpr (by omega)) k34 k35 f42 f43 f53 (by have z9 : (38 : Int32).toInt = 38 := rfl; omega) f54 (fun t m a c h => opL_1 (unX_mono n t m) rfl h)) (by first | exact ms_su hx8_3 ty55 (by decide) | omega) hI hKp fy50 hP hS (lv_sub hl [0, 1, 2, 3] rfl)
  exact hL8 (201) y7 (0 : Int32) E5 _ _ _ i8 (iv_w ln_0 (by decide)) (by have h9 := i8; omega) (Lp.start f10 lpP (by decide)) (LpV.start f11 lpP) (by have h9 := ln_0; first | exact ms_bu h9.1 (by decide) | omega) hI hKp fy7 hP hS (lv_sub hl [0, 1, 2, 3] rfl)
set_option maxHeartbeats 4000000 in
set_option maxRecDepth 100000 in
theorem q_readConditionV (l : Launch) (n : Nat) (gP : C_readPartV l n) : C_readConditionV l n := by
  intro dC dI cT cf hC ad E sz a0 a1 hI0 hh0 hh1 hh2
  obtain ⟨⟨hc0, hc1, hc2, hc3, hc4, hc5⟩, hcr⟩ := id hC
  refine Met.ofW (cc := cX10_readCondition) (maxL := 4) (ret := none) (by decide) rfl ?_
  intro p e s m args below meth c s₁ B hml hv
  obtain ⟨hargs, hsz, hP, hK, hD0, hEV⟩ := hv
  subst hsz
  have hx := B.exec
  have hb := B.bytes
  have hr := B.returns
  have hts := atoms_spec (ws := v_readConditionV) B.pre
  have hown : s.vm.findClass RX10 = some m.cls := findClass_of_methodNamed B.named
  have hlocks := B.notSynchronized
  have hinX10 : ∀ w ∈ u_ws RX10 TX10 10, w ∈ v_readConditionV := fun w h => vA_in _ w (in_X10 w h)
  generalize hAe : va_A (WL (LC cf) ad E) s.heap.size = A at hEV ⊢
  have hA : ∀ q : Nat, s.heap.size ≤ q → A q := fun q h => by rw [← hAe]; exact Or.inr h
  have hD : va_D A (WL (LC cf) ad E) := by rw [← hAe]; exact hD0.self
  have hS : va_S A s.heap s.heap [] := va_S.rf
  have hI := hI0
  have hKp : Kp w_readConditionV E E := Kp.rf
  have hl := lv_entry ([.ref (ad 2), .int a0, .int a1]) (n := 4) (Nat.le_of_ble_eq_true rfl)
  obtain ⟨Q, hQ⟩ : ∃ Q, Q = MQ below (va_Qv (S := Nat → va_E) (fun u => IXL cT (shC cf) (spC cf) (LC cf) ad u ∧ Kp w_readConditionV E u ∧ (((xi (E 2) 5).toInt ≤ (xi (u 2) 5).toInt) ∧ (RdC (coX a1 n) E u) ∧ (RdV (coX a1 n) E u))) (HBL dC dI (LC cf) ad) (A)) args s 0 0 (A) := ⟨_, rfl⟩
  rw [← hQ, show entryFrame m args 4 = _ from (congrArg (fun z => entryFrame m z 4) hargs).trans (lg_entry_eq _ _ _)]
  generalize (lg_sl ([.ref (ad 2), .int a0, .int a1]) ++ List.replicate (4 - (lg_sl ([.ref (ad 2), .int a0, .int a1])).length) Slot.unset).toArray = ls at hl ⊢
  have hl : lv_has ls 4 [(0, .ref (ad 2)), (1, .int a0), (2, .int a1)] := hl
  obtain ⟨y1, ey1⟩ : ∃ y, xi (E 2) 5 = y := ⟨_, rfl⟩
  have fy1 : xv (E 2) 5 = .int y1 := (hI.fi 2 (mF 2 rfl) rfl (Nat.le_of_ble_eq_true rfl) rfl).trans (congrArg Value.int ey1)
  have i2 : 0 ≤ y1.toInt ∧ y1.toInt ≤ 200 := by rw [← ey1]; exact hI.iv 2 (mF 2 rfl) rfl (Nat.le_of_ble_eq_true rfl) rfl
  have i3 : 0 ≤ (xi (E 2) 1).toInt ∧ (xi (E 2) 1).toInt ≤ 200 := hI0.iv 2 (mF 2 rfl) rfl (Nat.le_of_ble_eq_true rfl) rfl
  refine lv_aload_n hx hb dX10_readCondition_0 rfl (lv_at hl 0 rfl) ?_
  refine lv_iload_n hx hb dX10_readCondition_1 rfl (lv_at hl 1 rfl) ?_
  refine lv_iload_n hx hb dX10_readCondition_2 rfl (lv_at hl 2 rfl) ?_
  refine th_vL (va_runV (As := [.int a0, .int a1]) (rest := []) ⟨hx, hb, hml, hown, hts⟩ (gP dC dI cT cf hC ad E s.heap.size a0 a1 hI hh0 (by omega) hh2) (cwV 2 hts (gi_V (in_9 _ (zs16 (zs16 (zs0)))) (in_9 _ (zs16 (zs16 (zs1 (zs0))))) (in_9 _ (zs16 (zs16 (zs1 (zs1 (zs0)))))) (in_8 _ (zs4 (zs4 (zs4 (zs1 (zs1 (zs0))))))) (in_9 _ (zs16 (zs16 (zs1 (zs1 (zs1 (zs0)))))))) rfl rfl rfl (by decide +kernel) ⟨(show 7 * n + 12 + 1 ≤ 7 * n + 13 from nl_4 (Nat.le_of_ble_eq_true rfl) (Nat.le_of_ble_eq_true rfl)), (show 8 + (4 + 11) + 40 * (7 * n + 12) ≤ 40 * (7 * n + 13) from nl_3 (Nat.le_of_ble_eq_true rfl) (Nat.le_of_ble_eq_true rfl))⟩) ⟨HWL_bl, va_recv hK hP (ci := 11) (q0 := posL 2 (LC cf)) rfl (hI.ob 2 (mF 2 rfl) rfl), (HWL_wi hP hK (WL_D hD) hS hA hEV)⟩ rfl rfl hl.1 rfl (lv_room (Nat.le_of_ble_eq_true rfl)) dX10_readCondition_3 ⟨Nat.le_of_ble_eq_true rfl, Nat.le_of_ble_eq_true rfl⟩) (WL_D hD) hS hA (fun E5 H locs hw hP hS => ?_)
  obtain ⟨hI, kq6, hw⟩ := hw
  have hKb := hKp
  have hKp := hKp.tr kq6 (wl_sub rfl rfl)
  obtain ⟨y7, ey7⟩ : ∃ y, xi (E5 2) 5 = y := ⟨_, rfl⟩
  have fy7 : xv (E5 2) 5 = .int y7 := (hI.fi 2 (mF 2 rfl) rfl (Nat.le_of_ble_eq_true rfl) rfl).trans (congrArg Value.int ey7)
  have i8 : 0 ≤ y7.toInt ∧ y7.toInt ≤ 200 := by rw [← ey7]; exact hI.iv 2 (mF 2 rfl) rfl (Nat.le_of_ble_eq_true rfl) rfl
  obtain ⟨f9, f10, f11⟩ := hw
  try rw [(show xi (E 2) 5 = y1 from vi_e fy1)] at f9
  try rw [(show xi (E5 2) 5 = y7 from vi_e fy7)] at f9
  refine lv_iconst (v := 0) hx hb dX10_readCondition_6 (by decide) ?_
  refine lv_istore_n (lv' := [(3, .int 0), (0, .ref (ad 2)), (1, .int a0), (2, .int a1)]) hx hb dX10_readCondition_7 rfl hl (by decide) rfl (fun ls hl => ?_)
  have hL8 : ∀ d : Nat, ∀ (w8_2_5 : Int32) (v8_3 : Int32) (E8_ : Nat → va_E) (H : Heap) (locs : List Loc) (ls : Array Slot), 0 ≤ w8_2_5.toInt ∧ w8_2_5.toInt ≤ 200 → 0 ≤ v8_3.toInt ∧ v8_3.toInt ≤ 200 → y1.toInt ≤ w8_2_5.toInt → Lp (coX a1 n) (fun t m => opL t m isOr jb ((paX 0 n) t m)) v8_3.toInt E E8_ → LpV (coX a1 n) (fun t m => opL t m isOr jb ((paX 0 n) t m)) E E8_ → 200 - v8_3.toInt < (d : Int) → IXL cT (shC cf) (spC cf) (LC cf) ad E8_ → Kp w_readConditionV E E8_ → xv (E8_ 2) 5 = .int w8_2_5 → va_P (dC, dI) vwCl (WL (LC cf) ad E8_) H → va_S A s.heap H locs → lv_has ls 4 [(3, .int v8_3), (0, .ref (ad 2)), (1, .int a0), (2, .int a1)] → W p l e (headSpec v_readConditionV (rm_readConditionV n)).room s m args below meth c H locs 0 0 Q (F0 m 8 ls []) := by
    intro d
    induction d with
    | zero =>
      intro w8_2_5 v8_3 E8_ H locs ls hw8_2_5 hv8_3 hx8_0 hx8_1 hx8_2 hx8_3 hI hKp hs8_2_5 hP hS hl
      exact absurd hx8_3 (by first | exact ms_zu hv8_3.2 | omega)
    | succ d ih8 =>
      intro w8_2_5 v8_3 E8_ H locs ls hw8_2_5 hv8_3 hx8_0 hx8_1 hx8_2 hx8_3 hI hKp hs8_2_5 hP hS hl
      refine lv_iload_n hx hb dX10_readCondition_8 rfl (lv_at hl 0 rfl) ?_
      refine lv_sipush (v := 200) hx hb dX10_readCondition_9 (by decide) ?_
      refine lv_icmp_ge (tgt := 55) hx hb dX10_readCondition_12 (by decide) (fun c12 => ?_) (fun c12 => ?_)
      · --12 taken
        have t13 : (200 : Int) ≤ v8_3.toInt := ti_le c12
        have i14 : 200 ≤ v8_3.toInt ∧ v8_3.toInt ≤ 200 := iv_le_r t13 (il_ 200) hv8_3 (by decide)
        rw [hQ]
        exact W.vret hx hb hr (fun t ht hW => ⟨⟨E8_, rfl, ⟨hI, hKp, ⟨by (try rw [(show xi (E8_ 2) 5 = w8_2_5 from vi_e hs8_2_5)]); (try rw [ey1]); all_goals omega, Lp.fin (op := isOr) hx8_1 (by have kl := tN_e (E := E) (by omega); omega) rfl (fun t m a c h => opL_0 h), LpV.fin (op := isOr) hx8_1 hx8_2 (by have kl := tN_e (E := E) (by omega); omega) rfl (fun t m a c h => opL_0 h)⟩⟩, by show va_P (dC, dI) vwCl (WL (LC cf) ad E8_) t.heap; rw [ht]; exact hP⟩, hS.F ht⟩) hS.2.2 dX10_readCondition_55
      · --12 not
        have t15 : v8_3.toInt < 200 := ti_nle c12
        have i16 : 0 ≤ v8_3.toInt ∧ v8_3.toInt ≤ 199 := iv_lt_l t15 hv8_3 (il_ 200) (by decide)
        refine lv_aload_n hx hb dX10_readCondition_15 rfl (lv_at hl 1 rfl) ?_
        refine th_iL (va_runV (As := []) (rest := []) ⟨hx, hb, hml, hown, hts⟩ (q_nextX l dC dI cT cf hC ad E8_ H.size hI) (cwV 0 hts (gi_V (in_8 _ (zs16 (zs4 (zs4 (zs1 (zs1 (zs1 (zs0)))))))) (in_8 _ (zs16 (zs4 (zs4 (zs4 (zs0)))))) (in_8 _ (zs16 (zs4 (zs4 (zs4 (zs1 (zs0))))))) (in_8 _ (zs4 (zs4 (zs4 (zs1 (zs1 (zs0))))))) (in_8 _ (zs16 (zs1 (zs1 (zs1 (zs0))))))) rfl rfl rfl ⟨rfl, hz_yX10_next_0⟩ ⟨(show 0 + 1 ≤ 7 * n + 13 from nl_1 (Nat.le_of_ble_eq_true rfl)), (show 8 + (1 + 11) + 40 * (0) ≤ 40 * (7 * n + 13) from nl_2 (Nat.le_of_ble_eq_true rfl))⟩) ⟨HWL_bl, va_recv hK hP (ci := 11) (q0 := posL 2 (LC cf)) rfl (hI.ob 2 (mF 2 rfl) rfl), (HWL_wi hP hK (WL_D hD) hS hA hEV)⟩ rfl rfl hl.1 rfl (lv_room (Nat.le_of_ble_eq_true rfl)) dX10_readCondition_16 ⟨Nat.le_of_ble_eq_true rfl, Nat.le_of_ble_eq_true rfl⟩) (WL_D hD) hS hA (fun r17 E18 H locs hw hP hS => ?_)
        obtain ⟨hI, kq19, hw⟩ := hw
        have hKb := hKp
        have hKp := hKp.tr kq19 (wl_sub rfl rfl)
        obtain ⟨y20, ey20⟩ : ∃ y, xi (E18 2) 2 = y := ⟨_, rfl⟩
        have fy20 : xv (E18 2) 2 = .int y20 := (hI.fi 2 (mF 2 rfl) rfl (Nat.le_of_ble_eq_true rfl) rfl).trans (congrArg Value.int ey20)
        have i21 : 0 ≤ y20.toInt ∧ y20.toInt ≤ 200 := by rw [← ey20]; exact hI.iv 2 (mF 2 rfl) rfl (Nat.le_of_ble_eq_true rfl) rfl
        obtain ⟨f22, f23, f24⟩ := hw
        try rw [hKb.ei 2 1 rfl] at f23
        try rw [(show xi (E18 2) 2 = y20 from vi_e fy20)] at f23
        have k25 : SZ E8_ E18 := SZ.kp kq19 (fun _ => rfl) rfl
        refine lv_bipush (v := 124) hx hb dX10_readCondition_19 (by decide) ?_
        refine lv_icmp_ne (tgt := 55) hx hb dX10_readCondition_21 (by decide) (fun c26 => ?_) (fun c26 => ?_)
        · --21 taken
          have t27 : ¬ r17.toInt = 124 := ti_ne c26
          rw [hQ]
          exact W.vret hx hb hr (fun t ht hW => ⟨⟨E18, rfl, ⟨hI, hKp, ⟨by (try rw [(show xi (E18 2) 5 = w8_2_5 from vi_e ((kq19 2 5 rfl).trans hs8_2_5))]); (try rw [ey1]); all_goals omega, Lp.exit (op := isOr) hx8_1 f24 (fun q9 => by have q8 := is_or.mp q9; omega) (fun t m a c h => opL_0 h), LpV.exit (op := isOr) hx8_1 hx8_2 f24 k25 (fun q9 => by have q8 := is_or.mp q9; omega) (fun t m a c h => opL_0 h)⟩⟩, by show va_P (dC, dI) vwCl (WL (LC cf) ad E18) t.heap; rw [ht]; exact hP⟩, hS.F ht⟩) hS.2.2 dX10_readCondition_55
        · --21 not
          have t28 : r17.toInt = 124 := ti_eq c26
          have i29 : 124 ≤ r17.toInt ∧ r17.toInt ≤ 124 := iv_eqi t28 f22 (il_ 124) (by decide)
          refine lv_aload_n hx hb dX10_readCondition_24 rfl (lv_at hl 1 rfl) ?_
          refine lv_dup hx hb dX10_readCondition_25 rfl ?_
          refine th_getL (ci := 11) (C := RX10) (T := TX10) (N := 10) (v := .int y20) hx hb hts hinX10 hown hK hP hI 2 (mF 2 rfl) rfl rfl 2 (Nat.le_of_ble_eq_true rfl) (hts _ (vA_in _ _ (in_8 _ (zs4 (zs4 (zs1 (zs0))))))) (fun _ h9 => h9) fy20 dX10_readCondition_26 ?_
          refine lv_iconst (v := 1) hx hb dX10_readCondition_29 (by decide) ?_
          refine lv_iadd hx hb dX10_readCondition_30 ?_
          refine lv_topi (fun y30 ey30 => ?_)
          obtain ⟨ty30, iy30⟩ := ti_add (e := 1) (f := 201) i21 ln_1 ey30 (by decide)
          have ty30 : y30.toInt = y20.toInt + 1 := ty30
          have iy30 : 1 ≤ y30.toInt ∧ y30.toInt ≤ 201 := iy30
          have i31 : 1 ≤ y30.toInt ∧ y30.toInt ≤ 200 := by omega
          refine th_putL (ci := 11) (C := RX10) (T := TX10) (N := 10) (v := .int y30) (ty := .int) hx hb hts hinX10 tyX10 tyX10_ok nmX10 hown hK hP (WL_D hD) hS hI 2 (mF 2 rfl) rfl rfl 2 (Nat.le_of_ble_eq_true rfl) (hts _ (vA_in _ _ (in_8 _ (zs4 (zs4 (zs1 (zs0))))))) (fun _ h9 => h9) rfl (by decide +kernel) rfl rfl (okI rfl (iv_w i31 (by decide))) dX10_readCondition_31 (fun H locs E32 pw33 hI hP hS => ?_)
          have hKp := hKp.pw pw33 rfl
          have k34 : AtP E18 E32 := AtP.pw pw33.2 (vi_e fy20) (vi_e pw33.1) ty30 (by omega)
          have k35 : SZ E18 E32 := SZ.pw pw33 (by decide) (fun _ => by decide)
          refine lv_aload_n hx hb dX10_readCondition_34 rfl (lv_at hl 1 rfl) ?_
          refine lv_iload_n hx hb dX10_readCondition_35 rfl (lv_at hl 2 rfl) ?_
          refine lv_iconst (v := 0) hx hb dX10_readCondition_36 (by decide) ?_
          have z0 := ln_0
          refine th_vL (va_runV (As := [.int a0, .int 0]) (rest := []) ⟨hx, hb, hml, hown, hts⟩ (gP dC dI cT cf hC ad E32 H.size a0 (0 : Int32) hI hh0 (by omega) (iv_w ln_0 (by decide))) (cwV 2 hts (gi_V (in_9 _ (zs16 (zs16 (zs0)))) (in_9 _ (zs16 (zs16 (zs1 (zs0))))) (in_9 _ (zs16 (zs16 (zs1 (zs1 (zs0)))))) (in_8 _ (zs4 (zs4 (zs4 (zs1 (zs1 (zs0))))))) (in_9 _ (zs16 (zs16 (zs1 (zs1 (zs1 (zs0)))))))) rfl rfl rfl (by decide +kernel) ⟨(show 7 * n + 12 + 1 ≤ 7 * n + 13 from nl_4 (Nat.le_of_ble_eq_true rfl) (Nat.le_of_ble_eq_true rfl)), (show 8 + (4 + 11) + 40 * (7 * n + 12) ≤ 40 * (7 * n + 13) from nl_3 (Nat.le_of_ble_eq_true rfl) (Nat.le_of_ble_eq_true rfl))⟩) ⟨HWL_bl, va_recv hK hP (ci := 11) (q0 := posL 2 (LC cf)) rfl (hI.ob 2 (mF 2 rfl) rfl), (HWL_wi hP hK (WL_D hD) hS hA hEV)⟩ rfl rfl hl.1 rfl (lv_room (Nat.le_of_ble_eq_true rfl)) dX10_readCondition_37 ⟨Nat.le_of_ble_eq_true rfl, Nat.le_of_ble_eq_true rfl⟩) (WL_D hD) hS hA (fun E37 H locs hw hP hS => ?_)
          obtain ⟨hI, kq38, hw⟩ := hw
          have hKb := hKp
          have hKp := hKp.tr kq38 (wl_sub rfl rfl)
          obtain ⟨y39, ey39⟩ : ∃ y, xi (E37 2) 5 = y := ⟨_, rfl⟩
          have fy39 : xv (E37 2) 5 = .int y39 := (hI.fi 2 (mF 2 rfl) rfl (Nat.le_of_ble_eq_true rfl) rfl).trans (congrArg Value.int ey39)
          have i40 : 0 ≤ y39.toInt ∧ y39.toInt ≤ 200 := by rw [← ey39]; exact hI.iv 2 (mF 2 rfl) rfl (Nat.le_of_ble_eq_true rfl) rfl
          obtain ⟨f41, f42, f43⟩ := hw
          try rw [(show xi (E32 2) 5 = w8_2_5 from vi_e ((pw33.2 2 5 (fun q9 => absurd q9.2 (Nat.ne_of_beq_eq_false rfl))).trans ((kq19 2 5 rfl).trans hs8_2_5)))] at f41
          try rw [(show xi (E37 2) 5 = y39 from vi_e fy39)] at f41
          refine lv_aload_n hx hb dX10_readCondition_40 rfl (lv_at hl 1 rfl) ?_
          refine lv_bipush (v := 124) hx hb dX10_readCondition_41 (by decide) ?_
          refine th_pi (va_runS (As := [.int 124]) (rest := [.ref (ad 2)]) ⟨hx, hb, hml, hown, hts⟩ (q_casSign l (124 : Int32) (iv_w ln_124 (by decide))) (va_cwS 1 hts (gi_S (in_9 _ (zs4 (zs1 (zs1 (zs0))))) (in_7 _ (zs4 (zs4 (zs4 (zs1 (zs0)))))) (in_7 _ (zs1 (zs1 (zs0)))) (in_7 _ (zs4 (zs4 (zs4 (zs1 (zs1 (zs0)))))))) rfl rfl rfl hz_yX7_asSign_1 ⟨(show 0 + 1 ≤ 7 * n + 13 from nl_1 (Nat.le_of_ble_eq_true rfl)), (show 8 + (1 + 11) + 40 * (0) ≤ 40 * (7 * n + 13) from nl_2 (Nat.le_of_ble_eq_true rfl))⟩) ⟨fun _ _ _ _ q => q, fun _ _ _ => ⟨rfl, trivial⟩⟩ rfl rfl hl.1 rfl (lv_room (Nat.le_of_ble_eq_true rfl)) dX10_readCondition_43 ⟨Nat.le_of_ble_eq_true rfl, Nat.le_of_ble_eq_true rfl⟩) hS (fun r44 H1 locs1 hw hk1 hS => ?_)
          have hP := ub_keep hP hk1
          generalize H1 = H at hP hS ⊢
          generalize locs1 = locs at hS ⊢
          obtain ⟨f45, f46⟩ := hw
          refine th_vL (va_runV (As := [.int r44]) (rest := []) ⟨hx, hb, hml, hown, hts⟩ (q_addV l dC dI cT cf hC ad E37 H.size r44 hI) (cwV 1 hts (gi_V (in_9 _ (zs4 (zs1 (zs1 (zs1 (zs0)))))) (in_9 _ (zs4 (zs4 (zs0)))) (in_9 _ (zs4 (zs4 (zs1 (zs0))))) (in_8 _ (zs4 (zs4 (zs4 (zs1 (zs1 (zs0))))))) (in_7 _ (zs16 (zs4 (zs4 (zs4 (zs1 (zs0)))))))) rfl rfl rfl ⟨rfl, hz_yX10_add_1⟩ ⟨(show 0 + 1 ≤ 7 * n + 13 from nl_1 (Nat.le_of_ble_eq_true rfl)), (show 8 + (2 + 11) + 40 * (0) ≤ 40 * (7 * n + 13) from nl_2 (Nat.le_of_ble_eq_true rfl))⟩) ⟨HWL_bl, va_recv hK hP (ci := 11) (q0 := posL 2 (LC cf)) rfl (hI.ob 2 (mF 2 rfl) rfl), (HWL_wi hP hK (WL_D hD) hS hA hEV)⟩ rfl rfl hl.1 rfl (lv_room (Nat.le_of_ble_eq_true rfl)) dX10_readCondition_46 ⟨Nat.le_of_ble_eq_true rfl, Nat.le_of_ble_eq_true rfl⟩) (WL_D hD) hS hA (fun E48 H locs hw hP hS => ?_)
          obtain ⟨hI, kq49, hw⟩ := hw
          have hKb := hKp
          have hKp := hKp.tr kq49 (wl_sub rfl rfl)
          obtain ⟨y50, ey50⟩ : ∃ y, xi (E48 2) 5 = y := ⟨_, rfl⟩
          have fy50 : xv (E48 2) 5 = .int y50 := (hI.fi 2 (mF 2 rfl) rfl (Nat.le_of_ble_eq_true rfl) rfl).trans (congrArg Value.int ey50)
          have i51 : 0 ≤ y50.toInt ∧ y50.toInt ≤ 200 := by rw [← ey50]; exact hI.iv 2 (mF 2 rfl) rfl (Nat.le_of_ble_eq_true rfl) rfl
          obtain ⟨f52, f53, f54⟩ := hw
          try rw [(show xi (E37 2) 5 = y39 from vi_e fy39)] at f52
          try rw [(show xi (E48 2) 5 = y50 from vi_e fy50)] at f52
          obtain ⟨y55, ey55⟩ : ∃ y : Int32, y = v8_3 + (1 : Int32) := ⟨_, rfl⟩
          obtain ⟨ty55, iy55⟩ := ti_add (e := 1) (f := 200) i16 ln_1 ey55 (by decide)
          have ty55 : y55.toInt = v8_3.toInt + 1 := ty55
          have iy55 : 1 ≤ y55.toInt ∧ y55.toInt ≤ 200 := iy55
          refine lv_iinc (v := y55) (lv' := [(3, .int y55), (0, .ref (ad 2)), (1, .int a0), (2, .int a1)]) hx hb dX10_readCondition_49 hl (k := 0) rfl (by rw [ey55]; rfl) (by decide) rfl (fun ls hl => ?_)
          refine lv_goto (tgt := 8) hx hb dX10_readCondition_52 (by decide) ?_
          exact ih8 y50 y55 E48 _ _ _ i51 (iv_w iy55 (by decide)) (by have h9 := i51; omega) (Lp.step (op := isOr) (cb := jb) hx8_1 f24 (is_or.mpr (by omega)) (by omega) k34 f42 f53 ty55 (fun t m => paX_mono n t m) (fun t m a c h => opL_1 (paX_mono n t m) rfl h)) (LpV.step (op := isOr) hx8_1 hx8_2 f24 k25 (is_or.mpr (by omega)) k34 k35 f42 f43 f53 (by have z9 : (124 : Int32).toInt = 124 := rfl; omega) f54 (fun t m a c h => opL_1 (paX_mono n t m) rfl h)) (by first | exact ms_su hx8_3 ty55 (by decide) | omega) hI hKp fy50 hP hS (lv_sub hl [0, 1, 2, 3] rfl)
  exact hL8 (201) y7 (0 : Int32) E5 _ _ _ i8 (iv_w ln_0 (by decide)) (by have h9 := i8; omega) (Lp.start f10 lpO (by decide)) (LpV.start f11 lpO) (by have h9 := ln_0; first | exact ms_bu h9.1 (by decide) | omega) hI hKp fy7 hP hS (lv_sub hl [0, 1, 2, 3] rfl)
theorem q_cgroupV (l : Launch) : ∀ n, C_readSumV l n ∧ C_readUnitV l n ∧ C_readConditionV l n := by
  have key : ∀ n, ∀ k, k < n → C_readSumV l k ∧ C_readUnitV l k ∧ C_readConditionV l k := by
    intro n
    induction n with
    | zero => intro k hk; exact absurd hk (by omega)
    | succ n ih =>
      intro k hk
      have h1 := q_readAtomV l k (fun j hj => (ih j (by omega)).1)
      have h3 := q_readSumV l k (q_readTermV l k h1)
      have h4 := q_readComparisonV l k h3
      have h5 := q_readUnitV l k h3 h4 (fun j hj => (ih j (by omega)).2.1) (fun j hj => (ih j (by omega)).2.2)
      exact ⟨h3, h5, q_readConditionV l k (q_readPartV l k h5)⟩
  exact fun n => key (n + 1) n (by omega)
