

def v_clauseW : List Cond := .code yX13_clause cX13_clause 5 none :: vA
abbrev rm_clauseW : Room := { frames := 68, cells := 0, slots := 0, locals := 2720 }
def w_clauseW : Nat → Nat → Bool := wl [] [(0, 21), (0, 22), (0, 23), (0, 25), (0, 26)]
set_option maxHeartbeats 4000000 in
set_option maxRecDepth 100000 in
theorem q_clauseW (l : Launch) (dC : Nat → ClassId) (dI : Nat → Nat → Nat) (cT : Nat → ClassId) (ad : Nat → Nat) (E : Nat → va_E) (sz : Nat) (k : Nat) (nl : Nat) (hI0 : IX cT shM spM 72 ad E) (hh0 : k < 72) (hh1 : shM k = (1, 1, nl)) (hh2 : ∀ j, spM k j = (0, -128, 127)) (hh3 : xv (E 0) 18 = .ref (ad k)) (hh4 : (xi (E 0) 19).toInt + 200 ≤ (nl : Int)) (hh5 : (xi (E 0) 23).toInt = 0) (hh6 : (xi (E 0) 22).toInt = -1) : Met l yX13_clause v_clauseW rm_clauseW (va_Pc [.ref (ad 0)] (HW dC dI (TYM cT) 72 ad E sz)) (va_Qv (S := Nat → va_E) (fun u => IX cT shM spM 72 ad u ∧ Kp w_clauseW E u ∧ (((xi (E 0) 21).toInt ≤ (xi (u 0) 21).toInt) ∧ ((xi (E 0) 23).toInt ≤ (xi (u 0) 23).toInt) ∧ ((xi (u 0) 22).toInt = -1 → (xi (u 0) 23).toInt = (xi (E 0) 23).toInt) ∧ ((xi (u 0) 22).toInt = -1 → (xi (E 0) 22).toInt = -1) ∧ (RdM k (fun t m a => clauseS true t m a) E u) ∧ (RdQ k E u))) (HB dC dI 72 ad) (va_A (WX 72 ad E) sz)) 0 0 (va_A (WX 72 ad E) sz) := by
  refine Met.ofW (cc := cX13_clause) (maxL := 5) (ret := none) (by decide) rfl ?_
  intro p e s m args below meth c s₁ B hml hv
  obtain ⟨hargs, hsz, hP, hK, hD0, hEV⟩ := hv
  subst hsz
  have hx := B.exec
  have hb := B.bytes
  have hr := B.returns
  have hts := atoms_spec (ws := v_clauseW) B.pre
  have hown : s.vm.findClass RX13 = some m.cls := findClass_of_methodNamed B.named
  have hlocks := B.notSynchronized
  have hinX13 : ∀ w ∈ u_ws RX13 TX13 97, w ∈ v_clauseW := fun w h => vA_in _ w (in_X13 w h)
  generalize hAe : va_A (WX 72 ad E) s.heap.size = A at hEV ⊢
  have hA : ∀ q : Nat, s.heap.size ≤ q → A q := fun q h => by rw [← hAe]; exact Or.inr h
  have hD : va_D A (WX 72 ad E) := by rw [← hAe]; exact hD0.self
  have hS : va_S A s.heap s.heap [] := va_S.rf
  have hI := hI0
  have hKp : Kp w_clauseW E E := Kp.rf
  have hl := lv_entry ([.ref (ad 0)]) (n := 5) (Nat.le_of_ble_eq_true rfl)
  obtain ⟨Q, hQ⟩ : ∃ Q, Q = MQ below (va_Qv (S := Nat → va_E) (fun u => IX cT shM spM 72 ad u ∧ Kp w_clauseW E u ∧ (((xi (E 0) 21).toInt ≤ (xi (u 0) 21).toInt) ∧ ((xi (E 0) 23).toInt ≤ (xi (u 0) 23).toInt) ∧ ((xi (u 0) 22).toInt = -1 → (xi (u 0) 23).toInt = (xi (E 0) 23).toInt) ∧ ((xi (u 0) 22).toInt = -1 → (xi (E 0) 22).toInt = -1) ∧ (RdM k (fun t m a => clauseS true t m a) E u) ∧ (RdQ k E u))) (HB dC dI 72 ad) (A)) args s 0 0 (A) := ⟨_, rfl⟩
  rw [← hQ, show entryFrame m args 5 = _ from (congrArg (fun z => entryFrame m z 5) hargs).trans (lg_entry_eq _ _ _)]
  generalize (lg_sl ([.ref (ad 0)]) ++ List.replicate (5 - (lg_sl ([.ref (ad 0)])).length) Slot.unset).toArray = ls at hl ⊢
  have hl : lv_has ls 5 [(0, .ref (ad 0))] := hl
  obtain ⟨y1, ey1⟩ : ∃ y, xi (E 0) 21 = y := ⟨_, rfl⟩
  have fy1 : xv (E 0) 21 = .int y1 := (hI.fi 0 (Nat.le_of_ble_eq_true rfl) rfl (Nat.le_of_ble_eq_true rfl) rfl).trans (congrArg Value.int ey1)
  have iy1 : 0 ≤ y1.toInt ∧ y1.toInt ≤ 201 := by rw [← ey1]; exact hI.iv 0 (Nat.le_of_ble_eq_true rfl) rfl (Nat.le_of_ble_eq_true rfl) rfl
  obtain ⟨y2, ey2⟩ : ∃ y, xi (E 0) 22 = y := ⟨_, rfl⟩
  have fy2 : xv (E 0) 22 = .int y2 := (hI.fi 0 (Nat.le_of_ble_eq_true rfl) rfl (Nat.le_of_ble_eq_true rfl) rfl).trans (congrArg Value.int ey2)
  have iy2 : -1 ≤ y2.toInt ∧ y2.toInt ≤ 201 := by rw [← ey2]; exact hI.iv 0 (Nat.le_of_ble_eq_true rfl) rfl (Nat.le_of_ble_eq_true rfl) rfl
  rw [ey2] at hh6
  obtain ⟨y3, ey3⟩ : ∃ y, xi (E 0) 23 = y := ⟨_, rfl⟩
  have fy3 : xv (E 0) 23 = .int y3 := (hI.fi 0 (Nat.le_of_ble_eq_true rfl) rfl (Nat.le_of_ble_eq_true rfl) rfl).trans (congrArg Value.int ey3)
  have iy3 : 0 ≤ y3.toInt ∧ y3.toInt ≤ 8 := by rw [← ey3]; exact hI.iv 0 (Nat.le_of_ble_eq_true rfl) rfl (Nat.le_of_ble_eq_true rfl) rfl
  rw [ey3] at hh5
  obtain ⟨y4, ey4⟩ : ∃ y, xi (E 0) 26 = y := ⟨_, rfl⟩
  have fy4 : xv (E 0) 26 = .int y4 := (hI.fi 0 (Nat.le_of_ble_eq_true rfl) rfl (Nat.le_of_ble_eq_true rfl) rfl).trans (congrArg Value.int ey4)
  have iy4 : 0 ≤ y4.toInt ∧ y4.toInt ≤ 1 := by rw [← ey4]; exact hI.iv 0 (Nat.le_of_ble_eq_true rfl) rfl (Nat.le_of_ble_eq_true rfl) rfl
  obtain ⟨y5, ey5⟩ : ∃ y, xi (E 0) 25 = y := ⟨_, rfl⟩
  have fy5 : xv (E 0) 25 = .int y5 := (hI.fi 0 (Nat.le_of_ble_eq_true rfl) rfl (Nat.le_of_ble_eq_true rfl) rfl).trans (congrArg Value.int ey5)
  have hk0 : ¬ k = 0 := fun q9 => by rw [q9] at hh1; exact absurd (show (shM 0).1 = 1 from congrArg Prod.fst hh1) (by decide)
  refine lv_aload_n hx hb dX13_clause_0 rfl (lv_at hl 0 rfl) ?_
  refine th_i (va_runV (As := []) (rest := []) ⟨hx, hb, hml, hown, hts⟩ (q_lookX l dC dI cT ad E s.heap.size k nl hI (by exact hh0) (by exact hh1) (by exact hh2) (by exact hh3) (by exact hh4)) (cwV 0 hts (gi_V (in_26 _ (zs1 (zs1 (zs0)))) (in_26 _ (zs1 (zs1 (zs1 (zs0))))) (in_26 _ (zs4 (zs0))) (in_24 _ (zs4 (zs4 (zs4 (zs1 (zs1 (zs1 (zs0)))))))) (in_26 _ (zs4 (zs1 (zs0))))) rfl rfl rfl ⟨rfl, hz_yX13_look_0⟩ ⟨Nat.le_of_ble_eq_true rfl, Nat.le_of_ble_eq_true rfl⟩) ⟨HW_bl, va_recv hK hP (ci := 14) (q0 := 0) rfl (hI.ob 0 (Nat.le_of_ble_eq_true rfl) rfl), (HW_wi hP hK (WX_D hD) hS hA hEV)⟩ rfl rfl hl.1 rfl (lv_room (Nat.le_of_ble_eq_true rfl)) dX13_clause_1 ⟨Nat.le_of_ble_eq_true rfl, Nat.le_of_ble_eq_true rfl⟩) (WX_D hD) hS hA (fun r6 E7 H locs hw hP hS => ?_)
  obtain ⟨hI, kq8, hw⟩ := hw
  have hKb := hKp
  have hKp := hKp.tr kq8 (wl_sub rfl rfl)
  obtain ⟨y9, ey9⟩ : ∃ y, xi (E7 0) 21 = y := ⟨_, rfl⟩
  have fy9 : xv (E7 0) 21 = .int y9 := (hI.fi 0 (Nat.le_of_ble_eq_true rfl) rfl (Nat.le_of_ble_eq_true rfl) rfl).trans (congrArg Value.int ey9)
  have iy9 : 0 ≤ y9.toInt ∧ y9.toInt ≤ 201 := by rw [← ey9]; exact hI.iv 0 (Nat.le_of_ble_eq_true rfl) rfl (Nat.le_of_ble_eq_true rfl) rfl
  obtain ⟨f10, f11, f12, f13, f14⟩ := hw
  have i15 : 0 ≤ (xi (E 0) 19).toInt ∧ (xi (E 0) 19).toInt ≤ 3000 := (show 0 ≤ (xi (E 0) 19).toInt ∧ (xi (E 0) 19).toInt ≤ 3000 from hI0.iv 0 (Nat.le_of_ble_eq_true rfl) rfl (Nat.le_of_ble_eq_true rfl) rfl)
  have i16 : 0 ≤ (xi (E 0) 20).toInt ∧ (xi (E 0) 20).toInt ≤ 200 := (show 0 ≤ (xi (E 0) 20).toInt ∧ (xi (E 0) 20).toInt ≤ 200 from hI0.iv 0 (Nat.le_of_ble_eq_true rfl) rfl (Nat.le_of_ble_eq_true rfl) rfl)
  try rw [(show xi (E 0) 21 = y1 from vi_e fy1)] at f11
  try rw [(show xi (E7 0) 21 = y9 from vi_e fy9)] at f11
  try rw [(show xi (E 0) 21 = y1 from vi_e fy1)] at f12
  try rw [(show xi (E7 0) 21 = y9 from vi_e fy9)] at f12
  try rw [(show xi (E 0) 21 = y1 from vi_e fy1)] at f13
  try rw [(show xi (E7 0) 21 = y9 from vi_e fy9)] at f13
  refine lv_istore_n (lv' := [(1, .int r6), (0, .ref (ad 0))]) hx hb dX13_clause_4 rfl hl (by decide) rfl (fun ls hl => ?_)
  refine lv_iload_n hx hb dX13_clause_5 rfl (lv_at hl 0 rfl) ?_
  refine lv_iconst (v := -1) hx hb dX13_clause_6 (by decide) ?_
  refine lv_icmp_eq (tgt := 20) hx hb dX13_clause_7 (by decide) (fun c17 => ?_) (fun c17 => ?_)
  · --7 taken
    have t18 : r6.toInt = -1 := ti_eq c17
    have i19 : -1 ≤ r6.toInt ∧ r6.toInt ≤ -1 := iv_eqi t18 f10 (il_ (-1)) (by decide)
    refine lv_aload_n hx hb dX13_clause_20 rfl (lv_at hl 1 rfl) ?_
    refine th_i (va_runV (As := []) (rest := []) ⟨hx, hb, hml, hown, hts⟩ (q_stopX l dC dI cT ad E7 H.size k nl hI (by exact hh0) (by exact hh1) (by exact hh2) (by exact (hKp 0 18 rfl).trans hh3) (by (try rw [hKp.ei 0 19 rfl]); exact hh4)) (cwV 0 hts (gi_V (in_26 _ (zs4 (zs4 (zs4 (zs0))))) (in_26 _ (zs4 (zs4 (zs4 (zs1 (zs0)))))) (in_26 _ (zs4 (zs4 (zs4 (zs1 (zs1 (zs0))))))) (in_24 _ (zs4 (zs4 (zs4 (zs1 (zs1 (zs1 (zs0)))))))) (in_26 _ (zs4 (zs4 (zs4 (zs1 (zs1 (zs1 (zs0))))))))) rfl rfl rfl ⟨rfl, hz_yX13_stop_0⟩ ⟨Nat.le_of_ble_eq_true rfl, Nat.le_of_ble_eq_true rfl⟩) ⟨HW_bl, va_recv hK hP (ci := 14) (q0 := 0) rfl (hI.ob 0 (Nat.le_of_ble_eq_true rfl) rfl), (HW_wi hP hK (WX_D hD) hS hA hEV)⟩ rfl rfl hl.1 rfl (lv_room (Nat.le_of_ble_eq_true rfl)) dX13_clause_21 ⟨Nat.le_of_ble_eq_true rfl, Nat.le_of_ble_eq_true rfl⟩) (WX_D hD) hS hA (fun r20 E21 H locs hw hP hS => ?_)
    obtain ⟨hI, kq22, hw⟩ := hw
    have hKb := hKp
    have hKp := hKp.tr kq22 (wl_sub rfl rfl)
    obtain ⟨y23, ey23⟩ : ∃ y, xi (E21 0) 22 = y := ⟨_, rfl⟩
    have fy23 : xv (E21 0) 22 = .int y23 := (hI.fi 0 (Nat.le_of_ble_eq_true rfl) rfl (Nat.le_of_ble_eq_true rfl) rfl).trans (congrArg Value.int ey23)
    have iy23 : -1 ≤ y23.toInt ∧ y23.toInt ≤ 201 := by rw [← ey23]; exact hI.iv 0 (Nat.le_of_ble_eq_true rfl) rfl (Nat.le_of_ble_eq_true rfl) rfl
    obtain ⟨rfl, f24, f25⟩ := hw
    try rw [(show xi (E7 0) 22 = y2 from vi_e ((kq8 0 22 rfl).trans fy2))] at f24
    try rw [(show xi (E21 0) 22 = y23 from vi_e fy23)] at f24
    refine lv_pop hx hb dX13_clause_24 rfl ?_
    rw [hQ]
    exact W.vret hx hb hr (fun t ht hW => ⟨⟨E21, rfl, ⟨hI, hKp, ⟨by (try rw [(show xi (E21 0) 21 = y9 from vi_e ((kq22 0 21 rfl).trans fy9))]); (try rw [ey1]); first | done | exact f11 | all_goals omega, by (try rw [(show xi (E21 0) 23 = y3 from vi_e ((kq22 0 23 rfl).trans ((kq8 0 23 rfl).trans fy3)))]); (try rw [ey3]); first | done | exact Int.le_refl _ | all_goals omega, by (try rw [(show xi (E21 0) 22 = y23 from vi_e fy23)]); (try rw [(show xi (E21 0) 23 = y3 from vi_e ((kq22 0 23 rfl).trans ((kq8 0 23 rfl).trans fy3)))]); (try rw [ey2]); (try rw [ey3]); first | done | exact fun q9 => absurd (q9) f24 | all_goals omega, by (try rw [(show xi (E21 0) 22 = y23 from vi_e fy23)]); (try rw [ey2]); first | done | exact fun q9 => absurd (q9) f24 | all_goals omega, clM_no f14 (by rw [show r6.toInt = -1 by omega]; decide) f25, RdQ.nf (by show ¬ (xi (E21 0) 22).toInt = -1; rw [show xi (E21 0) 22 = y23 from vi_e fy23]; omega)⟩⟩, by show va_P (dC, dI) vwCl (WX 72 ad E21) t.heap; rw [ht]; exact hP⟩, hS.F ht⟩) hS.2.2 dX13_clause_25
  · --7 not
    have t26 : ¬ r6.toInt = -1 := ti_ne c17
    have i27 : 0 ≤ r6.toInt ∧ r6.toInt ≤ 255 := iv_ne_l t26 f10 (il_ (-1))
    obtain ⟨qs, vs, hqR, hSS⟩ := hEV.2.2
    refine th_ldcwS hx hb hown hqR dX13_clause_10 ?_
    refine lv_iload_n hx hb dX13_clause_13 rfl (lv_at hl 0 rfl) ?_
    refine th_pi (va_runV (As := [.int r6]) (rest := []) ⟨hx, hb, hml, hown, hts⟩ (q_indexOf l qs vs tLAB r6 (by decide) (by decide)) (cwV 1 hts (gi_V (in_26 _ (zs4 (zs1 (zs1 (zs1 (zs0)))))) (in_8 _ (zs16 (zs16 (zs1 (zs0))))) (in_8 _ (zs16 (zs16 (zs1 (zs1 (zs0)))))) (in_0 _ (zs4 (zs4 (zs4 (zs1 (zs0)))))) (in_0 _ (zs4 (zs4 (zs1 (zs0)))))) rfl rfl rfl ⟨rfl, hz_yJ0_indexOf_0f7a4_1⟩ ⟨Nat.le_of_ble_eq_true rfl, Nat.le_of_ble_eq_true rfl⟩) ⟨fun a U g mk q => ⟨q.1, SS_c q.2⟩, va_Orecv hSS.1 hS, fun U hU hW => ⟨rfl, SS_w hU hW hS (fun _ h => h.elim) hSS⟩⟩ rfl rfl hl.1 rfl (lv_room (Nat.le_of_ble_eq_true rfl)) dX13_clause_14 ⟨Nat.le_of_ble_eq_true rfl, Nat.le_of_ble_eq_true rfl⟩) hS (fun r28 H1 locs1 hw hk1 hS => ?_)
    have hP := ub_keep hP hk1
    generalize H1 = H at hP hS ⊢
    generalize locs1 = locs at hS ⊢
    obtain ⟨f29, f30⟩ := hw
    refine lv_if_ge (tgt := 26) hx hb dX13_clause_17 (by decide) (fun c31 => ?_) (fun c31 => ?_)
    · --17 taken
      have t32 : (0 : Int) ≤ r28.toInt := ti_le c31
      have i33 : 0 ≤ r28.toInt ∧ r28.toInt ≤ 1000 := iv_le_r t32 (il_ 0) f29 (by decide)
      refine lv_aload_n hx hb dX13_clause_26 rfl (lv_at hl 1 rfl) ?_
      refine lv_dup hx hb dX13_clause_27 rfl ?_
      refine th_get (ci := 14) (C := RX13) (T := TX13) (N := 97) (v := .int y9) hx hb hts hinX13 hown hK hP hI 0 (Nat.le_of_ble_eq_true rfl) rfl rfl 21 (Nat.le_of_ble_eq_true rfl) (hts _ (vA_in _ _ (in_25 _ (zs16 (zs16 (zs4 (zs0))))))) (fun _ h9 => h9) fy9 dX13_clause_28 ?_
      refine lv_iconst (v := 1) hx hb dX13_clause_31 (by decide) ?_
      refine lv_iadd hx hb dX13_clause_32 ?_
      refine lv_topi (fun y34 ey34 => ?_)
      obtain ⟨ty34, iy34⟩ := ti_add (e := 1) (f := 202) iy9 ln_1 ey34 (by decide)
      have ty34 : y34.toInt = y9.toInt + 1 := ty34
      have iy34 : 1 ≤ y34.toInt ∧ y34.toInt ≤ 202 := iy34
      have i35 : 1 ≤ y34.toInt ∧ y34.toInt ≤ 201 := by omega
      refine th_put (ci := 14) (C := RX13) (T := TX13) (N := 97) (v := .int y34) (ty := .int) hx hb hts hinX13 tyX13 tyX13_ok nmX13 hown hK hP (WX_D hD) hS hI 0 (Nat.le_of_ble_eq_true rfl) rfl rfl 21 (Nat.le_of_ble_eq_true rfl) (hts _ (vA_in _ _ (in_25 _ (zs16 (zs16 (zs4 (zs0))))))) (fun _ h9 => h9) rfl (by decide +kernel) rfl rfl (okI rfl (iv_w i35 (by decide))) dX13_clause_33 (fun H locs E36 pw37 hI hP hS => ?_)
      have hKp := hKp.pw pw37 rfl
      have k38 : AtM k E7 E36 := AtM.pw pw37.2 hk0 (vi_e fy9) (vi_e pw37.1) ty34 (by omega)
      refine lv_aload_n hx hb dX13_clause_36 rfl (lv_at hl 1 rfl) ?_
      refine lv_bipush (v := 58) hx hb dX13_clause_37 (by decide) ?_
      have z58 := ln_58
      refine th_i (va_runV (As := [.int 58]) (rest := []) ⟨hx, hb, hml, hown, hts⟩ (q_takesX l dC dI cT ad E36 H.size (58 : Int32) k nl hI (by exact hh0) (by exact hh1) (by exact hh2) (by exact (hKp 0 18 rfl).trans hh3) (by (try rw [hKp.ei 0 19 rfl]); exact hh4) (iv_w ln_58 (by decide))) (cwV 1 hts (gi_V (in_26 _ (zs16 (zs1 (zs1 (zs1 (zs0)))))) (in_26 _ (zs16 (zs4 (zs0)))) (in_26 _ (zs16 (zs4 (zs1 (zs0))))) (in_24 _ (zs4 (zs4 (zs4 (zs1 (zs1 (zs1 (zs0)))))))) (in_26 _ (zs16 (zs4 (zs1 (zs1 (zs0))))))) rfl rfl rfl ⟨rfl, hz_yX13_takes_1⟩ ⟨Nat.le_of_ble_eq_true rfl, Nat.le_of_ble_eq_true rfl⟩) ⟨HW_bl, va_recv hK hP (ci := 14) (q0 := 0) rfl (hI.ob 0 (Nat.le_of_ble_eq_true rfl) rfl), (HW_wi hP hK (WX_D hD) hS hA hEV)⟩ rfl rfl hl.1 rfl (lv_room (Nat.le_of_ble_eq_true rfl)) dX13_clause_39 ⟨Nat.le_of_ble_eq_true rfl, Nat.le_of_ble_eq_true rfl⟩) (WX_D hD) hS hA (fun r39 E40 H locs hw hP hS => ?_)
      obtain ⟨hI, kq41, hw⟩ := hw
      have hKb := hKp
      have hKp := hKp.tr kq41 (wl_sub rfl rfl)
      obtain ⟨y42, ey42⟩ : ∃ y, xi (E40 0) 21 = y := ⟨_, rfl⟩
      have fy42 : xv (E40 0) 21 = .int y42 := (hI.fi 0 (Nat.le_of_ble_eq_true rfl) rfl (Nat.le_of_ble_eq_true rfl) rfl).trans (congrArg Value.int ey42)
      have iy42 : 0 ≤ y42.toInt ∧ y42.toInt ≤ 201 := by rw [← ey42]; exact hI.iv 0 (Nat.le_of_ble_eq_true rfl) rfl (Nat.le_of_ble_eq_true rfl) rfl
      obtain ⟨y43, ey43⟩ : ∃ y, xi (E40 0) 22 = y := ⟨_, rfl⟩
      have fy43 : xv (E40 0) 22 = .int y43 := (hI.fi 0 (Nat.le_of_ble_eq_true rfl) rfl (Nat.le_of_ble_eq_true rfl) rfl).trans (congrArg Value.int ey43)
      have iy43 : -1 ≤ y43.toInt ∧ y43.toInt ≤ 201 := by rw [← ey43]; exact hI.iv 0 (Nat.le_of_ble_eq_true rfl) rfl (Nat.le_of_ble_eq_true rfl) rfl
      rcases hw with hw | hw
      · -- takesX, case 0
        obtain ⟨rfl, f44, f45, f46, f47, f48⟩ := hw
        try rw [(show xi (E36 0) 22 = y2 from vi_e ((pw37.2 0 22 (fun q9 => absurd q9.2 (Nat.ne_of_beq_eq_false rfl))).trans ((kq8 0 22 rfl).trans fy2)))] at f44
        try rw [(show xi (E40 0) 22 = y43 from vi_e fy43)] at f44
        try rw [(show xi (E36 0) 22 = y2 from vi_e ((pw37.2 0 22 (fun q9 => absurd q9.2 (Nat.ne_of_beq_eq_false rfl))).trans ((kq8 0 22 rfl).trans fy2)))] at f45
        try rw [(show xi (E40 0) 22 = y43 from vi_e fy43)] at f45
        try rw [(show xi (E36 0) 21 = y34 from vi_e pw37.1)] at f46
        try rw [(show xi (E40 0) 21 = y42 from vi_e fy42)] at f46
        try rw [(show xi (E36 0) 21 = y34 from vi_e pw37.1)] at f47
        try rw [(show xi (E40 0) 21 = y42 from vi_e fy42)] at f47
        refine lv_if_ne (tgt := 46) hx hb dX13_clause_42 (by decide) (fun c49 => ?_) (fun c49 => ?_)
        · --42 taken
          refine lv_iconst (v := 1) hx hb dX13_clause_46 (by decide) ?_
          refine lv_istore_n (lv' := [(2, .int 1), (1, .int r6), (0, .ref (ad 0))]) hx hb dX13_clause_47 rfl hl (by decide) rfl (fun ls hl => ?_)
          refine lv_iconst (v := 0) hx hb dX13_clause_48 (by decide) ?_
          refine lv_istore_n (lv' := [(3, .int 0), (2, .int 1), (1, .int r6), (0, .ref (ad 0))]) hx hb dX13_clause_49 rfl hl (by decide) rfl (fun ls hl => ?_)
          refine lv_aload_n hx hb dX13_clause_50 rfl (lv_at hl 3 rfl) ?_
          refine th_i (va_runV (As := []) (rest := []) ⟨hx, hb, hml, hown, hts⟩ (q_lookX l dC dI cT ad E40 H.size k nl hI (by exact hh0) (by exact hh1) (by exact hh2) (by exact (hKp 0 18 rfl).trans hh3) (by (try rw [hKp.ei 0 19 rfl]); exact hh4)) (cwV 0 hts (gi_V (in_26 _ (zs1 (zs1 (zs0)))) (in_26 _ (zs1 (zs1 (zs1 (zs0))))) (in_26 _ (zs4 (zs0))) (in_24 _ (zs4 (zs4 (zs4 (zs1 (zs1 (zs1 (zs0)))))))) (in_26 _ (zs4 (zs1 (zs0))))) rfl rfl rfl ⟨rfl, hz_yX13_look_0⟩ ⟨Nat.le_of_ble_eq_true rfl, Nat.le_of_ble_eq_true rfl⟩) ⟨HW_bl, va_recv hK hP (ci := 14) (q0 := 0) rfl (hI.ob 0 (Nat.le_of_ble_eq_true rfl) rfl), (HW_wi hP hK (WX_D hD) hS hA hEV)⟩ rfl rfl hl.1 rfl (lv_room (Nat.le_of_ble_eq_true rfl)) dX13_clause_51 ⟨Nat.le_of_ble_eq_true rfl, Nat.le_of_ble_eq_true rfl⟩) (WX_D hD) hS hA (fun r50 E51 H locs hw hP hS => ?_)
          obtain ⟨hI, kq52, hw⟩ := hw
          have hKb := hKp
          have hKp := hKp.tr kq52 (wl_sub rfl rfl)
          obtain ⟨y53, ey53⟩ : ∃ y, xi (E51 0) 21 = y := ⟨_, rfl⟩
          have fy53 : xv (E51 0) 21 = .int y53 := (hI.fi 0 (Nat.le_of_ble_eq_true rfl) rfl (Nat.le_of_ble_eq_true rfl) rfl).trans (congrArg Value.int ey53)
          have iy53 : 0 ≤ y53.toInt ∧ y53.toInt ≤ 201 := by rw [← ey53]; exact hI.iv 0 (Nat.le_of_ble_eq_true rfl) rfl (Nat.le_of_ble_eq_true rfl) rfl
          obtain ⟨f54, f55, f56, f57, f58⟩ := hw
          try rw [(show xi (E40 0) 21 = y42 from vi_e fy42)] at f55
          try rw [(show xi (E51 0) 21 = y53 from vi_e fy53)] at f55
          try rw [(show xi (E40 0) 21 = y42 from vi_e fy42)] at f56
          try rw [hKb.ei 0 20 rfl] at f56
          try rw [(show xi (E51 0) 21 = y53 from vi_e fy53)] at f56
          try rw [(show xi (E40 0) 21 = y42 from vi_e fy42)] at f57
          try rw [hKb.ei 0 20 rfl] at f57
          try rw [(show xi (E51 0) 21 = y53 from vi_e fy53)] at f57
          have k59 : MZ E E51 := MZ.kp hKp (fun _ => rfl)
          refine lv_istore (lv' := [(4, .int r50), (3, .int 0), (2, .int 1), (1, .int r6), (0, .ref (ad 0))]) hx hb dX13_clause_54 hl (by decide) rfl (fun ls hl => ?_)
          refine lv_iload hx hb dX13_clause_56 (lv_at hl 0 rfl) ?_
          refine lv_bipush (v := 33) hx hb dX13_clause_58 (by decide) ?_
          refine lv_icmp_eq (tgt := 70) hx hb dX13_clause_60 (by decide) (fun c60 => ?_) (fun c60 => ?_)
          · --60 taken
            have t61 : r50.toInt = 33 := ti_eq c60
            have i62 : 33 ≤ r50.toInt ∧ r50.toInt ≤ 33 := iv_eqi t61 f54 (il_ 33) (by decide)
            refine lv_aload_n hx hb dX13_clause_70 rfl (lv_at hl 4 rfl) ?_
            refine lv_iconst (v := 0) hx hb dX13_clause_71 (by decide) ?_
            refine lv_iconst (v := 0) hx hb dX13_clause_72 (by decide) ?_
            have z0 := ln_0
            refine th_i (va_runV (As := [.int 0, .int 0]) (rest := []) ⟨hx, hb, hml, hown, hts⟩ ((q_groupW l 8).2.2 dC dI cT ad E51 H.size (0 : Int32) (0 : Int32) k nl hI (by exact hh0) (by exact hh1) (by exact hh2) (by exact (hKp 0 18 rfl).trans hh3) (by (try rw [hKp.ei 0 19 rfl]); exact hh4) (by (try rw [(show xi (E51 0) 23 = y3 from vi_e ((kq52 0 23 rfl).trans ((kq41 0 23 rfl).trans ((pw37.2 0 23 (fun q9 => absurd q9.2 (Nat.ne_of_beq_eq_false rfl))).trans ((kq8 0 23 rfl).trans fy3)))))]); omega) (by (try rw [(show xi (E51 0) 22 = y43 from vi_e ((kq52 0 22 rfl).trans fy43))]); omega) (iv_w ln_0 (by decide))) (cwV 2 hts (gi_V (in_29 _ (zs16 (zs1 (zs1 (zs0))))) (in_29 _ (zs16 (zs1 (zs1 (zs1 (zs0)))))) (in_29 _ (zs16 (zs4 (zs0)))) (in_24 _ (zs4 (zs4 (zs4 (zs1 (zs1 (zs1 (zs0)))))))) (in_29 _ (zs16 (zs4 (zs1 (zs0)))))) rfl rfl rfl (by decide +kernel) ⟨(show 7 * 8 + 11 + 1 ≤ 68 from Nat.le_of_ble_eq_true rfl), (show 8 + (5 + 11) + 40 * (7 * 8 + 11) ≤ 40 * (68) from Nat.le_of_ble_eq_true rfl)⟩) ⟨HW_bl, va_recv hK hP (ci := 14) (q0 := 0) rfl (hI.ob 0 (Nat.le_of_ble_eq_true rfl) rfl), (HW_wi hP hK (WX_D hD) hS hA hEV)⟩ rfl rfl hl.1 rfl (lv_room (Nat.le_of_ble_eq_true rfl)) dX13_clause_73 ⟨Nat.le_of_ble_eq_true rfl, Nat.le_of_ble_eq_true rfl⟩) (WX_D hD) hS hA (fun r63 E64 H locs hw hP hS => ?_)
            obtain ⟨hI, kq65, hw⟩ := hw
            have hKb := hKp
            have hKp := hKp.tr kq65 (wl_sub rfl rfl)
            obtain ⟨y66, ey66⟩ : ∃ y, xi (E64 0) 21 = y := ⟨_, rfl⟩
            have fy66 : xv (E64 0) 21 = .int y66 := (hI.fi 0 (Nat.le_of_ble_eq_true rfl) rfl (Nat.le_of_ble_eq_true rfl) rfl).trans (congrArg Value.int ey66)
            have iy66 : 0 ≤ y66.toInt ∧ y66.toInt ≤ 201 := by rw [← ey66]; exact hI.iv 0 (Nat.le_of_ble_eq_true rfl) rfl (Nat.le_of_ble_eq_true rfl) rfl
            obtain ⟨y67, ey67⟩ : ∃ y, xi (E64 0) 22 = y := ⟨_, rfl⟩
            have fy67 : xv (E64 0) 22 = .int y67 := (hI.fi 0 (Nat.le_of_ble_eq_true rfl) rfl (Nat.le_of_ble_eq_true rfl) rfl).trans (congrArg Value.int ey67)
            have iy67 : -1 ≤ y67.toInt ∧ y67.toInt ≤ 201 := by rw [← ey67]; exact hI.iv 0 (Nat.le_of_ble_eq_true rfl) rfl (Nat.le_of_ble_eq_true rfl) rfl
            obtain ⟨y68, ey68⟩ : ∃ y, xi (E64 0) 23 = y := ⟨_, rfl⟩
            have fy68 : xv (E64 0) 23 = .int y68 := (hI.fi 0 (Nat.le_of_ble_eq_true rfl) rfl (Nat.le_of_ble_eq_true rfl) rfl).trans (congrArg Value.int ey68)
            have iy68 : 0 ≤ y68.toInt ∧ y68.toInt ≤ 8 := by rw [← ey68]; exact hI.iv 0 (Nat.le_of_ble_eq_true rfl) rfl (Nat.le_of_ble_eq_true rfl) rfl
            obtain ⟨f69, f70, f71, f72, f73, f74, f75⟩ := hw
            try rw [(show xi (E51 0) 21 = y53 from vi_e fy53)] at f70
            try rw [(show xi (E64 0) 21 = y66 from vi_e fy66)] at f70
            try rw [(show xi (E51 0) 23 = y3 from vi_e ((kq52 0 23 rfl).trans ((kq41 0 23 rfl).trans ((pw37.2 0 23 (fun q9 => absurd q9.2 (Nat.ne_of_beq_eq_false rfl))).trans ((kq8 0 23 rfl).trans fy3)))))] at f71
            try rw [(show xi (E64 0) 23 = y68 from vi_e fy68)] at f71
            try rw [(show xi (E51 0) 22 = y43 from vi_e ((kq52 0 22 rfl).trans fy43))] at f72
            try rw [(show xi (E51 0) 23 = y3 from vi_e ((kq52 0 23 rfl).trans ((kq41 0 23 rfl).trans ((pw37.2 0 23 (fun q9 => absurd q9.2 (Nat.ne_of_beq_eq_false rfl))).trans ((kq8 0 23 rfl).trans fy3)))))] at f72
            try rw [(show xi (E64 0) 22 = y67 from vi_e fy67)] at f72
            try rw [(show xi (E64 0) 23 = y68 from vi_e fy68)] at f72
            try rw [(show xi (E51 0) 22 = y43 from vi_e ((kq52 0 22 rfl).trans fy43))] at f73
            try rw [(show xi (E64 0) 22 = y67 from vi_e fy67)] at f73
            refine lv_istore_n (lv' := [(2, .int r63), (4, .int r50), (3, .int 0), (1, .int r6), (0, .ref (ad 0))]) hx hb dX13_clause_76 rfl hl (by decide) rfl (fun ls hl => ?_)
            refine lv_aload_n hx hb dX13_clause_77 rfl (lv_at hl 4 rfl) ?_
            refine lv_bipush (v := 63) hx hb dX13_clause_78 (by decide) ?_
            have z63 := ln_63
            refine th_i (va_runV (As := [.int 63]) (rest := []) ⟨hx, hb, hml, hown, hts⟩ (q_takesX l dC dI cT ad E64 H.size (63 : Int32) k nl hI (by exact hh0) (by exact hh1) (by exact hh2) (by exact (hKp 0 18 rfl).trans hh3) (by (try rw [hKp.ei 0 19 rfl]); exact hh4) (iv_w ln_63 (by decide))) (cwV 1 hts (gi_V (in_26 _ (zs16 (zs1 (zs1 (zs1 (zs0)))))) (in_26 _ (zs16 (zs4 (zs0)))) (in_26 _ (zs16 (zs4 (zs1 (zs0))))) (in_24 _ (zs4 (zs4 (zs4 (zs1 (zs1 (zs1 (zs0)))))))) (in_26 _ (zs16 (zs4 (zs1 (zs1 (zs0))))))) rfl rfl rfl ⟨rfl, hz_yX13_takes_1⟩ ⟨Nat.le_of_ble_eq_true rfl, Nat.le_of_ble_eq_true rfl⟩) ⟨HW_bl, va_recv hK hP (ci := 14) (q0 := 0) rfl (hI.ob 0 (Nat.le_of_ble_eq_true rfl) rfl), (HW_wi hP hK (WX_D hD) hS hA hEV)⟩ rfl rfl hl.1 rfl (lv_room (Nat.le_of_ble_eq_true rfl)) dX13_clause_80 ⟨Nat.le_of_ble_eq_true rfl, Nat.le_of_ble_eq_true rfl⟩) (WX_D hD) hS hA (fun r76 E77 H locs hw hP hS => ?_)
            obtain ⟨hI, kq78, hw⟩ := hw
            have hKb := hKp
            have hKp := hKp.tr kq78 (wl_sub rfl rfl)
            obtain ⟨y79, ey79⟩ : ∃ y, xi (E77 0) 21 = y := ⟨_, rfl⟩
            have fy79 : xv (E77 0) 21 = .int y79 := (hI.fi 0 (Nat.le_of_ble_eq_true rfl) rfl (Nat.le_of_ble_eq_true rfl) rfl).trans (congrArg Value.int ey79)
            have iy79 : 0 ≤ y79.toInt ∧ y79.toInt ≤ 201 := by rw [← ey79]; exact hI.iv 0 (Nat.le_of_ble_eq_true rfl) rfl (Nat.le_of_ble_eq_true rfl) rfl
            obtain ⟨y80, ey80⟩ : ∃ y, xi (E77 0) 22 = y := ⟨_, rfl⟩
            have fy80 : xv (E77 0) 22 = .int y80 := (hI.fi 0 (Nat.le_of_ble_eq_true rfl) rfl (Nat.le_of_ble_eq_true rfl) rfl).trans (congrArg Value.int ey80)
            have iy80 : -1 ≤ y80.toInt ∧ y80.toInt ≤ 201 := by rw [← ey80]; exact hI.iv 0 (Nat.le_of_ble_eq_true rfl) rfl (Nat.le_of_ble_eq_true rfl) rfl
            rcases hw with hw | hw
            · -- takesX, case 0
              obtain ⟨rfl, f81, f82, f83, f84, f85⟩ := hw
              try rw [(show xi (E64 0) 22 = y67 from vi_e fy67)] at f81
              try rw [(show xi (E77 0) 22 = y80 from vi_e fy80)] at f81
              try rw [(show xi (E64 0) 22 = y67 from vi_e fy67)] at f82
              try rw [(show xi (E77 0) 22 = y80 from vi_e fy80)] at f82
              try rw [(show xi (E64 0) 21 = y66 from vi_e fy66)] at f83
              try rw [(show xi (E77 0) 21 = y79 from vi_e fy79)] at f83
              try rw [(show xi (E64 0) 21 = y66 from vi_e fy66)] at f84
              try rw [(show xi (E77 0) 21 = y79 from vi_e fy79)] at f84
              refine lv_if_ne (tgt := 87) hx hb dX13_clause_83 (by decide) (fun c86 => ?_) (fun c86 => ?_)
              · --83 taken
                have k87 : MZ E E77 := MZ.kp hKp (fun _ => rfl)
                refine lv_aload_n hx hb dX13_clause_87 rfl (lv_at hl 4 rfl) ?_
                refine th_i (va_runV (As := []) (rest := []) ⟨hx, hb, hml, hown, hts⟩ ((q_groupW l 8).1 dC dI cT ad E77 H.size k nl hI (by exact hh0) (by exact hh1) (by exact hh2) (by exact (hKp 0 18 rfl).trans hh3) (by (try rw [hKp.ei 0 19 rfl]); exact hh4) (by (try rw [(show xi (E77 0) 23 = y68 from vi_e ((kq78 0 23 rfl).trans fy68))]); omega) (by (try rw [(show xi (E77 0) 22 = y80 from vi_e fy80)]); omega)) (cwV 0 hts (gi_V (in_26 _ (zs16 (zs0))) (in_26 _ (zs16 (zs1 (zs0)))) (in_26 _ (zs16 (zs1 (zs1 (zs0))))) (in_24 _ (zs4 (zs4 (zs4 (zs1 (zs1 (zs1 (zs0)))))))) (in_26 _ (zs16 (zs4 (zs4 (zs1 (zs1 (zs1 (zs0))))))))) rfl rfl rfl (by decide +kernel) ⟨(show 7 * 8 + 7 + 1 ≤ 68 from Nat.le_of_ble_eq_true rfl), (show 8 + (5 + 11) + 40 * (7 * 8 + 7) ≤ 40 * (68) from Nat.le_of_ble_eq_true rfl)⟩) ⟨HW_bl, va_recv hK hP (ci := 14) (q0 := 0) rfl (hI.ob 0 (Nat.le_of_ble_eq_true rfl) rfl), (HW_wi hP hK (WX_D hD) hS hA hEV)⟩ rfl rfl hl.1 rfl (lv_room (Nat.le_of_ble_eq_true rfl)) dX13_clause_88 ⟨Nat.le_of_ble_eq_true rfl, Nat.le_of_ble_eq_true rfl⟩) (WX_D hD) hS hA (fun r88 E89 H locs hw hP hS => ?_)
                obtain ⟨hI, kq90, hw⟩ := hw
                have hKb := hKp
                have hKp := hKp.tr kq90 (wl_sub rfl rfl)
                obtain ⟨y91, ey91⟩ : ∃ y, xi (E89 0) 21 = y := ⟨_, rfl⟩
                have fy91 : xv (E89 0) 21 = .int y91 := (hI.fi 0 (Nat.le_of_ble_eq_true rfl) rfl (Nat.le_of_ble_eq_true rfl) rfl).trans (congrArg Value.int ey91)
                have iy91 : 0 ≤ y91.toInt ∧ y91.toInt ≤ 201 := by rw [← ey91]; exact hI.iv 0 (Nat.le_of_ble_eq_true rfl) rfl (Nat.le_of_ble_eq_true rfl) rfl
                obtain ⟨y92, ey92⟩ : ∃ y, xi (E89 0) 22 = y := ⟨_, rfl⟩
                have fy92 : xv (E89 0) 22 = .int y92 := (hI.fi 0 (Nat.le_of_ble_eq_true rfl) rfl (Nat.le_of_ble_eq_true rfl) rfl).trans (congrArg Value.int ey92)
                have iy92 : -1 ≤ y92.toInt ∧ y92.toInt ≤ 201 := by rw [← ey92]; exact hI.iv 0 (Nat.le_of_ble_eq_true rfl) rfl (Nat.le_of_ble_eq_true rfl) rfl
                obtain ⟨y93, ey93⟩ : ∃ y, xi (E89 0) 23 = y := ⟨_, rfl⟩
                have fy93 : xv (E89 0) 23 = .int y93 := (hI.fi 0 (Nat.le_of_ble_eq_true rfl) rfl (Nat.le_of_ble_eq_true rfl) rfl).trans (congrArg Value.int ey93)
                have iy93 : 0 ≤ y93.toInt ∧ y93.toInt ≤ 8 := by rw [← ey93]; exact hI.iv 0 (Nat.le_of_ble_eq_true rfl) rfl (Nat.le_of_ble_eq_true rfl) rfl
                obtain ⟨f94, f95, f96, f97, f98, f99⟩ := hw
                try rw [(show xi (E77 0) 21 = y79 from vi_e fy79)] at f94
                try rw [(show xi (E89 0) 21 = y91 from vi_e fy91)] at f94
                try rw [(show xi (E77 0) 23 = y68 from vi_e ((kq78 0 23 rfl).trans fy68))] at f95
                try rw [(show xi (E89 0) 23 = y93 from vi_e fy93)] at f95
                try rw [(show xi (E77 0) 22 = y80 from vi_e fy80)] at f96
                try rw [(show xi (E77 0) 23 = y68 from vi_e ((kq78 0 23 rfl).trans fy68))] at f96
                try rw [(show xi (E89 0) 22 = y92 from vi_e fy92)] at f96
                try rw [(show xi (E89 0) 23 = y93 from vi_e fy93)] at f96
                try rw [(show xi (E77 0) 22 = y80 from vi_e fy80)] at f97
                try rw [(show xi (E89 0) 22 = y92 from vi_e fy92)] at f97
                refine lv_istore_n (lv' := [(3, .int r88), (2, .int r63), (4, .int r50), (1, .int r6), (0, .ref (ad 0))]) hx hb dX13_clause_91 rfl hl (by decide) rfl (fun ls hl => ?_)
                refine lv_goto (tgt := 140) hx hb dX13_clause_92 (by decide) ?_
                refine lv_aload_n hx hb dX13_clause_140 rfl (lv_at hl 4 rfl) ?_
                refine th_get (ci := 14) (C := RX13) (T := TX13) (N := 97) (v := .int y92) hx hb hts hinX13 hown hK hP hI 0 (Nat.le_of_ble_eq_true rfl) rfl rfl 22 (Nat.le_of_ble_eq_true rfl) (hts _ (vA_in _ _ (in_25 _ (zs16 (zs16 (zs4 (zs1 (zs1 (zs1 (zs0)))))))))) (fun _ h9 => h9) fy92 dX13_clause_141 ?_
                refine lv_iconst (v := -1) hx hb dX13_clause_144 (by decide) ?_
                refine lv_icmp_ne (tgt := 167) hx hb dX13_clause_145 (by decide) (fun c100 => ?_) (fun c100 => ?_)
                · --145 taken
                  have t101 : ¬ y92.toInt = -1 := ti_ne c100
                  have i102 : 0 ≤ y92.toInt ∧ y92.toInt ≤ 201 := iv_ne_l t101 iy92 (il_ (-1))
                  rw [hQ]
                  exact W.vret hx hb hr (fun t ht hW => ⟨⟨E89, rfl, ⟨hI, hKp, ⟨by (try rw [(show xi (E89 0) 21 = y91 from vi_e fy91)]); (try rw [ey1]); first | done | exact (Int.le_trans (Int.le_trans (Int.le_trans (Int.le_trans (Int.le_trans (Int.le_trans f11 (Int.le_trans (Int.le_add_of_nonneg_right (by decide)) (Int.le_of_eq ty34.symm))) f47) f55) f70) f84) f94) | all_goals omega, by (try rw [(show xi (E89 0) 23 = y93 from vi_e fy93)]); (try rw [ey3]); first | done | exact (Int.le_trans f71 f95) | all_goals omega, by (try rw [(show xi (E89 0) 22 = y92 from vi_e fy92)]); (try rw [(show xi (E89 0) 23 = y93 from vi_e fy93)]); (try rw [ey2]); (try rw [ey3]); first | done | exact fun q9 => absurd (q9) t101 | all_goals omega, by (try rw [(show xi (E89 0) 22 = y92 from vi_e fy92)]); (try rw [ey2]); first | done | exact fun q9 => absurd (q9) t101 | all_goals omega, clM f14 (ix_lab.mp (by rw [← f30]; omega)) k38 f48 KM.rf (vM_c f58 (by omega) f74 (qmC f85 KM.rf f98 KM.rf)) KM.rf, RdQ.nf (by show ¬ (xi (E89 0) 22).toInt = -1; rw [show xi (E89 0) 22 = y92 from vi_e fy92]; omega)⟩⟩, by show va_P (dC, dI) vwCl (WX 72 ad E89) t.heap; rw [ht]; exact hP⟩, hS.F ht⟩) hS.2.2 dX13_clause_167
                · --145 not
                  have t103 : y92.toInt = -1 := ti_eq c100
                  have i104 : -1 ≤ y92.toInt ∧ y92.toInt ≤ -1 := iv_eqi t103 iy92 (il_ (-1)) (by decide)
                  refine lv_aload_n hx hb dX13_clause_148 rfl (lv_at hl 4 rfl) ?_
                  refine th_get (ci := 14) (C := RX13) (T := TX13) (N := 97) (v := .int y4) hx hb hts hinX13 hown hK hP hI 0 (Nat.le_of_ble_eq_true rfl) rfl rfl 26 (Nat.le_of_ble_eq_true rfl) (hts _ (vA_in _ _ (in_29 _ (zs4 (zs4 (zs4 (zs1 (zs0)))))))) (fun _ h9 => h9) ((kq90 0 26 rfl).trans ((kq78 0 26 rfl).trans ((kq65 0 26 rfl).trans ((kq52 0 26 rfl).trans ((kq41 0 26 rfl).trans ((pw37.2 0 26 (fun q9 => absurd q9.2 (Nat.ne_of_beq_eq_false rfl))).trans ((kq8 0 26 rfl).trans fy4))))))) dX13_clause_149 ?_
                  refine lv_if_ne (tgt := 167) hx hb dX13_clause_152 (by decide) (fun c105 => ?_) (fun c105 => ?_)
                  · --152 taken
                    have t106 : ¬ y4.toInt = 0 := ti_ne c105
                    have i107 : 1 ≤ y4.toInt ∧ y4.toInt ≤ 1 := iv_ne_l t106 iy4 (il_ 0)
                    rw [hQ]
                    exact W.vret hx hb hr (fun t ht hW => ⟨⟨E89, rfl, ⟨hI, hKp, ⟨by (try rw [(show xi (E89 0) 21 = y91 from vi_e fy91)]); (try rw [ey1]); first | done | exact (Int.le_trans (Int.le_trans (Int.le_trans (Int.le_trans (Int.le_trans (Int.le_trans f11 (Int.le_trans (Int.le_add_of_nonneg_right (by decide)) (Int.le_of_eq ty34.symm))) f47) f55) f70) f84) f94) | all_goals omega, by (try rw [(show xi (E89 0) 23 = y93 from vi_e fy93)]); (try rw [ey3]); first | done | exact (Int.le_trans f71 f95) | all_goals omega, by (try rw [(show xi (E89 0) 22 = y92 from vi_e fy92)]); (try rw [(show xi (E89 0) 23 = y93 from vi_e fy93)]); (try rw [ey2]); (try rw [ey3]); first | done | exact fun q9 => ((f96 (q9)).trans (f72 (f81))) | all_goals omega, by (try rw [(show xi (E89 0) 22 = y92 from vi_e fy92)]); (try rw [ey2]); first | done | exact fun q9 => f44 | all_goals omega, clM f14 (ix_lab.mp (by rw [← f30]; omega)) k38 f48 KM.rf (vM_c f58 (by omega) f74 (qmC f85 KM.rf f98 KM.rf)) KM.rf, RdQ.of (is := r63) (clQ_c f14 (ix_lab.mp (by rw [← f30]; omega)) k38 f48 f58 (by omega) k59 f74 f75 f85 k87 f98 f99 KM.rf) ey4 ey5 (vi_e ((kq90 0 26 rfl).trans ((kq78 0 26 rfl).trans ((kq65 0 26 rfl).trans ((kq52 0 26 rfl).trans ((kq41 0 26 rfl).trans ((pw37.2 0 26 (fun q9 => absurd q9.2 (Nat.ne_of_beq_eq_false rfl))).trans ((kq8 0 26 rfl).trans fy4)))))))) (vi_e ((kq90 0 25 rfl).trans ((kq78 0 25 rfl).trans ((kq65 0 25 rfl).trans ((kq52 0 25 rfl).trans ((kq41 0 25 rfl).trans ((pw37.2 0 25 (fun q9 => absurd q9.2 (Nat.ne_of_beq_eq_false rfl))).trans ((kq8 0 25 rfl).trans fy5)))))))) (Or.inl ⟨by omega, rfl, rfl⟩)⟩⟩, by show va_P (dC, dI) vwCl (WX 72 ad E89) t.heap; rw [ht]; exact hP⟩, hS.F ht⟩) hS.2.2 dX13_clause_167
                  · --152 not
                    have t108 : y4.toInt = 0 := ti_eq c105
                    have i109 : 0 ≤ y4.toInt ∧ y4.toInt ≤ 0 := iv_eqi t108 iy4 (il_ 0) (by decide)
                    refine lv_iload_n hx hb dX13_clause_155 rfl (lv_at hl 3 rfl) ?_
                    refine lv_aload_n hx hb dX13_clause_156 rfl (lv_at hl 4 rfl) ?_
                    have i110 : 0 ≤ (xi (E 0) 24).toInt ∧ (xi (E 0) 24).toInt ≤ 127 := hI0.iv 0 (Nat.le_of_ble_eq_true rfl) rfl (Nat.le_of_ble_eq_true rfl) rfl
                    refine th_get (ci := 14) (C := RX13) (T := TX13) (N := 97) (v := .int (xi (E 0) 24)) hx hb hts hinX13 hown hK hP hI 0 (Nat.le_of_ble_eq_true rfl) rfl rfl 24 (Nat.le_of_ble_eq_true rfl) (hts _ (vA_in _ _ (in_29 _ (zs4 (zs4 (zs4 (zs0))))))) (fun _ h9 => h9) (th_v0 hKp hI0 0 (Nat.le_of_ble_eq_true rfl) rfl (Nat.le_of_ble_eq_true rfl) rfl rfl) dX13_clause_157 ?_
                    refine lv_icmp_ne (tgt := 167) hx hb dX13_clause_160 (by decide) (fun c111 => ?_) (fun c111 => ?_)
                    · --160 taken
                      have t112 : ¬ r6.toInt = (xi (E 0) 24).toInt := ti_ne c111
                      rw [hQ]
                      exact W.vret hx hb hr (fun t ht hW => ⟨⟨E89, rfl, ⟨hI, hKp, ⟨by (try rw [(show xi (E89 0) 21 = y91 from vi_e fy91)]); (try rw [ey1]); first | done | exact (Int.le_trans (Int.le_trans (Int.le_trans (Int.le_trans (Int.le_trans (Int.le_trans f11 (Int.le_trans (Int.le_add_of_nonneg_right (by decide)) (Int.le_of_eq ty34.symm))) f47) f55) f70) f84) f94) | all_goals omega, by (try rw [(show xi (E89 0) 23 = y93 from vi_e fy93)]); (try rw [ey3]); first | done | exact (Int.le_trans f71 f95) | all_goals omega, by (try rw [(show xi (E89 0) 22 = y92 from vi_e fy92)]); (try rw [(show xi (E89 0) 23 = y93 from vi_e fy93)]); (try rw [ey2]); (try rw [ey3]); first | done | exact fun q9 => ((f96 (q9)).trans (f72 (f81))) | all_goals omega, by (try rw [(show xi (E89 0) 22 = y92 from vi_e fy92)]); (try rw [ey2]); first | done | exact fun q9 => f44 | all_goals omega, clM f14 (ix_lab.mp (by rw [← f30]; omega)) k38 f48 KM.rf (vM_c f58 (by omega) f74 (qmC f85 KM.rf f98 KM.rf)) KM.rf, RdQ.of (is := r63) (clQ_c f14 (ix_lab.mp (by rw [← f30]; omega)) k38 f48 f58 (by omega) k59 f74 f75 f85 k87 f98 f99 KM.rf) ey4 ey5 (vi_e ((kq90 0 26 rfl).trans ((kq78 0 26 rfl).trans ((kq65 0 26 rfl).trans ((kq52 0 26 rfl).trans ((kq41 0 26 rfl).trans ((pw37.2 0 26 (fun q9 => absurd q9.2 (Nat.ne_of_beq_eq_false rfl))).trans ((kq8 0 26 rfl).trans fy4)))))))) (vi_e ((kq90 0 25 rfl).trans ((kq78 0 25 rfl).trans ((kq65 0 25 rfl).trans ((kq52 0 25 rfl).trans ((kq41 0 25 rfl).trans ((pw37.2 0 25 (fun q9 => absurd q9.2 (Nat.ne_of_beq_eq_false rfl))).trans ((kq8 0 25 rfl).trans fy5)))))))) (Or.inr (Or.inl ⟨by omega, by have z0 : (0 : Int32).toInt = 0 := rfl; have z1 : (1 : Int32).toInt = 1 := rfl; omega, rfl, rfl⟩))⟩⟩, by show va_P (dC, dI) vwCl (WX 72 ad E89) t.heap; rw [ht]; exact hP⟩, hS.F ht⟩) hS.2.2 dX13_clause_167
                    · --160 not
                      have t113 : r6.toInt = (xi (E 0) 24).toInt := ti_eq c111
                      have i114 : 0 ≤ r6.toInt ∧ r6.toInt ≤ 127 := iv_eqi t113 i27 i110 (by decide)
                      refine lv_iload_n hx hb dX13_clause_163 rfl (lv_at hl 1 rfl) ?_
                      refine lv_if_ne (tgt := 168) hx hb dX13_clause_164 (by decide) (fun c115 => ?_) (fun c115 => ?_)
                      · --164 taken
                        have t116 : ¬ r63.toInt = 0 := ti_ne c115
                        have i117 : 1 ≤ r63.toInt ∧ r63.toInt ≤ 1 := iv_ne_l t116 f69 (il_ 0)
                        refine lv_aload_n hx hb dX13_clause_168 rfl (lv_at hl 4 rfl) ?_
                        refine lv_iconst (v := 1) hx hb dX13_clause_169 (by decide) ?_
                        refine th_put (ci := 14) (C := RX13) (T := TX13) (N := 97) (v := .int 1) (ty := .boolean) hx hb hts hinX13 tyX13 tyX13_ok nmX13 hown hK hP (WX_D hD) hS hI 0 (Nat.le_of_ble_eq_true rfl) rfl rfl 26 (Nat.le_of_ble_eq_true rfl) (hts _ (vA_in _ _ (in_29 _ (zs4 (zs4 (zs4 (zs1 (zs0)))))))) (fun _ h9 => h9) rfl (by decide +kernel) rfl rfl (okI rfl (iv_w ln_1 (by decide))) dX13_clause_170 (fun H locs E118 pw119 hI hP hS => ?_)
                        have hKp := hKp.pw pw119 rfl
                        have k120 : KM k E89 E118 := KM.pw pw119.2 hk0 (by decide)
                        refine lv_aload_n hx hb dX13_clause_173 rfl (lv_at hl 4 rfl) ?_
                        refine lv_iload_n hx hb dX13_clause_174 rfl (lv_at hl 0 rfl) ?_
                        refine th_put (ci := 14) (C := RX13) (T := TX13) (N := 97) (v := .int r88) (ty := .int) hx hb hts hinX13 tyX13 tyX13_ok nmX13 hown hK hP (WX_D hD) hS hI 0 (Nat.le_of_ble_eq_true rfl) rfl rfl 25 (Nat.le_of_ble_eq_true rfl) (hts _ (vA_in _ _ (in_29 _ zs0))) (fun _ h9 => h9) rfl (by decide +kernel) rfl rfl (okI rfl (iv_all _)) dX13_clause_175 (fun H locs E121 pw122 hI hP hS => ?_)
                        have hKp := hKp.pw pw122 rfl
                        have k123 : KM k E118 E121 := KM.pw pw122.2 hk0 (by decide)
                        rw [hQ]
                        exact W.vret hx hb hr (fun t ht hW => ⟨⟨E121, rfl, ⟨hI, hKp, ⟨by (try rw [(show xi (E121 0) 21 = y91 from vi_e ((pw122.2 0 21 (fun q9 => absurd q9.2 (Nat.ne_of_beq_eq_false rfl))).trans ((pw119.2 0 21 (fun q9 => absurd q9.2 (Nat.ne_of_beq_eq_false rfl))).trans fy91)))]); (try rw [ey1]); first | done | exact (Int.le_trans (Int.le_trans (Int.le_trans (Int.le_trans (Int.le_trans (Int.le_trans f11 (Int.le_trans (Int.le_add_of_nonneg_right (by decide)) (Int.le_of_eq ty34.symm))) f47) f55) f70) f84) f94) | all_goals omega, by (try rw [(show xi (E121 0) 23 = y93 from vi_e ((pw122.2 0 23 (fun q9 => absurd q9.2 (Nat.ne_of_beq_eq_false rfl))).trans ((pw119.2 0 23 (fun q9 => absurd q9.2 (Nat.ne_of_beq_eq_false rfl))).trans fy93)))]); (try rw [ey3]); first | done | exact (Int.le_trans f71 f95) | all_goals omega, by (try rw [(show xi (E121 0) 22 = y92 from vi_e ((pw122.2 0 22 (fun q9 => absurd q9.2 (Nat.ne_of_beq_eq_false rfl))).trans ((pw119.2 0 22 (fun q9 => absurd q9.2 (Nat.ne_of_beq_eq_false rfl))).trans fy92)))]); (try rw [(show xi (E121 0) 23 = y93 from vi_e ((pw122.2 0 23 (fun q9 => absurd q9.2 (Nat.ne_of_beq_eq_false rfl))).trans ((pw119.2 0 23 (fun q9 => absurd q9.2 (Nat.ne_of_beq_eq_false rfl))).trans fy93)))]); (try rw [ey2]); (try rw [ey3]); first | done | exact fun q9 => ((f96 (q9)).trans (f72 (f81))) | all_goals omega, by (try rw [(show xi (E121 0) 22 = y92 from vi_e ((pw122.2 0 22 (fun q9 => absurd q9.2 (Nat.ne_of_beq_eq_false rfl))).trans ((pw119.2 0 22 (fun q9 => absurd q9.2 (Nat.ne_of_beq_eq_false rfl))).trans fy92)))]); (try rw [ey2]); first | done | exact fun q9 => f44 | all_goals omega, clM f14 (ix_lab.mp (by rw [← f30]; omega)) k38 f48 KM.rf (vM_c f58 (by omega) f74 (qmC f85 KM.rf f98 KM.rf)) (k120.tr k123), RdQ.of (is := r63) (clQ_c f14 (ix_lab.mp (by rw [← f30]; omega)) k38 f48 f58 (by omega) k59 f74 f75 f85 k87 f98 f99 (k120.tr k123)) ey4 ey5 (vi_e ((pw122.2 0 26 (fun q9 => absurd q9.2 (Nat.ne_of_beq_eq_false rfl))).trans pw119.1)) (vi_e pw122.1) (Or.inr (Or.inr ⟨by omega, by omega, by have z0 : (0 : Int32).toInt = 0 := rfl; have z1 : (1 : Int32).toInt = 1 := rfl; omega, by decide, rfl⟩))⟩⟩, by show va_P (dC, dI) vwCl (WX 72 ad E121) t.heap; rw [ht]; exact hP⟩, hS.F ht⟩) hS.2.2 dX13_clause_178
                      · --164 not
                        have t124 : r63.toInt = 0 := ti_eq c115
                        have i125 : 0 ≤ r63.toInt ∧ r63.toInt ≤ 0 := iv_eqi t124 f69 (il_ 0) (by decide)
                        rw [hQ]
                        exact W.vret hx hb hr (fun t ht hW => ⟨⟨E89, rfl, ⟨hI, hKp, ⟨by (try rw [(show xi (E89 0) 21 = y91 from vi_e fy91)]); (try rw [ey1]); first | done | exact (Int.le_trans (Int.le_trans (Int.le_trans (Int.le_trans (Int.le_trans (Int.le_trans f11 (Int.le_trans (Int.le_add_of_nonneg_right (by decide)) (Int.le_of_eq ty34.symm))) f47) f55) f70) f84) f94) | all_goals omega, by (try rw [(show xi (E89 0) 23 = y93 from vi_e fy93)]); (try rw [ey3]); first | done | exact (Int.le_trans f71 f95) | all_goals omega, by (try rw [(show xi (E89 0) 22 = y92 from vi_e fy92)]); (try rw [(show xi (E89 0) 23 = y93 from vi_e fy93)]); (try rw [ey2]); (try rw [ey3]); first | done | exact fun q9 => ((f96 (q9)).trans (f72 (f81))) | all_goals omega, by (try rw [(show xi (E89 0) 22 = y92 from vi_e fy92)]); (try rw [ey2]); first | done | exact fun q9 => f44 | all_goals omega, clM f14 (ix_lab.mp (by rw [← f30]; omega)) k38 f48 KM.rf (vM_c f58 (by omega) f74 (qmC f85 KM.rf f98 KM.rf)) KM.rf, RdQ.of (is := r63) (clQ_c f14 (ix_lab.mp (by rw [← f30]; omega)) k38 f48 f58 (by omega) k59 f74 f75 f85 k87 f98 f99 KM.rf) ey4 ey5 (vi_e ((kq90 0 26 rfl).trans ((kq78 0 26 rfl).trans ((kq65 0 26 rfl).trans ((kq52 0 26 rfl).trans ((kq41 0 26 rfl).trans ((pw37.2 0 26 (fun q9 => absurd q9.2 (Nat.ne_of_beq_eq_false rfl))).trans ((kq8 0 26 rfl).trans fy4)))))))) (vi_e ((kq90 0 25 rfl).trans ((kq78 0 25 rfl).trans ((kq65 0 25 rfl).trans ((kq52 0 25 rfl).trans ((kq41 0 25 rfl).trans ((pw37.2 0 25 (fun q9 => absurd q9.2 (Nat.ne_of_beq_eq_false rfl))).trans ((kq8 0 25 rfl).trans fy5)))))))) (Or.inr (Or.inl ⟨by omega, by have z0 : (0 : Int32).toInt = 0 := rfl; have z1 : (1 : Int32).toInt = 1 := rfl; omega, rfl, rfl⟩))⟩⟩, by show va_P (dC, dI) vwCl (WX 72 ad E89) t.heap; rw [ht]; exact hP⟩, hS.F ht⟩) hS.2.2 dX13_clause_167
              · --83 not
                exact absurd c86 (by decide)
            · -- takesX, case 1
              obtain ⟨rfl, f126, f127, f128⟩ := hw
              try rw [(show xi (E64 0) 22 = y67 from vi_e fy67)] at f126
              try rw [(show xi (E77 0) 22 = y80 from vi_e fy80)] at f126
              try rw [(show xi (E64 0) 21 = y66 from vi_e fy66)] at f127
              try rw [(show xi (E77 0) 21 = y79 from vi_e fy79)] at f127
              refine lv_if_ne (tgt := 87) hx hb dX13_clause_83 (by decide) (fun c129 => ?_) (fun c129 => ?_)
              · --83 taken
                exact absurd c129 (by decide)
              · --83 not
                rw [hQ]
                exact W.vret hx hb hr (fun t ht hW => ⟨⟨E77, rfl, ⟨hI, hKp, ⟨by (try rw [(show xi (E77 0) 21 = y79 from vi_e fy79)]); (try rw [ey1]); first | done | exact (Int.le_trans (Int.le_trans (Int.le_trans (Int.le_trans (Int.le_trans f11 (Int.le_trans (Int.le_add_of_nonneg_right (by decide)) (Int.le_of_eq ty34.symm))) f47) f55) f70) f127) | all_goals omega, by (try rw [(show xi (E77 0) 23 = y68 from vi_e ((kq78 0 23 rfl).trans fy68))]); (try rw [ey3]); first | done | exact f71 | all_goals omega, by (try rw [(show xi (E77 0) 22 = y80 from vi_e fy80)]); (try rw [(show xi (E77 0) 23 = y68 from vi_e ((kq78 0 23 rfl).trans fy68))]); (try rw [ey2]); (try rw [ey3]); first | done | exact fun q9 => absurd (q9) f126 | all_goals omega, by (try rw [(show xi (E77 0) 22 = y80 from vi_e fy80)]); (try rw [ey2]); first | done | exact fun q9 => absurd (q9) f126 | all_goals omega, clM f14 (ix_lab.mp (by rw [← f30]; omega)) k38 f48 KM.rf (vM_c f58 (by omega) f74 (qmC f128 KM.rf (RdM.dead (by show ¬ (xi (E77 0) 22).toInt = -1; rw [show xi (E77 0) 22 = y80 from vi_e fy80]; omega)) KM.rf)) KM.rf, RdQ.nf (by show ¬ (xi (E77 0) 22).toInt = -1; rw [show xi (E77 0) 22 = y80 from vi_e fy80]; omega)⟩⟩, by show va_P (dC, dI) vwCl (WX 72 ad E77) t.heap; rw [ht]; exact hP⟩, hS.F ht⟩) hS.2.2 dX13_clause_86
          · --60 not
            have t130 : ¬ r50.toInt = 33 := ti_ne c60
            refine lv_iload hx hb dX13_clause_63 (lv_at hl 0 rfl) ?_
            refine lv_bipush (v := 40) hx hb dX13_clause_65 (by decide) ?_
            refine lv_icmp_ne (tgt := 95) hx hb dX13_clause_67 (by decide) (fun c131 => ?_) (fun c131 => ?_)
            · --67 taken
              have t132 : ¬ r50.toInt = 40 := ti_ne c131
              refine lv_aload_n hx hb dX13_clause_95 rfl (lv_at hl 4 rfl) ?_
              refine th_i (va_runV (As := []) (rest := []) ⟨hx, hb, hml, hown, hts⟩ ((q_groupW l 8).1 dC dI cT ad E51 H.size k nl hI (by exact hh0) (by exact hh1) (by exact hh2) (by exact (hKp 0 18 rfl).trans hh3) (by (try rw [hKp.ei 0 19 rfl]); exact hh4) (by (try rw [(show xi (E51 0) 23 = y3 from vi_e ((kq52 0 23 rfl).trans ((kq41 0 23 rfl).trans ((pw37.2 0 23 (fun q9 => absurd q9.2 (Nat.ne_of_beq_eq_false rfl))).trans ((kq8 0 23 rfl).trans fy3)))))]); omega) (by (try rw [(show xi (E51 0) 22 = y43 from vi_e ((kq52 0 22 rfl).trans fy43))]); omega)) (cwV 0 hts (gi_V (in_26 _ (zs16 (zs0))) (in_26 _ (zs16 (zs1 (zs0)))) (in_26 _ (zs16 (zs1 (zs1 (zs0))))) (in_24 _ (zs4 (zs4 (zs4 (zs1 (zs1 (zs1 (zs0)))))))) (in_26 _ (zs16 (zs4 (zs4 (zs1 (zs1 (zs1 (zs0))))))))) rfl rfl rfl (by decide +kernel) ⟨(show 7 * 8 + 7 + 1 ≤ 68 from Nat.le_of_ble_eq_true rfl), (show 8 + (5 + 11) + 40 * (7 * 8 + 7) ≤ 40 * (68) from Nat.le_of_ble_eq_true rfl)⟩) ⟨HW_bl, va_recv hK hP (ci := 14) (q0 := 0) rfl (hI.ob 0 (Nat.le_of_ble_eq_true rfl) rfl), (HW_wi hP hK (WX_D hD) hS hA hEV)⟩ rfl rfl hl.1 rfl (lv_room (Nat.le_of_ble_eq_true rfl)) dX13_clause_96 ⟨Nat.le_of_ble_eq_true rfl, Nat.le_of_ble_eq_true rfl⟩) (WX_D hD) hS hA (fun r133 E134 H locs hw hP hS => ?_)
              obtain ⟨hI, kq135, hw⟩ := hw
              have hKb := hKp
              have hKp := hKp.tr kq135 (wl_sub rfl rfl)
              obtain ⟨y136, ey136⟩ : ∃ y, xi (E134 0) 21 = y := ⟨_, rfl⟩
              have fy136 : xv (E134 0) 21 = .int y136 := (hI.fi 0 (Nat.le_of_ble_eq_true rfl) rfl (Nat.le_of_ble_eq_true rfl) rfl).trans (congrArg Value.int ey136)
              have iy136 : 0 ≤ y136.toInt ∧ y136.toInt ≤ 201 := by rw [← ey136]; exact hI.iv 0 (Nat.le_of_ble_eq_true rfl) rfl (Nat.le_of_ble_eq_true rfl) rfl
              obtain ⟨y137, ey137⟩ : ∃ y, xi (E134 0) 22 = y := ⟨_, rfl⟩
              have fy137 : xv (E134 0) 22 = .int y137 := (hI.fi 0 (Nat.le_of_ble_eq_true rfl) rfl (Nat.le_of_ble_eq_true rfl) rfl).trans (congrArg Value.int ey137)
              have iy137 : -1 ≤ y137.toInt ∧ y137.toInt ≤ 201 := by rw [← ey137]; exact hI.iv 0 (Nat.le_of_ble_eq_true rfl) rfl (Nat.le_of_ble_eq_true rfl) rfl
              obtain ⟨y138, ey138⟩ : ∃ y, xi (E134 0) 23 = y := ⟨_, rfl⟩
              have fy138 : xv (E134 0) 23 = .int y138 := (hI.fi 0 (Nat.le_of_ble_eq_true rfl) rfl (Nat.le_of_ble_eq_true rfl) rfl).trans (congrArg Value.int ey138)
              have iy138 : 0 ≤ y138.toInt ∧ y138.toInt ≤ 8 := by rw [← ey138]; exact hI.iv 0 (Nat.le_of_ble_eq_true rfl) rfl (Nat.le_of_ble_eq_true rfl) rfl
              obtain ⟨f139, f140, f141, f142, f143, f144⟩ := hw
              try rw [(show xi (E51 0) 21 = y53 from vi_e fy53)] at f139
              try rw [(show xi (E134 0) 21 = y136 from vi_e fy136)] at f139
              try rw [(show xi (E51 0) 23 = y3 from vi_e ((kq52 0 23 rfl).trans ((kq41 0 23 rfl).trans ((pw37.2 0 23 (fun q9 => absurd q9.2 (Nat.ne_of_beq_eq_false rfl))).trans ((kq8 0 23 rfl).trans fy3)))))] at f140
              try rw [(show xi (E134 0) 23 = y138 from vi_e fy138)] at f140
              try rw [(show xi (E51 0) 22 = y43 from vi_e ((kq52 0 22 rfl).trans fy43))] at f141
              try rw [(show xi (E51 0) 23 = y3 from vi_e ((kq52 0 23 rfl).trans ((kq41 0 23 rfl).trans ((pw37.2 0 23 (fun q9 => absurd q9.2 (Nat.ne_of_beq_eq_false rfl))).trans ((kq8 0 23 rfl).trans fy3)))))] at f141
              try rw [(show xi (E134 0) 22 = y137 from vi_e fy137)] at f141
              try rw [(show xi (E134 0) 23 = y138 from vi_e fy138)] at f141
              try rw [(show xi (E51 0) 22 = y43 from vi_e ((kq52 0 22 rfl).trans fy43))] at f142
              try rw [(show xi (E134 0) 22 = y137 from vi_e fy137)] at f142
              refine lv_istore_n (lv' := [(3, .int r133), (4, .int r50), (2, .int 1), (1, .int r6), (0, .ref (ad 0))]) hx hb dX13_clause_99 rfl hl (by decide) rfl (fun ls hl => ?_)
              refine lv_aload_n hx hb dX13_clause_100 rfl (lv_at hl 4 rfl) ?_
              refine th_get (ci := 14) (C := RX13) (T := TX13) (N := 97) (v := .int y137) hx hb hts hinX13 hown hK hP hI 0 (Nat.le_of_ble_eq_true rfl) rfl rfl 22 (Nat.le_of_ble_eq_true rfl) (hts _ (vA_in _ _ (in_25 _ (zs16 (zs16 (zs4 (zs1 (zs1 (zs1 (zs0)))))))))) (fun _ h9 => h9) fy137 dX13_clause_101 ?_
              refine lv_iconst (v := -1) hx hb dX13_clause_104 (by decide) ?_
              refine lv_icmp_ne (tgt := 140) hx hb dX13_clause_105 (by decide) (fun c145 => ?_) (fun c145 => ?_)
              · --105 taken
                have t146 : ¬ y137.toInt = -1 := ti_ne c145
                have i147 : 0 ≤ y137.toInt ∧ y137.toInt ≤ 201 := iv_ne_l t146 iy137 (il_ (-1))
                refine lv_aload_n hx hb dX13_clause_140 rfl (lv_at hl 4 rfl) ?_
                refine th_get (ci := 14) (C := RX13) (T := TX13) (N := 97) (v := .int y137) hx hb hts hinX13 hown hK hP hI 0 (Nat.le_of_ble_eq_true rfl) rfl rfl 22 (Nat.le_of_ble_eq_true rfl) (hts _ (vA_in _ _ (in_25 _ (zs16 (zs16 (zs4 (zs1 (zs1 (zs1 (zs0)))))))))) (fun _ h9 => h9) fy137 dX13_clause_141 ?_
                refine lv_iconst (v := -1) hx hb dX13_clause_144 (by decide) ?_
                refine lv_icmp_ne (tgt := 167) hx hb dX13_clause_145 (by decide) (fun c148 => ?_) (fun c148 => ?_)
                · --145 taken
                  have t149 : ¬ y137.toInt = -1 := ti_ne c148
                  rw [hQ]
                  exact W.vret hx hb hr (fun t ht hW => ⟨⟨E134, rfl, ⟨hI, hKp, ⟨by (try rw [(show xi (E134 0) 21 = y136 from vi_e fy136)]); (try rw [ey1]); first | done | exact (Int.le_trans (Int.le_trans (Int.le_trans (Int.le_trans f11 (Int.le_trans (Int.le_add_of_nonneg_right (by decide)) (Int.le_of_eq ty34.symm))) f47) f55) f139) | all_goals omega, by (try rw [(show xi (E134 0) 23 = y138 from vi_e fy138)]); (try rw [ey3]); first | done | exact f140 | all_goals omega, by (try rw [(show xi (E134 0) 22 = y137 from vi_e fy137)]); (try rw [(show xi (E134 0) 23 = y138 from vi_e fy138)]); (try rw [ey2]); (try rw [ey3]); first | done | exact fun q9 => absurd (q9) t149 | all_goals omega, by (try rw [(show xi (E134 0) 22 = y137 from vi_e fy137)]); (try rw [ey2]); first | done | exact fun q9 => absurd (q9) t149 | all_goals omega, clM f14 (ix_lab.mp (by rw [← f30]; omega)) k38 f48 KM.rf (vM_s f58 (by omega) f143 (RdL.dead (r := 0) (by show ¬ (xi (E134 0) 22).toInt = -1; rw [show xi (E134 0) 22 = y137 from vi_e fy137]; omega)) (by decide)) KM.rf, RdQ.nf (by show ¬ (xi (E134 0) 22).toInt = -1; rw [show xi (E134 0) 22 = y137 from vi_e fy137]; omega)⟩⟩, by show va_P (dC, dI) vwCl (WX 72 ad E134) t.heap; rw [ht]; exact hP⟩, hS.F ht⟩) hS.2.2 dX13_clause_167
                · --145 not
                  have t150 : y137.toInt = -1 := ti_eq c148
                  have i151 : 0 ≤ y137.toInt ∧ y137.toInt ≤ -1 := iv_eqi t150 i147 (il_ (-1)) (by decide)
                  exact iv_no i151 (by decide)
              · --105 not
                have t152 : y137.toInt = -1 := ti_eq c145
                have i153 : -1 ≤ y137.toInt ∧ y137.toInt ≤ -1 := iv_eqi t152 iy137 (il_ (-1)) (by decide)
                refine lv_aload_n hx hb dX13_clause_108 rfl (lv_at hl 4 rfl) ?_
                refine th_i (va_runV (As := []) (rest := []) ⟨hx, hb, hml, hown, hts⟩ (q_lookX l dC dI cT ad E134 H.size k nl hI (by exact hh0) (by exact hh1) (by exact hh2) (by exact (hKp 0 18 rfl).trans hh3) (by (try rw [hKp.ei 0 19 rfl]); exact hh4)) (cwV 0 hts (gi_V (in_26 _ (zs1 (zs1 (zs0)))) (in_26 _ (zs1 (zs1 (zs1 (zs0))))) (in_26 _ (zs4 (zs0))) (in_24 _ (zs4 (zs4 (zs4 (zs1 (zs1 (zs1 (zs0)))))))) (in_26 _ (zs4 (zs1 (zs0))))) rfl rfl rfl ⟨rfl, hz_yX13_look_0⟩ ⟨Nat.le_of_ble_eq_true rfl, Nat.le_of_ble_eq_true rfl⟩) ⟨HW_bl, va_recv hK hP (ci := 14) (q0 := 0) rfl (hI.ob 0 (Nat.le_of_ble_eq_true rfl) rfl), (HW_wi hP hK (WX_D hD) hS hA hEV)⟩ rfl rfl hl.1 rfl (lv_room (Nat.le_of_ble_eq_true rfl)) dX13_clause_109 ⟨Nat.le_of_ble_eq_true rfl, Nat.le_of_ble_eq_true rfl⟩) (WX_D hD) hS hA (fun r154 E155 H locs hw hP hS => ?_)
                obtain ⟨hI, kq156, hw⟩ := hw
                have hKb := hKp
                have hKp := hKp.tr kq156 (wl_sub rfl rfl)
                obtain ⟨y157, ey157⟩ : ∃ y, xi (E155 0) 21 = y := ⟨_, rfl⟩
                have fy157 : xv (E155 0) 21 = .int y157 := (hI.fi 0 (Nat.le_of_ble_eq_true rfl) rfl (Nat.le_of_ble_eq_true rfl) rfl).trans (congrArg Value.int ey157)
                have iy157 : 0 ≤ y157.toInt ∧ y157.toInt ≤ 201 := by rw [← ey157]; exact hI.iv 0 (Nat.le_of_ble_eq_true rfl) rfl (Nat.le_of_ble_eq_true rfl) rfl
                obtain ⟨f158, f159, f160, f161, f162⟩ := hw
                try rw [(show xi (E134 0) 21 = y136 from vi_e fy136)] at f159
                try rw [(show xi (E155 0) 21 = y157 from vi_e fy157)] at f159
                try rw [(show xi (E134 0) 21 = y136 from vi_e fy136)] at f160
                try rw [hKb.ei 0 20 rfl] at f160
                try rw [(show xi (E155 0) 21 = y157 from vi_e fy157)] at f160
                try rw [(show xi (E134 0) 21 = y136 from vi_e fy136)] at f161
                try rw [hKb.ei 0 20 rfl] at f161
                try rw [(show xi (E155 0) 21 = y157 from vi_e fy157)] at f161
                refine th_pi (va_runS (As := [.int r154]) (rest := []) ⟨hx, hb, hml, hown, hts⟩ (q_isSignX l r154) (va_cwS 1 hts (gi_S (in_29 _ (zs16 (zs4 (zs4 (zs4 (zs1 (zs1 (zs0)))))))) (in_29 _ (zs16 (zs4 (zs4 (zs4 (zs1 (zs1 (zs1 (zs0))))))))) (in_24 _ (zs4 (zs4 (zs4 (zs1 (zs1 (zs1 (zs0)))))))) (in_29 _ (zs16 (zs16 (zs0))))) rfl rfl rfl hz_yX13_isSign_1 ⟨Nat.le_of_ble_eq_true rfl, Nat.le_of_ble_eq_true rfl⟩) ⟨fun _ _ _ _ q => q, fun _ _ _ => ⟨rfl, trivial⟩⟩ rfl rfl hl.1 rfl (lv_room (Nat.le_of_ble_eq_true rfl)) dX13_clause_112 ⟨Nat.le_of_ble_eq_true rfl, Nat.le_of_ble_eq_true rfl⟩) hS (fun r163 H1 locs1 hw hk1 hS => ?_)
                have hP := ub_keep hP hk1
                generalize H1 = H at hP hS ⊢
                generalize locs1 = locs at hS ⊢
                rcases hw with hw | hw
                · -- isSignX, case 0
                  obtain ⟨rfl, f164⟩ := hw
                  refine lv_if_eq (tgt := 140) hx hb dX13_clause_115 (by decide) (fun c165 => ?_) (fun c165 => ?_)
                  · --115 taken
                    exact absurd c165 (by decide)
                  · --115 not
                    have k166 : MZ E E155 := MZ.kp hKp (fun _ => rfl)
                    refine lv_aload_n hx hb dX13_clause_118 rfl (lv_at hl 4 rfl) ?_
                    refine lv_iconst (v := 1) hx hb dX13_clause_119 (by decide) ?_
                    refine lv_iload_n hx hb dX13_clause_120 rfl (lv_at hl 0 rfl) ?_
                    have z1 := ln_1
                    refine th_i (va_runV (As := [.int 1, .int r133]) (rest := []) ⟨hx, hb, hml, hown, hts⟩ ((q_groupW l 8).2.2 dC dI cT ad E155 H.size (1 : Int32) r133 k nl hI (by exact hh0) (by exact hh1) (by exact hh2) (by exact (hKp 0 18 rfl).trans hh3) (by (try rw [hKp.ei 0 19 rfl]); exact hh4) (by (try rw [(show xi (E155 0) 23 = y138 from vi_e ((kq156 0 23 rfl).trans fy138))]); omega) (by (try rw [(show xi (E155 0) 22 = y137 from vi_e ((kq156 0 22 rfl).trans fy137))]); omega) (iv_w ln_1 (by decide))) (cwV 2 hts (gi_V (in_29 _ (zs16 (zs1 (zs1 (zs0))))) (in_29 _ (zs16 (zs1 (zs1 (zs1 (zs0)))))) (in_29 _ (zs16 (zs4 (zs0)))) (in_24 _ (zs4 (zs4 (zs4 (zs1 (zs1 (zs1 (zs0)))))))) (in_29 _ (zs16 (zs4 (zs1 (zs0)))))) rfl rfl rfl (by decide +kernel) ⟨(show 7 * 8 + 11 + 1 ≤ 68 from Nat.le_of_ble_eq_true rfl), (show 8 + (5 + 11) + 40 * (7 * 8 + 11) ≤ 40 * (68) from Nat.le_of_ble_eq_true rfl)⟩) ⟨HW_bl, va_recv hK hP (ci := 14) (q0 := 0) rfl (hI.ob 0 (Nat.le_of_ble_eq_true rfl) rfl), (HW_wi hP hK (WX_D hD) hS hA hEV)⟩ rfl rfl hl.1 rfl (lv_room (Nat.le_of_ble_eq_true rfl)) dX13_clause_121 ⟨Nat.le_of_ble_eq_true rfl, Nat.le_of_ble_eq_true rfl⟩) (WX_D hD) hS hA (fun r167 E168 H locs hw hP hS => ?_)
                    obtain ⟨hI, kq169, hw⟩ := hw
                    have hKb := hKp
                    have hKp := hKp.tr kq169 (wl_sub rfl rfl)
                    obtain ⟨y170, ey170⟩ : ∃ y, xi (E168 0) 21 = y := ⟨_, rfl⟩
                    have fy170 : xv (E168 0) 21 = .int y170 := (hI.fi 0 (Nat.le_of_ble_eq_true rfl) rfl (Nat.le_of_ble_eq_true rfl) rfl).trans (congrArg Value.int ey170)
                    have iy170 : 0 ≤ y170.toInt ∧ y170.toInt ≤ 201 := by rw [← ey170]; exact hI.iv 0 (Nat.le_of_ble_eq_true rfl) rfl (Nat.le_of_ble_eq_true rfl) rfl
                    obtain ⟨y171, ey171⟩ : ∃ y, xi (E168 0) 22 = y := ⟨_, rfl⟩
                    have fy171 : xv (E168 0) 22 = .int y171 := (hI.fi 0 (Nat.le_of_ble_eq_true rfl) rfl (Nat.le_of_ble_eq_true rfl) rfl).trans (congrArg Value.int ey171)
                    have iy171 : -1 ≤ y171.toInt ∧ y171.toInt ≤ 201 := by rw [← ey171]; exact hI.iv 0 (Nat.le_of_ble_eq_true rfl) rfl (Nat.le_of_ble_eq_true rfl) rfl
                    obtain ⟨y172, ey172⟩ : ∃ y, xi (E168 0) 23 = y := ⟨_, rfl⟩
                    have fy172 : xv (E168 0) 23 = .int y172 := (hI.fi 0 (Nat.le_of_ble_eq_true rfl) rfl (Nat.le_of_ble_eq_true rfl) rfl).trans (congrArg Value.int ey172)
                    have iy172 : 0 ≤ y172.toInt ∧ y172.toInt ≤ 8 := by rw [← ey172]; exact hI.iv 0 (Nat.le_of_ble_eq_true rfl) rfl (Nat.le_of_ble_eq_true rfl) rfl
                    obtain ⟨f173, f174, f175, f176, f177, f178, f179⟩ := hw
                    try rw [(show xi (E155 0) 21 = y157 from vi_e fy157)] at f174
                    try rw [(show xi (E168 0) 21 = y170 from vi_e fy170)] at f174
                    try rw [(show xi (E155 0) 23 = y138 from vi_e ((kq156 0 23 rfl).trans fy138))] at f175
                    try rw [(show xi (E168 0) 23 = y172 from vi_e fy172)] at f175
                    try rw [(show xi (E155 0) 22 = y137 from vi_e ((kq156 0 22 rfl).trans fy137))] at f176
                    try rw [(show xi (E155 0) 23 = y138 from vi_e ((kq156 0 23 rfl).trans fy138))] at f176
                    try rw [(show xi (E168 0) 22 = y171 from vi_e fy171)] at f176
                    try rw [(show xi (E168 0) 23 = y172 from vi_e fy172)] at f176
                    try rw [(show xi (E155 0) 22 = y137 from vi_e ((kq156 0 22 rfl).trans fy137))] at f177
                    try rw [(show xi (E168 0) 22 = y171 from vi_e fy171)] at f177
                    refine lv_istore_n (lv' := [(2, .int r167), (3, .int r133), (4, .int r50), (1, .int r6), (0, .ref (ad 0))]) hx hb dX13_clause_124 rfl hl (by decide) rfl (fun ls hl => ?_)
                    refine lv_aload_n hx hb dX13_clause_125 rfl (lv_at hl 4 rfl) ?_
                    refine lv_bipush (v := 63) hx hb dX13_clause_126 (by decide) ?_
                    have z63 := ln_63
                    refine th_i (va_runV (As := [.int 63]) (rest := []) ⟨hx, hb, hml, hown, hts⟩ (q_takesX l dC dI cT ad E168 H.size (63 : Int32) k nl hI (by exact hh0) (by exact hh1) (by exact hh2) (by exact (hKp 0 18 rfl).trans hh3) (by (try rw [hKp.ei 0 19 rfl]); exact hh4) (iv_w ln_63 (by decide))) (cwV 1 hts (gi_V (in_26 _ (zs16 (zs1 (zs1 (zs1 (zs0)))))) (in_26 _ (zs16 (zs4 (zs0)))) (in_26 _ (zs16 (zs4 (zs1 (zs0))))) (in_24 _ (zs4 (zs4 (zs4 (zs1 (zs1 (zs1 (zs0)))))))) (in_26 _ (zs16 (zs4 (zs1 (zs1 (zs0))))))) rfl rfl rfl ⟨rfl, hz_yX13_takes_1⟩ ⟨Nat.le_of_ble_eq_true rfl, Nat.le_of_ble_eq_true rfl⟩) ⟨HW_bl, va_recv hK hP (ci := 14) (q0 := 0) rfl (hI.ob 0 (Nat.le_of_ble_eq_true rfl) rfl), (HW_wi hP hK (WX_D hD) hS hA hEV)⟩ rfl rfl hl.1 rfl (lv_room (Nat.le_of_ble_eq_true rfl)) dX13_clause_128 ⟨Nat.le_of_ble_eq_true rfl, Nat.le_of_ble_eq_true rfl⟩) (WX_D hD) hS hA (fun r180 E181 H locs hw hP hS => ?_)
                    obtain ⟨hI, kq182, hw⟩ := hw
                    have hKb := hKp
                    have hKp := hKp.tr kq182 (wl_sub rfl rfl)
                    obtain ⟨y183, ey183⟩ : ∃ y, xi (E181 0) 21 = y := ⟨_, rfl⟩
                    have fy183 : xv (E181 0) 21 = .int y183 := (hI.fi 0 (Nat.le_of_ble_eq_true rfl) rfl (Nat.le_of_ble_eq_true rfl) rfl).trans (congrArg Value.int ey183)
                    have iy183 : 0 ≤ y183.toInt ∧ y183.toInt ≤ 201 := by rw [← ey183]; exact hI.iv 0 (Nat.le_of_ble_eq_true rfl) rfl (Nat.le_of_ble_eq_true rfl) rfl
                    obtain ⟨y184, ey184⟩ : ∃ y, xi (E181 0) 22 = y := ⟨_, rfl⟩
                    have fy184 : xv (E181 0) 22 = .int y184 := (hI.fi 0 (Nat.le_of_ble_eq_true rfl) rfl (Nat.le_of_ble_eq_true rfl) rfl).trans (congrArg Value.int ey184)
                    have iy184 : -1 ≤ y184.toInt ∧ y184.toInt ≤ 201 := by rw [← ey184]; exact hI.iv 0 (Nat.le_of_ble_eq_true rfl) rfl (Nat.le_of_ble_eq_true rfl) rfl
                    rcases hw with hw | hw
                    · -- takesX, case 0
                      obtain ⟨rfl, f185, f186, f187, f188, f189⟩ := hw
                      try rw [(show xi (E168 0) 22 = y171 from vi_e fy171)] at f185
                      try rw [(show xi (E181 0) 22 = y184 from vi_e fy184)] at f185
                      try rw [(show xi (E168 0) 22 = y171 from vi_e fy171)] at f186
                      try rw [(show xi (E181 0) 22 = y184 from vi_e fy184)] at f186
                      try rw [(show xi (E168 0) 21 = y170 from vi_e fy170)] at f187
                      try rw [(show xi (E181 0) 21 = y183 from vi_e fy183)] at f187
                      try rw [(show xi (E168 0) 21 = y170 from vi_e fy170)] at f188
                      try rw [(show xi (E181 0) 21 = y183 from vi_e fy183)] at f188
                      refine lv_if_ne (tgt := 135) hx hb dX13_clause_131 (by decide) (fun c190 => ?_) (fun c190 => ?_)
                      · --131 taken
                        have k191 : MZ E E181 := MZ.kp hKp (fun _ => rfl)
                        refine lv_aload_n hx hb dX13_clause_135 rfl (lv_at hl 4 rfl) ?_
                        refine th_i (va_runV (As := []) (rest := []) ⟨hx, hb, hml, hown, hts⟩ ((q_groupW l 8).1 dC dI cT ad E181 H.size k nl hI (by exact hh0) (by exact hh1) (by exact hh2) (by exact (hKp 0 18 rfl).trans hh3) (by (try rw [hKp.ei 0 19 rfl]); exact hh4) (by (try rw [(show xi (E181 0) 23 = y172 from vi_e ((kq182 0 23 rfl).trans fy172))]); omega) (by (try rw [(show xi (E181 0) 22 = y184 from vi_e fy184)]); omega)) (cwV 0 hts (gi_V (in_26 _ (zs16 (zs0))) (in_26 _ (zs16 (zs1 (zs0)))) (in_26 _ (zs16 (zs1 (zs1 (zs0))))) (in_24 _ (zs4 (zs4 (zs4 (zs1 (zs1 (zs1 (zs0)))))))) (in_26 _ (zs16 (zs4 (zs4 (zs1 (zs1 (zs1 (zs0))))))))) rfl rfl rfl (by decide +kernel) ⟨(show 7 * 8 + 7 + 1 ≤ 68 from Nat.le_of_ble_eq_true rfl), (show 8 + (5 + 11) + 40 * (7 * 8 + 7) ≤ 40 * (68) from Nat.le_of_ble_eq_true rfl)⟩) ⟨HW_bl, va_recv hK hP (ci := 14) (q0 := 0) rfl (hI.ob 0 (Nat.le_of_ble_eq_true rfl) rfl), (HW_wi hP hK (WX_D hD) hS hA hEV)⟩ rfl rfl hl.1 rfl (lv_room (Nat.le_of_ble_eq_true rfl)) dX13_clause_136 ⟨Nat.le_of_ble_eq_true rfl, Nat.le_of_ble_eq_true rfl⟩) (WX_D hD) hS hA (fun r192 E193 H locs hw hP hS => ?_)
                        obtain ⟨hI, kq194, hw⟩ := hw
                        have hKb := hKp
                        have hKp := hKp.tr kq194 (wl_sub rfl rfl)
                        obtain ⟨y195, ey195⟩ : ∃ y, xi (E193 0) 21 = y := ⟨_, rfl⟩
                        have fy195 : xv (E193 0) 21 = .int y195 := (hI.fi 0 (Nat.le_of_ble_eq_true rfl) rfl (Nat.le_of_ble_eq_true rfl) rfl).trans (congrArg Value.int ey195)
                        have iy195 : 0 ≤ y195.toInt ∧ y195.toInt ≤ 201 := by rw [← ey195]; exact hI.iv 0 (Nat.le_of_ble_eq_true rfl) rfl (Nat.le_of_ble_eq_true rfl) rfl
                        obtain ⟨y196, ey196⟩ : ∃ y, xi (E193 0) 22 = y := ⟨_, rfl⟩
                        have fy196 : xv (E193 0) 22 = .int y196 := (hI.fi 0 (Nat.le_of_ble_eq_true rfl) rfl (Nat.le_of_ble_eq_true rfl) rfl).trans (congrArg Value.int ey196)
                        have iy196 : -1 ≤ y196.toInt ∧ y196.toInt ≤ 201 := by rw [← ey196]; exact hI.iv 0 (Nat.le_of_ble_eq_true rfl) rfl (Nat.le_of_ble_eq_true rfl) rfl
                        obtain ⟨y197, ey197⟩ : ∃ y, xi (E193 0) 23 = y := ⟨_, rfl⟩
                        have fy197 : xv (E193 0) 23 = .int y197 := (hI.fi 0 (Nat.le_of_ble_eq_true rfl) rfl (Nat.le_of_ble_eq_true rfl) rfl).trans (congrArg Value.int ey197)
                        have iy197 : 0 ≤ y197.toInt ∧ y197.toInt ≤ 8 := by rw [← ey197]; exact hI.iv 0 (Nat.le_of_ble_eq_true rfl) rfl (Nat.le_of_ble_eq_true rfl) rfl
                        obtain ⟨f198, f199, f200, f201, f202, f203⟩ := hw
                        try rw [(show xi (E181 0) 21 = y183 from vi_e fy183)] at f198
                        try rw [(show xi (E193 0) 21 = y195 from vi_e fy195)] at f198
                        try rw [(show xi (E181 0) 23 = y172 from vi_e ((kq182 0 23 rfl).trans fy172))] at f199
                        try rw [(show xi (E193 0) 23 = y197 from vi_e fy197)] at f199
                        try rw [(show xi (E181 0) 22 = y184 from vi_e fy184)] at f200
                        try rw [(show xi (E181 0) 23 = y172 from vi_e ((kq182 0 23 rfl).trans fy172))] at f200
                        try rw [(show xi (E193 0) 22 = y196 from vi_e fy196)] at f200
                        try rw [(show xi (E193 0) 23 = y197 from vi_e fy197)] at f200
                        try rw [(show xi (E181 0) 22 = y184 from vi_e fy184)] at f201
                        try rw [(show xi (E193 0) 22 = y196 from vi_e fy196)] at f201
                        refine lv_istore_n (lv' := [(3, .int r192), (2, .int r167), (4, .int r50), (1, .int r6), (0, .ref (ad 0))]) hx hb dX13_clause_139 rfl hl (by decide) rfl (fun ls hl => ?_)
                        refine lv_aload_n hx hb dX13_clause_140 rfl (lv_at hl 4 rfl) ?_
                        refine th_get (ci := 14) (C := RX13) (T := TX13) (N := 97) (v := .int y196) hx hb hts hinX13 hown hK hP hI 0 (Nat.le_of_ble_eq_true rfl) rfl rfl 22 (Nat.le_of_ble_eq_true rfl) (hts _ (vA_in _ _ (in_25 _ (zs16 (zs16 (zs4 (zs1 (zs1 (zs1 (zs0)))))))))) (fun _ h9 => h9) fy196 dX13_clause_141 ?_
                        refine lv_iconst (v := -1) hx hb dX13_clause_144 (by decide) ?_
                        refine lv_icmp_ne (tgt := 167) hx hb dX13_clause_145 (by decide) (fun c204 => ?_) (fun c204 => ?_)
                        · --145 taken
                          have t205 : ¬ y196.toInt = -1 := ti_ne c204
                          have i206 : 0 ≤ y196.toInt ∧ y196.toInt ≤ 201 := iv_ne_l t205 iy196 (il_ (-1))
                          rw [hQ]
                          exact W.vret hx hb hr (fun t ht hW => ⟨⟨E193, rfl, ⟨hI, hKp, ⟨by (try rw [(show xi (E193 0) 21 = y195 from vi_e fy195)]); (try rw [ey1]); first | done | exact (Int.le_trans (Int.le_trans (Int.le_trans (Int.le_trans (Int.le_trans (Int.le_trans (Int.le_trans (Int.le_trans f11 (Int.le_trans (Int.le_add_of_nonneg_right (by decide)) (Int.le_of_eq ty34.symm))) f47) f55) f139) f159) f174) f188) f198) | all_goals omega, by (try rw [(show xi (E193 0) 23 = y197 from vi_e fy197)]); (try rw [ey3]); first | done | exact (Int.le_trans (Int.le_trans f140 f175) f199) | all_goals omega, by (try rw [(show xi (E193 0) 22 = y196 from vi_e fy196)]); (try rw [(show xi (E193 0) 23 = y197 from vi_e fy197)]); (try rw [ey2]); (try rw [ey3]); first | done | exact fun q9 => absurd (q9) t205 | all_goals omega, by (try rw [(show xi (E193 0) 22 = y196 from vi_e fy196)]); (try rw [ey2]); first | done | exact fun q9 => absurd (q9) t205 | all_goals omega, clM f14 (ix_lab.mp (by rw [← f30]; omega)) k38 f48 KM.rf (vM_b f58 (by omega) f143 f162 (is_cmp.mpr (by omega)) f178 (qmC f189 KM.rf f202 KM.rf)) KM.rf, RdQ.nf (by show ¬ (xi (E193 0) 22).toInt = -1; rw [show xi (E193 0) 22 = y196 from vi_e fy196]; omega)⟩⟩, by show va_P (dC, dI) vwCl (WX 72 ad E193) t.heap; rw [ht]; exact hP⟩, hS.F ht⟩) hS.2.2 dX13_clause_167
                        · --145 not
                          have t207 : y196.toInt = -1 := ti_eq c204
                          have i208 : -1 ≤ y196.toInt ∧ y196.toInt ≤ -1 := iv_eqi t207 iy196 (il_ (-1)) (by decide)
                          refine lv_aload_n hx hb dX13_clause_148 rfl (lv_at hl 4 rfl) ?_
                          refine th_get (ci := 14) (C := RX13) (T := TX13) (N := 97) (v := .int y4) hx hb hts hinX13 hown hK hP hI 0 (Nat.le_of_ble_eq_true rfl) rfl rfl 26 (Nat.le_of_ble_eq_true rfl) (hts _ (vA_in _ _ (in_29 _ (zs4 (zs4 (zs4 (zs1 (zs0)))))))) (fun _ h9 => h9) ((kq194 0 26 rfl).trans ((kq182 0 26 rfl).trans ((kq169 0 26 rfl).trans ((kq156 0 26 rfl).trans ((kq135 0 26 rfl).trans ((kq52 0 26 rfl).trans ((kq41 0 26 rfl).trans ((pw37.2 0 26 (fun q9 => absurd q9.2 (Nat.ne_of_beq_eq_false rfl))).trans ((kq8 0 26 rfl).trans fy4))))))))) dX13_clause_149 ?_
                          refine lv_if_ne (tgt := 167) hx hb dX13_clause_152 (by decide) (fun c209 => ?_) (fun c209 => ?_)
                          · --152 taken
                            have t210 : ¬ y4.toInt = 0 := ti_ne c209
                            have i211 : 1 ≤ y4.toInt ∧ y4.toInt ≤ 1 := iv_ne_l t210 iy4 (il_ 0)
                            rw [hQ]
                            exact W.vret hx hb hr (fun t ht hW => ⟨⟨E193, rfl, ⟨hI, hKp, ⟨by (try rw [(show xi (E193 0) 21 = y195 from vi_e fy195)]); (try rw [ey1]); first | done | exact (Int.le_trans (Int.le_trans (Int.le_trans (Int.le_trans (Int.le_trans (Int.le_trans (Int.le_trans (Int.le_trans f11 (Int.le_trans (Int.le_add_of_nonneg_right (by decide)) (Int.le_of_eq ty34.symm))) f47) f55) f139) f159) f174) f188) f198) | all_goals omega, by (try rw [(show xi (E193 0) 23 = y197 from vi_e fy197)]); (try rw [ey3]); first | done | exact (Int.le_trans (Int.le_trans f140 f175) f199) | all_goals omega, by (try rw [(show xi (E193 0) 22 = y196 from vi_e fy196)]); (try rw [(show xi (E193 0) 23 = y197 from vi_e fy197)]); (try rw [ey2]); (try rw [ey3]); first | done | exact fun q9 => ((f200 (q9)).trans ((f176 (f185)).trans (f141 (f177 (f185))))) | all_goals omega, by (try rw [(show xi (E193 0) 22 = y196 from vi_e fy196)]); (try rw [ey2]); first | done | exact fun q9 => f44 | all_goals omega, clM f14 (ix_lab.mp (by rw [← f30]; omega)) k38 f48 KM.rf (vM_b f58 (by omega) f143 f162 (is_cmp.mpr (by omega)) f178 (qmC f189 KM.rf f202 KM.rf)) KM.rf, RdQ.of (is := r167) (clQ_b f14 (ix_lab.mp (by rw [← f30]; omega)) k38 f48 f58 (by omega) k59 f143 f144 f162 (is_cmp.mpr (by omega)) k166 f178 f179 f189 k191 f202 f203 KM.rf) ey4 ey5 (vi_e ((kq194 0 26 rfl).trans ((kq182 0 26 rfl).trans ((kq169 0 26 rfl).trans ((kq156 0 26 rfl).trans ((kq135 0 26 rfl).trans ((kq52 0 26 rfl).trans ((kq41 0 26 rfl).trans ((pw37.2 0 26 (fun q9 => absurd q9.2 (Nat.ne_of_beq_eq_false rfl))).trans ((kq8 0 26 rfl).trans fy4)))))))))) (vi_e ((kq194 0 25 rfl).trans ((kq182 0 25 rfl).trans ((kq169 0 25 rfl).trans ((kq156 0 25 rfl).trans ((kq135 0 25 rfl).trans ((kq52 0 25 rfl).trans ((kq41 0 25 rfl).trans ((pw37.2 0 25 (fun q9 => absurd q9.2 (Nat.ne_of_beq_eq_false rfl))).trans ((kq8 0 25 rfl).trans fy5)))))))))) (Or.inl ⟨by omega, rfl, rfl⟩)⟩⟩, by show va_P (dC, dI) vwCl (WX 72 ad E193) t.heap; rw [ht]; exact hP⟩, hS.F ht⟩) hS.2.2 dX13_clause_167
                          · --152 not
                            have t212 : y4.toInt = 0 := ti_eq c209
                            have i213 : 0 ≤ y4.toInt ∧ y4.toInt ≤ 0 := iv_eqi t212 iy4 (il_ 0) (by decide)
                            refine lv_iload_n hx hb dX13_clause_155 rfl (lv_at hl 3 rfl) ?_
                            refine lv_aload_n hx hb dX13_clause_156 rfl (lv_at hl 4 rfl) ?_
                            have i214 : 0 ≤ (xi (E 0) 24).toInt ∧ (xi (E 0) 24).toInt ≤ 127 := hI0.iv 0 (Nat.le_of_ble_eq_true rfl) rfl (Nat.le_of_ble_eq_true rfl) rfl
                            refine th_get (ci := 14) (C := RX13) (T := TX13) (N := 97) (v := .int (xi (E 0) 24)) hx hb hts hinX13 hown hK hP hI 0 (Nat.le_of_ble_eq_true rfl) rfl rfl 24 (Nat.le_of_ble_eq_true rfl) (hts _ (vA_in _ _ (in_29 _ (zs4 (zs4 (zs4 (zs0))))))) (fun _ h9 => h9) (th_v0 hKp hI0 0 (Nat.le_of_ble_eq_true rfl) rfl (Nat.le_of_ble_eq_true rfl) rfl rfl) dX13_clause_157 ?_
                            refine lv_icmp_ne (tgt := 167) hx hb dX13_clause_160 (by decide) (fun c215 => ?_) (fun c215 => ?_)
                            · --160 taken
                              have t216 : ¬ r6.toInt = (xi (E 0) 24).toInt := ti_ne c215
                              rw [hQ]
                              exact W.vret hx hb hr (fun t ht hW => ⟨⟨E193, rfl, ⟨hI, hKp, ⟨by (try rw [(show xi (E193 0) 21 = y195 from vi_e fy195)]); (try rw [ey1]); first | done | exact (Int.le_trans (Int.le_trans (Int.le_trans (Int.le_trans (Int.le_trans (Int.le_trans (Int.le_trans (Int.le_trans f11 (Int.le_trans (Int.le_add_of_nonneg_right (by decide)) (Int.le_of_eq ty34.symm))) f47) f55) f139) f159) f174) f188) f198) | all_goals omega, by (try rw [(show xi (E193 0) 23 = y197 from vi_e fy197)]); (try rw [ey3]); first | done | exact (Int.le_trans (Int.le_trans f140 f175) f199) | all_goals omega, by (try rw [(show xi (E193 0) 22 = y196 from vi_e fy196)]); (try rw [(show xi (E193 0) 23 = y197 from vi_e fy197)]); (try rw [ey2]); (try rw [ey3]); first | done | exact fun q9 => ((f200 (q9)).trans ((f176 (f185)).trans (f141 (f177 (f185))))) | all_goals omega, by (try rw [(show xi (E193 0) 22 = y196 from vi_e fy196)]); (try rw [ey2]); first | done | exact fun q9 => f44 | all_goals omega, clM f14 (ix_lab.mp (by rw [← f30]; omega)) k38 f48 KM.rf (vM_b f58 (by omega) f143 f162 (is_cmp.mpr (by omega)) f178 (qmC f189 KM.rf f202 KM.rf)) KM.rf, RdQ.of (is := r167) (clQ_b f14 (ix_lab.mp (by rw [← f30]; omega)) k38 f48 f58 (by omega) k59 f143 f144 f162 (is_cmp.mpr (by omega)) k166 f178 f179 f189 k191 f202 f203 KM.rf) ey4 ey5 (vi_e ((kq194 0 26 rfl).trans ((kq182 0 26 rfl).trans ((kq169 0 26 rfl).trans ((kq156 0 26 rfl).trans ((kq135 0 26 rfl).trans ((kq52 0 26 rfl).trans ((kq41 0 26 rfl).trans ((pw37.2 0 26 (fun q9 => absurd q9.2 (Nat.ne_of_beq_eq_false rfl))).trans ((kq8 0 26 rfl).trans fy4)))))))))) (vi_e ((kq194 0 25 rfl).trans ((kq182 0 25 rfl).trans ((kq169 0 25 rfl).trans ((kq156 0 25 rfl).trans ((kq135 0 25 rfl).trans ((kq52 0 25 rfl).trans ((kq41 0 25 rfl).trans ((pw37.2 0 25 (fun q9 => absurd q9.2 (Nat.ne_of_beq_eq_false rfl))).trans ((kq8 0 25 rfl).trans fy5)))))))))) (Or.inr (Or.inl ⟨by omega, by have z0 : (0 : Int32).toInt = 0 := rfl; have z1 : (1 : Int32).toInt = 1 := rfl; omega, rfl, rfl⟩))⟩⟩, by show va_P (dC, dI) vwCl (WX 72 ad E193) t.heap; rw [ht]; exact hP⟩, hS.F ht⟩) hS.2.2 dX13_clause_167
                            · --160 not
                              have t217 : r6.toInt = (xi (E 0) 24).toInt := ti_eq c215
                              have i218 : 0 ≤ r6.toInt ∧ r6.toInt ≤ 127 := iv_eqi t217 i27 i214 (by decide)
                              refine lv_iload_n hx hb dX13_clause_163 rfl (lv_at hl 1 rfl) ?_
                              refine lv_if_ne (tgt := 168) hx hb dX13_clause_164 (by decide) (fun c219 => ?_) (fun c219 => ?_)
                              · --164 taken
                                have t220 : ¬ r167.toInt = 0 := ti_ne c219
                                have i221 : 1 ≤ r167.toInt ∧ r167.toInt ≤ 1 := iv_ne_l t220 f173 (il_ 0)
                                refine lv_aload_n hx hb dX13_clause_168 rfl (lv_at hl 4 rfl) ?_
                                refine lv_iconst (v := 1) hx hb dX13_clause_169 (by decide) ?_
                                refine th_put (ci := 14) (C := RX13) (T := TX13) (N := 97) (v := .int 1) (ty := .boolean) hx hb hts hinX13 tyX13 tyX13_ok nmX13 hown hK hP (WX_D hD) hS hI 0 (Nat.le_of_ble_eq_true rfl) rfl rfl 26 (Nat.le_of_ble_eq_true rfl) (hts _ (vA_in _ _ (in_29 _ (zs4 (zs4 (zs4 (zs1 (zs0)))))))) (fun _ h9 => h9) rfl (by decide +kernel) rfl rfl (okI rfl (iv_w ln_1 (by decide))) dX13_clause_170 (fun H locs E222 pw223 hI hP hS => ?_)
                                have hKp := hKp.pw pw223 rfl
                                have k224 : KM k E193 E222 := KM.pw pw223.2 hk0 (by decide)
                                refine lv_aload_n hx hb dX13_clause_173 rfl (lv_at hl 4 rfl) ?_
                                refine lv_iload_n hx hb dX13_clause_174 rfl (lv_at hl 0 rfl) ?_
                                refine th_put (ci := 14) (C := RX13) (T := TX13) (N := 97) (v := .int r192) (ty := .int) hx hb hts hinX13 tyX13 tyX13_ok nmX13 hown hK hP (WX_D hD) hS hI 0 (Nat.le_of_ble_eq_true rfl) rfl rfl 25 (Nat.le_of_ble_eq_true rfl) (hts _ (vA_in _ _ (in_29 _ zs0))) (fun _ h9 => h9) rfl (by decide +kernel) rfl rfl (okI rfl (iv_all _)) dX13_clause_175 (fun H locs E225 pw226 hI hP hS => ?_)
                                have hKp := hKp.pw pw226 rfl
                                have k227 : KM k E222 E225 := KM.pw pw226.2 hk0 (by decide)
                                rw [hQ]
                                exact W.vret hx hb hr (fun t ht hW => ⟨⟨E225, rfl, ⟨hI, hKp, ⟨by (try rw [(show xi (E225 0) 21 = y195 from vi_e ((pw226.2 0 21 (fun q9 => absurd q9.2 (Nat.ne_of_beq_eq_false rfl))).trans ((pw223.2 0 21 (fun q9 => absurd q9.2 (Nat.ne_of_beq_eq_false rfl))).trans fy195)))]); (try rw [ey1]); first | done | exact (Int.le_trans (Int.le_trans (Int.le_trans (Int.le_trans (Int.le_trans (Int.le_trans (Int.le_trans (Int.le_trans f11 (Int.le_trans (Int.le_add_of_nonneg_right (by decide)) (Int.le_of_eq ty34.symm))) f47) f55) f139) f159) f174) f188) f198) | all_goals omega, by (try rw [(show xi (E225 0) 23 = y197 from vi_e ((pw226.2 0 23 (fun q9 => absurd q9.2 (Nat.ne_of_beq_eq_false rfl))).trans ((pw223.2 0 23 (fun q9 => absurd q9.2 (Nat.ne_of_beq_eq_false rfl))).trans fy197)))]); (try rw [ey3]); first | done | exact (Int.le_trans (Int.le_trans f140 f175) f199) | all_goals omega, by (try rw [(show xi (E225 0) 22 = y196 from vi_e ((pw226.2 0 22 (fun q9 => absurd q9.2 (Nat.ne_of_beq_eq_false rfl))).trans ((pw223.2 0 22 (fun q9 => absurd q9.2 (Nat.ne_of_beq_eq_false rfl))).trans fy196)))]); (try rw [(show xi (E225 0) 23 = y197 from vi_e ((pw226.2 0 23 (fun q9 => absurd q9.2 (Nat.ne_of_beq_eq_false rfl))).trans ((pw223.2 0 23 (fun q9 => absurd q9.2 (Nat.ne_of_beq_eq_false rfl))).trans fy197)))]); (try rw [ey2]); (try rw [ey3]); first | done | exact fun q9 => ((f200 (q9)).trans ((f176 (f185)).trans (f141 (f177 (f185))))) | all_goals omega, by (try rw [(show xi (E225 0) 22 = y196 from vi_e ((pw226.2 0 22 (fun q9 => absurd q9.2 (Nat.ne_of_beq_eq_false rfl))).trans ((pw223.2 0 22 (fun q9 => absurd q9.2 (Nat.ne_of_beq_eq_false rfl))).trans fy196)))]); (try rw [ey2]); first | done | exact fun q9 => f44 | all_goals omega, clM f14 (ix_lab.mp (by rw [← f30]; omega)) k38 f48 KM.rf (vM_b f58 (by omega) f143 f162 (is_cmp.mpr (by omega)) f178 (qmC f189 KM.rf f202 KM.rf)) (k224.tr k227), RdQ.of (is := r167) (clQ_b f14 (ix_lab.mp (by rw [← f30]; omega)) k38 f48 f58 (by omega) k59 f143 f144 f162 (is_cmp.mpr (by omega)) k166 f178 f179 f189 k191 f202 f203 (k224.tr k227)) ey4 ey5 (vi_e ((pw226.2 0 26 (fun q9 => absurd q9.2 (Nat.ne_of_beq_eq_false rfl))).trans pw223.1)) (vi_e pw226.1) (Or.inr (Or.inr ⟨by omega, by omega, by have z0 : (0 : Int32).toInt = 0 := rfl; have z1 : (1 : Int32).toInt = 1 := rfl; omega, by decide, rfl⟩))⟩⟩, by show va_P (dC, dI) vwCl (WX 72 ad E225) t.heap; rw [ht]; exact hP⟩, hS.F ht⟩) hS.2.2 dX13_clause_178
                              · --164 not
                                have t228 : r167.toInt = 0 := ti_eq c219
                                have i229 : 0 ≤ r167.toInt ∧ r167.toInt ≤ 0 := iv_eqi t228 f173 (il_ 0) (by decide)
                                rw [hQ]
                                exact W.vret hx hb hr (fun t ht hW => ⟨⟨E193, rfl, ⟨hI, hKp, ⟨by (try rw [(show xi (E193 0) 21 = y195 from vi_e fy195)]); (try rw [ey1]); first | done | exact (Int.le_trans (Int.le_trans (Int.le_trans (Int.le_trans (Int.le_trans (Int.le_trans (Int.le_trans (Int.le_trans f11 (Int.le_trans (Int.le_add_of_nonneg_right (by decide)) (Int.le_of_eq ty34.symm))) f47) f55) f139) f159) f174) f188) f198) | all_goals omega, by (try rw [(show xi (E193 0) 23 = y197 from vi_e fy197)]); (try rw [ey3]); first | done | exact (Int.le_trans (Int.le_trans f140 f175) f199) | all_goals omega, by (try rw [(show xi (E193 0) 22 = y196 from vi_e fy196)]); (try rw [(show xi (E193 0) 23 = y197 from vi_e fy197)]); (try rw [ey2]); (try rw [ey3]); first | done | exact fun q9 => ((f200 (q9)).trans ((f176 (f185)).trans (f141 (f177 (f185))))) | all_goals omega, by (try rw [(show xi (E193 0) 22 = y196 from vi_e fy196)]); (try rw [ey2]); first | done | exact fun q9 => f44 | all_goals omega, clM f14 (ix_lab.mp (by rw [← f30]; omega)) k38 f48 KM.rf (vM_b f58 (by omega) f143 f162 (is_cmp.mpr (by omega)) f178 (qmC f189 KM.rf f202 KM.rf)) KM.rf, RdQ.of (is := r167) (clQ_b f14 (ix_lab.mp (by rw [← f30]; omega)) k38 f48 f58 (by omega) k59 f143 f144 f162 (is_cmp.mpr (by omega)) k166 f178 f179 f189 k191 f202 f203 KM.rf) ey4 ey5 (vi_e ((kq194 0 26 rfl).trans ((kq182 0 26 rfl).trans ((kq169 0 26 rfl).trans ((kq156 0 26 rfl).trans ((kq135 0 26 rfl).trans ((kq52 0 26 rfl).trans ((kq41 0 26 rfl).trans ((pw37.2 0 26 (fun q9 => absurd q9.2 (Nat.ne_of_beq_eq_false rfl))).trans ((kq8 0 26 rfl).trans fy4)))))))))) (vi_e ((kq194 0 25 rfl).trans ((kq182 0 25 rfl).trans ((kq169 0 25 rfl).trans ((kq156 0 25 rfl).trans ((kq135 0 25 rfl).trans ((kq52 0 25 rfl).trans ((kq41 0 25 rfl).trans ((pw37.2 0 25 (fun q9 => absurd q9.2 (Nat.ne_of_beq_eq_false rfl))).trans ((kq8 0 25 rfl).trans fy5)))))))))) (Or.inr (Or.inl ⟨by omega, by have z0 : (0 : Int32).toInt = 0 := rfl; have z1 : (1 : Int32).toInt = 1 := rfl; omega, rfl, rfl⟩))⟩⟩, by show va_P (dC, dI) vwCl (WX 72 ad E193) t.heap; rw [ht]; exact hP⟩, hS.F ht⟩) hS.2.2 dX13_clause_167
                      · --131 not
                        exact absurd c190 (by decide)
                    · -- takesX, case 1
                      obtain ⟨rfl, f230, f231, f232⟩ := hw
                      try rw [(show xi (E168 0) 22 = y171 from vi_e fy171)] at f230
                      try rw [(show xi (E181 0) 22 = y184 from vi_e fy184)] at f230
                      try rw [(show xi (E168 0) 21 = y170 from vi_e fy170)] at f231
                      try rw [(show xi (E181 0) 21 = y183 from vi_e fy183)] at f231
                      refine lv_if_ne (tgt := 135) hx hb dX13_clause_131 (by decide) (fun c233 => ?_) (fun c233 => ?_)
                      · --131 taken
                        exact absurd c233 (by decide)
                      · --131 not
                        rw [hQ]
                        exact W.vret hx hb hr (fun t ht hW => ⟨⟨E181, rfl, ⟨hI, hKp, ⟨by (try rw [(show xi (E181 0) 21 = y183 from vi_e fy183)]); (try rw [ey1]); first | done | exact (Int.le_trans (Int.le_trans (Int.le_trans (Int.le_trans (Int.le_trans (Int.le_trans (Int.le_trans f11 (Int.le_trans (Int.le_add_of_nonneg_right (by decide)) (Int.le_of_eq ty34.symm))) f47) f55) f139) f159) f174) f231) | all_goals omega, by (try rw [(show xi (E181 0) 23 = y172 from vi_e ((kq182 0 23 rfl).trans fy172))]); (try rw [ey3]); first | done | exact (Int.le_trans f140 f175) | all_goals omega, by (try rw [(show xi (E181 0) 22 = y184 from vi_e fy184)]); (try rw [(show xi (E181 0) 23 = y172 from vi_e ((kq182 0 23 rfl).trans fy172))]); (try rw [ey2]); (try rw [ey3]); first | done | exact fun q9 => absurd (q9) f230 | all_goals omega, by (try rw [(show xi (E181 0) 22 = y184 from vi_e fy184)]); (try rw [ey2]); first | done | exact fun q9 => absurd (q9) f230 | all_goals omega, clM f14 (ix_lab.mp (by rw [← f30]; omega)) k38 f48 KM.rf (vM_b f58 (by omega) f143 f162 (is_cmp.mpr (by omega)) f178 (qmC f232 KM.rf (RdM.dead (by show ¬ (xi (E181 0) 22).toInt = -1; rw [show xi (E181 0) 22 = y184 from vi_e fy184]; omega)) KM.rf)) KM.rf, RdQ.nf (by show ¬ (xi (E181 0) 22).toInt = -1; rw [show xi (E181 0) 22 = y184 from vi_e fy184]; omega)⟩⟩, by show va_P (dC, dI) vwCl (WX 72 ad E181) t.heap; rw [ht]; exact hP⟩, hS.F ht⟩) hS.2.2 dX13_clause_134
                · -- isSignX, case 1
                  obtain ⟨rfl, f234⟩ := hw
                  refine lv_if_eq (tgt := 140) hx hb dX13_clause_115 (by decide) (fun c235 => ?_) (fun c235 => ?_)
                  · --115 taken
                    refine lv_aload_n hx hb dX13_clause_140 rfl (lv_at hl 4 rfl) ?_
                    refine th_get (ci := 14) (C := RX13) (T := TX13) (N := 97) (v := .int y137) hx hb hts hinX13 hown hK hP hI 0 (Nat.le_of_ble_eq_true rfl) rfl rfl 22 (Nat.le_of_ble_eq_true rfl) (hts _ (vA_in _ _ (in_25 _ (zs16 (zs16 (zs4 (zs1 (zs1 (zs1 (zs0)))))))))) (fun _ h9 => h9) ((kq156 0 22 rfl).trans fy137) dX13_clause_141 ?_
                    refine lv_iconst (v := -1) hx hb dX13_clause_144 (by decide) ?_
                    refine lv_icmp_ne (tgt := 167) hx hb dX13_clause_145 (by decide) (fun c236 => ?_) (fun c236 => ?_)
                    · --145 taken
                      have t237 : ¬ y137.toInt = -1 := ti_ne c236
                      have i238 : 0 ≤ y137.toInt ∧ y137.toInt ≤ -1 := iv_ne_l t237 i153 (il_ (-1))
                      exact iv_no i238 (by decide)
                    · --145 not
                      have t239 : y137.toInt = -1 := ti_eq c236
                      refine lv_aload_n hx hb dX13_clause_148 rfl (lv_at hl 4 rfl) ?_
                      refine th_get (ci := 14) (C := RX13) (T := TX13) (N := 97) (v := .int y4) hx hb hts hinX13 hown hK hP hI 0 (Nat.le_of_ble_eq_true rfl) rfl rfl 26 (Nat.le_of_ble_eq_true rfl) (hts _ (vA_in _ _ (in_29 _ (zs4 (zs4 (zs4 (zs1 (zs0)))))))) (fun _ h9 => h9) ((kq156 0 26 rfl).trans ((kq135 0 26 rfl).trans ((kq52 0 26 rfl).trans ((kq41 0 26 rfl).trans ((pw37.2 0 26 (fun q9 => absurd q9.2 (Nat.ne_of_beq_eq_false rfl))).trans ((kq8 0 26 rfl).trans fy4)))))) dX13_clause_149 ?_
                      refine lv_if_ne (tgt := 167) hx hb dX13_clause_152 (by decide) (fun c240 => ?_) (fun c240 => ?_)
                      · --152 taken
                        have t241 : ¬ y4.toInt = 0 := ti_ne c240
                        have i242 : 1 ≤ y4.toInt ∧ y4.toInt ≤ 1 := iv_ne_l t241 iy4 (il_ 0)
                        rw [hQ]
                        exact W.vret hx hb hr (fun t ht hW => ⟨⟨E155, rfl, ⟨hI, hKp, ⟨by (try rw [(show xi (E155 0) 21 = y157 from vi_e fy157)]); (try rw [ey1]); first | done | exact (Int.le_trans (Int.le_trans (Int.le_trans (Int.le_trans (Int.le_trans f11 (Int.le_trans (Int.le_add_of_nonneg_right (by decide)) (Int.le_of_eq ty34.symm))) f47) f55) f139) f159) | all_goals omega, by (try rw [(show xi (E155 0) 23 = y138 from vi_e ((kq156 0 23 rfl).trans fy138))]); (try rw [ey3]); first | done | exact f140 | all_goals omega, by (try rw [(show xi (E155 0) 22 = y137 from vi_e ((kq156 0 22 rfl).trans fy137))]); (try rw [(show xi (E155 0) 23 = y138 from vi_e ((kq156 0 23 rfl).trans fy138))]); (try rw [ey2]); (try rw [ey3]); first | done | exact fun q9 => (f141 (q9)) | all_goals omega, by (try rw [(show xi (E155 0) 22 = y137 from vi_e ((kq156 0 22 rfl).trans fy137))]); (try rw [ey2]); first | done | exact fun q9 => f44 | all_goals omega, clM f14 (ix_lab.mp (by rw [← f30]; omega)) k38 f48 KM.rf (vM_s f58 (by omega) f143 f162 (fun q9 => by have q8 := is_cmp.mp q9; omega)) KM.rf, RdQ.of (is := (1 : Int32)) (clQ_s f14 (ix_lab.mp (by rw [← f30]; omega)) k38 f48 f58 (by omega) k59 f143 f144 f162 (fun q9 => by have q8 := is_cmp.mp q9; omega) KM.rf) ey4 ey5 (vi_e ((kq156 0 26 rfl).trans ((kq135 0 26 rfl).trans ((kq52 0 26 rfl).trans ((kq41 0 26 rfl).trans ((pw37.2 0 26 (fun q9 => absurd q9.2 (Nat.ne_of_beq_eq_false rfl))).trans ((kq8 0 26 rfl).trans fy4))))))) (vi_e ((kq156 0 25 rfl).trans ((kq135 0 25 rfl).trans ((kq52 0 25 rfl).trans ((kq41 0 25 rfl).trans ((pw37.2 0 25 (fun q9 => absurd q9.2 (Nat.ne_of_beq_eq_false rfl))).trans ((kq8 0 25 rfl).trans fy5))))))) (Or.inl ⟨by omega, rfl, rfl⟩)⟩⟩, by show va_P (dC, dI) vwCl (WX 72 ad E155) t.heap; rw [ht]; exact hP⟩, hS.F ht⟩) hS.2.2 dX13_clause_167
                      · --152 not
                        have t243 : y4.toInt = 0 := ti_eq c240
                        have i244 : 0 ≤ y4.toInt ∧ y4.toInt ≤ 0 := iv_eqi t243 iy4 (il_ 0) (by decide)
                        refine lv_iload_n hx hb dX13_clause_155 rfl (lv_at hl 3 rfl) ?_
                        refine lv_aload_n hx hb dX13_clause_156 rfl (lv_at hl 4 rfl) ?_
                        have i245 : 0 ≤ (xi (E 0) 24).toInt ∧ (xi (E 0) 24).toInt ≤ 127 := hI0.iv 0 (Nat.le_of_ble_eq_true rfl) rfl (Nat.le_of_ble_eq_true rfl) rfl
                        refine th_get (ci := 14) (C := RX13) (T := TX13) (N := 97) (v := .int (xi (E 0) 24)) hx hb hts hinX13 hown hK hP hI 0 (Nat.le_of_ble_eq_true rfl) rfl rfl 24 (Nat.le_of_ble_eq_true rfl) (hts _ (vA_in _ _ (in_29 _ (zs4 (zs4 (zs4 (zs0))))))) (fun _ h9 => h9) (th_v0 hKp hI0 0 (Nat.le_of_ble_eq_true rfl) rfl (Nat.le_of_ble_eq_true rfl) rfl rfl) dX13_clause_157 ?_
                        refine lv_icmp_ne (tgt := 167) hx hb dX13_clause_160 (by decide) (fun c246 => ?_) (fun c246 => ?_)
                        · --160 taken
                          have t247 : ¬ r6.toInt = (xi (E 0) 24).toInt := ti_ne c246
                          rw [hQ]
                          exact W.vret hx hb hr (fun t ht hW => ⟨⟨E155, rfl, ⟨hI, hKp, ⟨by (try rw [(show xi (E155 0) 21 = y157 from vi_e fy157)]); (try rw [ey1]); first | done | exact (Int.le_trans (Int.le_trans (Int.le_trans (Int.le_trans (Int.le_trans f11 (Int.le_trans (Int.le_add_of_nonneg_right (by decide)) (Int.le_of_eq ty34.symm))) f47) f55) f139) f159) | all_goals omega, by (try rw [(show xi (E155 0) 23 = y138 from vi_e ((kq156 0 23 rfl).trans fy138))]); (try rw [ey3]); first | done | exact f140 | all_goals omega, by (try rw [(show xi (E155 0) 22 = y137 from vi_e ((kq156 0 22 rfl).trans fy137))]); (try rw [(show xi (E155 0) 23 = y138 from vi_e ((kq156 0 23 rfl).trans fy138))]); (try rw [ey2]); (try rw [ey3]); first | done | exact fun q9 => (f141 (q9)) | all_goals omega, by (try rw [(show xi (E155 0) 22 = y137 from vi_e ((kq156 0 22 rfl).trans fy137))]); (try rw [ey2]); first | done | exact fun q9 => f44 | all_goals omega, clM f14 (ix_lab.mp (by rw [← f30]; omega)) k38 f48 KM.rf (vM_s f58 (by omega) f143 f162 (fun q9 => by have q8 := is_cmp.mp q9; omega)) KM.rf, RdQ.of (is := (1 : Int32)) (clQ_s f14 (ix_lab.mp (by rw [← f30]; omega)) k38 f48 f58 (by omega) k59 f143 f144 f162 (fun q9 => by have q8 := is_cmp.mp q9; omega) KM.rf) ey4 ey5 (vi_e ((kq156 0 26 rfl).trans ((kq135 0 26 rfl).trans ((kq52 0 26 rfl).trans ((kq41 0 26 rfl).trans ((pw37.2 0 26 (fun q9 => absurd q9.2 (Nat.ne_of_beq_eq_false rfl))).trans ((kq8 0 26 rfl).trans fy4))))))) (vi_e ((kq156 0 25 rfl).trans ((kq135 0 25 rfl).trans ((kq52 0 25 rfl).trans ((kq41 0 25 rfl).trans ((pw37.2 0 25 (fun q9 => absurd q9.2 (Nat.ne_of_beq_eq_false rfl))).trans ((kq8 0 25 rfl).trans fy5))))))) (Or.inr (Or.inl ⟨by omega, by have z0 : (0 : Int32).toInt = 0 := rfl; have z1 : (1 : Int32).toInt = 1 := rfl; omega, rfl, rfl⟩))⟩⟩, by show va_P (dC, dI) vwCl (WX 72 ad E155) t.heap; rw [ht]; exact hP⟩, hS.F ht⟩) hS.2.2 dX13_clause_167
                        · --160 not
                          have t248 : r6.toInt = (xi (E 0) 24).toInt := ti_eq c246
                          have i249 : 0 ≤ r6.toInt ∧ r6.toInt ≤ 127 := iv_eqi t248 i27 i245 (by decide)
                          refine lv_iload_n hx hb dX13_clause_163 rfl (lv_at hl 2 rfl) ?_
                          refine lv_if_ne (tgt := 168) hx hb dX13_clause_164 (by decide) (fun c250 => ?_) (fun c250 => ?_)
                          · --164 taken
                            refine lv_aload_n hx hb dX13_clause_168 rfl (lv_at hl 4 rfl) ?_
                            refine lv_iconst (v := 1) hx hb dX13_clause_169 (by decide) ?_
                            refine th_put (ci := 14) (C := RX13) (T := TX13) (N := 97) (v := .int 1) (ty := .boolean) hx hb hts hinX13 tyX13 tyX13_ok nmX13 hown hK hP (WX_D hD) hS hI 0 (Nat.le_of_ble_eq_true rfl) rfl rfl 26 (Nat.le_of_ble_eq_true rfl) (hts _ (vA_in _ _ (in_29 _ (zs4 (zs4 (zs4 (zs1 (zs0)))))))) (fun _ h9 => h9) rfl (by decide +kernel) rfl rfl (okI rfl (iv_w ln_1 (by decide))) dX13_clause_170 (fun H locs E251 pw252 hI hP hS => ?_)
                            have hKp := hKp.pw pw252 rfl
                            have k253 : KM k E155 E251 := KM.pw pw252.2 hk0 (by decide)
                            refine lv_aload_n hx hb dX13_clause_173 rfl (lv_at hl 4 rfl) ?_
                            refine lv_iload_n hx hb dX13_clause_174 rfl (lv_at hl 0 rfl) ?_
                            refine th_put (ci := 14) (C := RX13) (T := TX13) (N := 97) (v := .int r133) (ty := .int) hx hb hts hinX13 tyX13 tyX13_ok nmX13 hown hK hP (WX_D hD) hS hI 0 (Nat.le_of_ble_eq_true rfl) rfl rfl 25 (Nat.le_of_ble_eq_true rfl) (hts _ (vA_in _ _ (in_29 _ zs0))) (fun _ h9 => h9) rfl (by decide +kernel) rfl rfl (okI rfl (iv_all _)) dX13_clause_175 (fun H locs E254 pw255 hI hP hS => ?_)
                            have hKp := hKp.pw pw255 rfl
                            have k256 : KM k E251 E254 := KM.pw pw255.2 hk0 (by decide)
                            rw [hQ]
                            exact W.vret hx hb hr (fun t ht hW => ⟨⟨E254, rfl, ⟨hI, hKp, ⟨by (try rw [(show xi (E254 0) 21 = y157 from vi_e ((pw255.2 0 21 (fun q9 => absurd q9.2 (Nat.ne_of_beq_eq_false rfl))).trans ((pw252.2 0 21 (fun q9 => absurd q9.2 (Nat.ne_of_beq_eq_false rfl))).trans fy157)))]); (try rw [ey1]); first | done | exact (Int.le_trans (Int.le_trans (Int.le_trans (Int.le_trans (Int.le_trans f11 (Int.le_trans (Int.le_add_of_nonneg_right (by decide)) (Int.le_of_eq ty34.symm))) f47) f55) f139) f159) | all_goals omega, by (try rw [(show xi (E254 0) 23 = y138 from vi_e ((pw255.2 0 23 (fun q9 => absurd q9.2 (Nat.ne_of_beq_eq_false rfl))).trans ((pw252.2 0 23 (fun q9 => absurd q9.2 (Nat.ne_of_beq_eq_false rfl))).trans ((kq156 0 23 rfl).trans fy138))))]); (try rw [ey3]); first | done | exact f140 | all_goals omega, by (try rw [(show xi (E254 0) 22 = y137 from vi_e ((pw255.2 0 22 (fun q9 => absurd q9.2 (Nat.ne_of_beq_eq_false rfl))).trans ((pw252.2 0 22 (fun q9 => absurd q9.2 (Nat.ne_of_beq_eq_false rfl))).trans ((kq156 0 22 rfl).trans fy137))))]); (try rw [(show xi (E254 0) 23 = y138 from vi_e ((pw255.2 0 23 (fun q9 => absurd q9.2 (Nat.ne_of_beq_eq_false rfl))).trans ((pw252.2 0 23 (fun q9 => absurd q9.2 (Nat.ne_of_beq_eq_false rfl))).trans ((kq156 0 23 rfl).trans fy138))))]); (try rw [ey2]); (try rw [ey3]); first | done | exact fun q9 => (f141 (q9)) | all_goals omega, by (try rw [(show xi (E254 0) 22 = y137 from vi_e ((pw255.2 0 22 (fun q9 => absurd q9.2 (Nat.ne_of_beq_eq_false rfl))).trans ((pw252.2 0 22 (fun q9 => absurd q9.2 (Nat.ne_of_beq_eq_false rfl))).trans ((kq156 0 22 rfl).trans fy137))))]); (try rw [ey2]); first | done | exact fun q9 => f44 | all_goals omega, clM f14 (ix_lab.mp (by rw [← f30]; omega)) k38 f48 KM.rf (vM_s f58 (by omega) f143 f162 (fun q9 => by have q8 := is_cmp.mp q9; omega)) (k253.tr k256), RdQ.of (is := (1 : Int32)) (clQ_s f14 (ix_lab.mp (by rw [← f30]; omega)) k38 f48 f58 (by omega) k59 f143 f144 f162 (fun q9 => by have q8 := is_cmp.mp q9; omega) (k253.tr k256)) ey4 ey5 (vi_e ((pw255.2 0 26 (fun q9 => absurd q9.2 (Nat.ne_of_beq_eq_false rfl))).trans pw252.1)) (vi_e pw255.1) (Or.inr (Or.inr ⟨by omega, by omega, by have z0 : (0 : Int32).toInt = 0 := rfl; have z1 : (1 : Int32).toInt = 1 := rfl; omega, by decide, rfl⟩))⟩⟩, by show va_P (dC, dI) vwCl (WX 72 ad E254) t.heap; rw [ht]; exact hP⟩, hS.F ht⟩) hS.2.2 dX13_clause_178
                          · --164 not
                            exact absurd c250 (by decide)
                  · --115 not
                    exact absurd c235 (by decide)
            · --67 not
              have t257 : r50.toInt = 40 := ti_eq c131
              have i258 : 40 ≤ r50.toInt ∧ r50.toInt ≤ 40 := iv_eqi t257 f54 (il_ 40) (by decide)
              refine lv_aload_n hx hb dX13_clause_70 rfl (lv_at hl 4 rfl) ?_
              refine lv_iconst (v := 0) hx hb dX13_clause_71 (by decide) ?_
              refine lv_iconst (v := 0) hx hb dX13_clause_72 (by decide) ?_
              have z0 := ln_0
              refine th_i (va_runV (As := [.int 0, .int 0]) (rest := []) ⟨hx, hb, hml, hown, hts⟩ ((q_groupW l 8).2.2 dC dI cT ad E51 H.size (0 : Int32) (0 : Int32) k nl hI (by exact hh0) (by exact hh1) (by exact hh2) (by exact (hKp 0 18 rfl).trans hh3) (by (try rw [hKp.ei 0 19 rfl]); exact hh4) (by (try rw [(show xi (E51 0) 23 = y3 from vi_e ((kq52 0 23 rfl).trans ((kq41 0 23 rfl).trans ((pw37.2 0 23 (fun q9 => absurd q9.2 (Nat.ne_of_beq_eq_false rfl))).trans ((kq8 0 23 rfl).trans fy3)))))]); omega) (by (try rw [(show xi (E51 0) 22 = y43 from vi_e ((kq52 0 22 rfl).trans fy43))]); omega) (iv_w ln_0 (by decide))) (cwV 2 hts (gi_V (in_29 _ (zs16 (zs1 (zs1 (zs0))))) (in_29 _ (zs16 (zs1 (zs1 (zs1 (zs0)))))) (in_29 _ (zs16 (zs4 (zs0)))) (in_24 _ (zs4 (zs4 (zs4 (zs1 (zs1 (zs1 (zs0)))))))) (in_29 _ (zs16 (zs4 (zs1 (zs0)))))) rfl rfl rfl (by decide +kernel) ⟨(show 7 * 8 + 11 + 1 ≤ 68 from Nat.le_of_ble_eq_true rfl), (show 8 + (5 + 11) + 40 * (7 * 8 + 11) ≤ 40 * (68) from Nat.le_of_ble_eq_true rfl)⟩) ⟨HW_bl, va_recv hK hP (ci := 14) (q0 := 0) rfl (hI.ob 0 (Nat.le_of_ble_eq_true rfl) rfl), (HW_wi hP hK (WX_D hD) hS hA hEV)⟩ rfl rfl hl.1 rfl (lv_room (Nat.le_of_ble_eq_true rfl)) dX13_clause_73 ⟨Nat.le_of_ble_eq_true rfl, Nat.le_of_ble_eq_true rfl⟩) (WX_D hD) hS hA (fun r259 E260 H locs hw hP hS => ?_)
              obtain ⟨hI, kq261, hw⟩ := hw
              have hKb := hKp
              have hKp := hKp.tr kq261 (wl_sub rfl rfl)
              obtain ⟨y262, ey262⟩ : ∃ y, xi (E260 0) 21 = y := ⟨_, rfl⟩
              have fy262 : xv (E260 0) 21 = .int y262 := (hI.fi 0 (Nat.le_of_ble_eq_true rfl) rfl (Nat.le_of_ble_eq_true rfl) rfl).trans (congrArg Value.int ey262)
              have iy262 : 0 ≤ y262.toInt ∧ y262.toInt ≤ 201 := by rw [← ey262]; exact hI.iv 0 (Nat.le_of_ble_eq_true rfl) rfl (Nat.le_of_ble_eq_true rfl) rfl
              obtain ⟨y263, ey263⟩ : ∃ y, xi (E260 0) 22 = y := ⟨_, rfl⟩
              have fy263 : xv (E260 0) 22 = .int y263 := (hI.fi 0 (Nat.le_of_ble_eq_true rfl) rfl (Nat.le_of_ble_eq_true rfl) rfl).trans (congrArg Value.int ey263)
              have iy263 : -1 ≤ y263.toInt ∧ y263.toInt ≤ 201 := by rw [← ey263]; exact hI.iv 0 (Nat.le_of_ble_eq_true rfl) rfl (Nat.le_of_ble_eq_true rfl) rfl
              obtain ⟨y264, ey264⟩ : ∃ y, xi (E260 0) 23 = y := ⟨_, rfl⟩
              have fy264 : xv (E260 0) 23 = .int y264 := (hI.fi 0 (Nat.le_of_ble_eq_true rfl) rfl (Nat.le_of_ble_eq_true rfl) rfl).trans (congrArg Value.int ey264)
              have iy264 : 0 ≤ y264.toInt ∧ y264.toInt ≤ 8 := by rw [← ey264]; exact hI.iv 0 (Nat.le_of_ble_eq_true rfl) rfl (Nat.le_of_ble_eq_true rfl) rfl
              obtain ⟨f265, f266, f267, f268, f269, f270, f271⟩ := hw
              try rw [(show xi (E51 0) 21 = y53 from vi_e fy53)] at f266
              try rw [(show xi (E260 0) 21 = y262 from vi_e fy262)] at f266
              try rw [(show xi (E51 0) 23 = y3 from vi_e ((kq52 0 23 rfl).trans ((kq41 0 23 rfl).trans ((pw37.2 0 23 (fun q9 => absurd q9.2 (Nat.ne_of_beq_eq_false rfl))).trans ((kq8 0 23 rfl).trans fy3)))))] at f267
              try rw [(show xi (E260 0) 23 = y264 from vi_e fy264)] at f267
              try rw [(show xi (E51 0) 22 = y43 from vi_e ((kq52 0 22 rfl).trans fy43))] at f268
              try rw [(show xi (E51 0) 23 = y3 from vi_e ((kq52 0 23 rfl).trans ((kq41 0 23 rfl).trans ((pw37.2 0 23 (fun q9 => absurd q9.2 (Nat.ne_of_beq_eq_false rfl))).trans ((kq8 0 23 rfl).trans fy3)))))] at f268
              try rw [(show xi (E260 0) 22 = y263 from vi_e fy263)] at f268
              try rw [(show xi (E260 0) 23 = y264 from vi_e fy264)] at f268
              try rw [(show xi (E51 0) 22 = y43 from vi_e ((kq52 0 22 rfl).trans fy43))] at f269
              try rw [(show xi (E260 0) 22 = y263 from vi_e fy263)] at f269
              refine lv_istore_n (lv' := [(2, .int r259), (4, .int r50), (3, .int 0), (1, .int r6), (0, .ref (ad 0))]) hx hb dX13_clause_76 rfl hl (by decide) rfl (fun ls hl => ?_)
              refine lv_aload_n hx hb dX13_clause_77 rfl (lv_at hl 4 rfl) ?_
              refine lv_bipush (v := 63) hx hb dX13_clause_78 (by decide) ?_
              have z63 := ln_63
              refine th_i (va_runV (As := [.int 63]) (rest := []) ⟨hx, hb, hml, hown, hts⟩ (q_takesX l dC dI cT ad E260 H.size (63 : Int32) k nl hI (by exact hh0) (by exact hh1) (by exact hh2) (by exact (hKp 0 18 rfl).trans hh3) (by (try rw [hKp.ei 0 19 rfl]); exact hh4) (iv_w ln_63 (by decide))) (cwV 1 hts (gi_V (in_26 _ (zs16 (zs1 (zs1 (zs1 (zs0)))))) (in_26 _ (zs16 (zs4 (zs0)))) (in_26 _ (zs16 (zs4 (zs1 (zs0))))) (in_24 _ (zs4 (zs4 (zs4 (zs1 (zs1 (zs1 (zs0)))))))) (in_26 _ (zs16 (zs4 (zs1 (zs1 (zs0))))))) rfl rfl rfl ⟨rfl, hz_yX13_takes_1⟩ ⟨Nat.le_of_ble_eq_true rfl, Nat.le_of_ble_eq_true rfl⟩) ⟨HW_bl, va_recv hK hP (ci := 14) (q0 := 0) rfl (hI.ob 0 (Nat.le_of_ble_eq_true rfl) rfl), (HW_wi hP hK (WX_D hD) hS hA hEV)⟩ rfl rfl hl.1 rfl (lv_room (Nat.le_of_ble_eq_true rfl)) dX13_clause_80 ⟨Nat.le_of_ble_eq_true rfl, Nat.le_of_ble_eq_true rfl⟩) (WX_D hD) hS hA (fun r272 E273 H locs hw hP hS => ?_)
              obtain ⟨hI, kq274, hw⟩ := hw
              have hKb := hKp
              have hKp := hKp.tr kq274 (wl_sub rfl rfl)
              obtain ⟨y275, ey275⟩ : ∃ y, xi (E273 0) 21 = y := ⟨_, rfl⟩
              have fy275 : xv (E273 0) 21 = .int y275 := (hI.fi 0 (Nat.le_of_ble_eq_true rfl) rfl (Nat.le_of_ble_eq_true rfl) rfl).trans (congrArg Value.int ey275)
              have iy275 : 0 ≤ y275.toInt ∧ y275.toInt ≤ 201 := by rw [← ey275]; exact hI.iv 0 (Nat.le_of_ble_eq_true rfl) rfl (Nat.le_of_ble_eq_true rfl) rfl
              obtain ⟨y276, ey276⟩ : ∃ y, xi (E273 0) 22 = y := ⟨_, rfl⟩
              have fy276 : xv (E273 0) 22 = .int y276 := (hI.fi 0 (Nat.le_of_ble_eq_true rfl) rfl (Nat.le_of_ble_eq_true rfl) rfl).trans (congrArg Value.int ey276)
              have iy276 : -1 ≤ y276.toInt ∧ y276.toInt ≤ 201 := by rw [← ey276]; exact hI.iv 0 (Nat.le_of_ble_eq_true rfl) rfl (Nat.le_of_ble_eq_true rfl) rfl
              rcases hw with hw | hw
              · -- takesX, case 0
                obtain ⟨rfl, f277, f278, f279, f280, f281⟩ := hw
                try rw [(show xi (E260 0) 22 = y263 from vi_e fy263)] at f277
                try rw [(show xi (E273 0) 22 = y276 from vi_e fy276)] at f277
                try rw [(show xi (E260 0) 22 = y263 from vi_e fy263)] at f278
                try rw [(show xi (E273 0) 22 = y276 from vi_e fy276)] at f278
                try rw [(show xi (E260 0) 21 = y262 from vi_e fy262)] at f279
                try rw [(show xi (E273 0) 21 = y275 from vi_e fy275)] at f279
                try rw [(show xi (E260 0) 21 = y262 from vi_e fy262)] at f280
                try rw [(show xi (E273 0) 21 = y275 from vi_e fy275)] at f280
                refine lv_if_ne (tgt := 87) hx hb dX13_clause_83 (by decide) (fun c282 => ?_) (fun c282 => ?_)
                · --83 taken
                  have k283 : MZ E E273 := MZ.kp hKp (fun _ => rfl)
                  refine lv_aload_n hx hb dX13_clause_87 rfl (lv_at hl 4 rfl) ?_
                  refine th_i (va_runV (As := []) (rest := []) ⟨hx, hb, hml, hown, hts⟩ ((q_groupW l 8).1 dC dI cT ad E273 H.size k nl hI (by exact hh0) (by exact hh1) (by exact hh2) (by exact (hKp 0 18 rfl).trans hh3) (by (try rw [hKp.ei 0 19 rfl]); exact hh4) (by (try rw [(show xi (E273 0) 23 = y264 from vi_e ((kq274 0 23 rfl).trans fy264))]); omega) (by (try rw [(show xi (E273 0) 22 = y276 from vi_e fy276)]); omega)) (cwV 0 hts (gi_V (in_26 _ (zs16 (zs0))) (in_26 _ (zs16 (zs1 (zs0)))) (in_26 _ (zs16 (zs1 (zs1 (zs0))))) (in_24 _ (zs4 (zs4 (zs4 (zs1 (zs1 (zs1 (zs0)))))))) (in_26 _ (zs16 (zs4 (zs4 (zs1 (zs1 (zs1 (zs0))))))))) rfl rfl rfl (by decide +kernel) ⟨(show 7 * 8 + 7 + 1 ≤ 68 from Nat.le_of_ble_eq_true rfl), (show 8 + (5 + 11) + 40 * (7 * 8 + 7) ≤ 40 * (68) from Nat.le_of_ble_eq_true rfl)⟩) ⟨HW_bl, va_recv hK hP (ci := 14) (q0 := 0) rfl (hI.ob 0 (Nat.le_of_ble_eq_true rfl) rfl), (HW_wi hP hK (WX_D hD) hS hA hEV)⟩ rfl rfl hl.1 rfl (lv_room (Nat.le_of_ble_eq_true rfl)) dX13_clause_88 ⟨Nat.le_of_ble_eq_true rfl, Nat.le_of_ble_eq_true rfl⟩) (WX_D hD) hS hA (fun r284 E285 H locs hw hP hS => ?_)
                  obtain ⟨hI, kq286, hw⟩ := hw
                  have hKb := hKp
                  have hKp := hKp.tr kq286 (wl_sub rfl rfl)
                  obtain ⟨y287, ey287⟩ : ∃ y, xi (E285 0) 21 = y := ⟨_, rfl⟩
                  have fy287 : xv (E285 0) 21 = .int y287 := (hI.fi 0 (Nat.le_of_ble_eq_true rfl) rfl (Nat.le_of_ble_eq_true rfl) rfl).trans (congrArg Value.int ey287)
                  have iy287 : 0 ≤ y287.toInt ∧ y287.toInt ≤ 201 := by rw [← ey287]; exact hI.iv 0 (Nat.le_of_ble_eq_true rfl) rfl (Nat.le_of_ble_eq_true rfl) rfl
                  obtain ⟨y288, ey288⟩ : ∃ y, xi (E285 0) 22 = y := ⟨_, rfl⟩
                  have fy288 : xv (E285 0) 22 = .int y288 := (hI.fi 0 (Nat.le_of_ble_eq_true rfl) rfl (Nat.le_of_ble_eq_true rfl) rfl).trans (congrArg Value.int ey288)
                  have iy288 : -1 ≤ y288.toInt ∧ y288.toInt ≤ 201 := by rw [← ey288]; exact hI.iv 0 (Nat.le_of_ble_eq_true rfl) rfl (Nat.le_of_ble_eq_true rfl) rfl
                  obtain ⟨y289, ey289⟩ : ∃ y, xi (E285 0) 23 = y := ⟨_, rfl⟩
                  have fy289 : xv (E285 0) 23 = .int y289 := (hI.fi 0 (Nat.le_of_ble_eq_true rfl) rfl (Nat.le_of_ble_eq_true rfl) rfl).trans (congrArg Value.int ey289)
                  have iy289 : 0 ≤ y289.toInt ∧ y289.toInt ≤ 8 := by rw [← ey289]; exact hI.iv 0 (Nat.le_of_ble_eq_true rfl) rfl (Nat.le_of_ble_eq_true rfl) rfl
                  obtain ⟨f290, f291, f292, f293, f294, f295⟩ := hw
                  try rw [(show xi (E273 0) 21 = y275 from vi_e fy275)] at f290
                  try rw [(show xi (E285 0) 21 = y287 from vi_e fy287)] at f290
                  try rw [(show xi (E273 0) 23 = y264 from vi_e ((kq274 0 23 rfl).trans fy264))] at f291
                  try rw [(show xi (E285 0) 23 = y289 from vi_e fy289)] at f291
                  try rw [(show xi (E273 0) 22 = y276 from vi_e fy276)] at f292
                  try rw [(show xi (E273 0) 23 = y264 from vi_e ((kq274 0 23 rfl).trans fy264))] at f292
                  try rw [(show xi (E285 0) 22 = y288 from vi_e fy288)] at f292
                  try rw [(show xi (E285 0) 23 = y289 from vi_e fy289)] at f292
                  try rw [(show xi (E273 0) 22 = y276 from vi_e fy276)] at f293
                  try rw [(show xi (E285 0) 22 = y288 from vi_e fy288)] at f293
                  refine lv_istore_n (lv' := [(3, .int r284), (2, .int r259), (4, .int r50), (1, .int r6), (0, .ref (ad 0))]) hx hb dX13_clause_91 rfl hl (by decide) rfl (fun ls hl => ?_)
                  refine lv_goto (tgt := 140) hx hb dX13_clause_92 (by decide) ?_
                  refine lv_aload_n hx hb dX13_clause_140 rfl (lv_at hl 4 rfl) ?_
                  refine th_get (ci := 14) (C := RX13) (T := TX13) (N := 97) (v := .int y288) hx hb hts hinX13 hown hK hP hI 0 (Nat.le_of_ble_eq_true rfl) rfl rfl 22 (Nat.le_of_ble_eq_true rfl) (hts _ (vA_in _ _ (in_25 _ (zs16 (zs16 (zs4 (zs1 (zs1 (zs1 (zs0)))))))))) (fun _ h9 => h9) fy288 dX13_clause_141 ?_
                  refine lv_iconst (v := -1) hx hb dX13_clause_144 (by decide) ?_
                  refine lv_icmp_ne (tgt := 167) hx hb dX13_clause_145 (by decide) (fun c296 => ?_) (fun c296 => ?_)
                  · --145 taken
                    have t297 : ¬ y288.toInt = -1 := ti_ne c296
                    have i298 : 0 ≤ y288.toInt ∧ y288.toInt ≤ 201 := iv_ne_l t297 iy288 (il_ (-1))
                    rw [hQ]
                    exact W.vret hx hb hr (fun t ht hW => ⟨⟨E285, rfl, ⟨hI, hKp, ⟨by (try rw [(show xi (E285 0) 21 = y287 from vi_e fy287)]); (try rw [ey1]); first | done | exact (Int.le_trans (Int.le_trans (Int.le_trans (Int.le_trans (Int.le_trans (Int.le_trans f11 (Int.le_trans (Int.le_add_of_nonneg_right (by decide)) (Int.le_of_eq ty34.symm))) f47) f55) f266) f280) f290) | all_goals omega, by (try rw [(show xi (E285 0) 23 = y289 from vi_e fy289)]); (try rw [ey3]); first | done | exact (Int.le_trans f267 f291) | all_goals omega, by (try rw [(show xi (E285 0) 22 = y288 from vi_e fy288)]); (try rw [(show xi (E285 0) 23 = y289 from vi_e fy289)]); (try rw [ey2]); (try rw [ey3]); first | done | exact fun q9 => absurd (q9) t297 | all_goals omega, by (try rw [(show xi (E285 0) 22 = y288 from vi_e fy288)]); (try rw [ey2]); first | done | exact fun q9 => absurd (q9) t297 | all_goals omega, clM f14 (ix_lab.mp (by rw [← f30]; omega)) k38 f48 KM.rf (vM_c f58 (by omega) f270 (qmC f281 KM.rf f294 KM.rf)) KM.rf, RdQ.nf (by show ¬ (xi (E285 0) 22).toInt = -1; rw [show xi (E285 0) 22 = y288 from vi_e fy288]; omega)⟩⟩, by show va_P (dC, dI) vwCl (WX 72 ad E285) t.heap; rw [ht]; exact hP⟩, hS.F ht⟩) hS.2.2 dX13_clause_167
                  · --145 not
                    have t299 : y288.toInt = -1 := ti_eq c296
                    have i300 : -1 ≤ y288.toInt ∧ y288.toInt ≤ -1 := iv_eqi t299 iy288 (il_ (-1)) (by decide)
                    refine lv_aload_n hx hb dX13_clause_148 rfl (lv_at hl 4 rfl) ?_
                    refine th_get (ci := 14) (C := RX13) (T := TX13) (N := 97) (v := .int y4) hx hb hts hinX13 hown hK hP hI 0 (Nat.le_of_ble_eq_true rfl) rfl rfl 26 (Nat.le_of_ble_eq_true rfl) (hts _ (vA_in _ _ (in_29 _ (zs4 (zs4 (zs4 (zs1 (zs0)))))))) (fun _ h9 => h9) ((kq286 0 26 rfl).trans ((kq274 0 26 rfl).trans ((kq261 0 26 rfl).trans ((kq52 0 26 rfl).trans ((kq41 0 26 rfl).trans ((pw37.2 0 26 (fun q9 => absurd q9.2 (Nat.ne_of_beq_eq_false rfl))).trans ((kq8 0 26 rfl).trans fy4))))))) dX13_clause_149 ?_
                    refine lv_if_ne (tgt := 167) hx hb dX13_clause_152 (by decide) (fun c301 => ?_) (fun c301 => ?_)
                    · --152 taken
                      have t302 : ¬ y4.toInt = 0 := ti_ne c301
                      have i303 : 1 ≤ y4.toInt ∧ y4.toInt ≤ 1 := iv_ne_l t302 iy4 (il_ 0)
                      rw [hQ]
                      exact W.vret hx hb hr (fun t ht hW => ⟨⟨E285, rfl, ⟨hI, hKp, ⟨by (try rw [(show xi (E285 0) 21 = y287 from vi_e fy287)]); (try rw [ey1]); first | done | exact (Int.le_trans (Int.le_trans (Int.le_trans (Int.le_trans (Int.le_trans (Int.le_trans f11 (Int.le_trans (Int.le_add_of_nonneg_right (by decide)) (Int.le_of_eq ty34.symm))) f47) f55) f266) f280) f290) | all_goals omega, by (try rw [(show xi (E285 0) 23 = y289 from vi_e fy289)]); (try rw [ey3]); first | done | exact (Int.le_trans f267 f291) | all_goals omega, by (try rw [(show xi (E285 0) 22 = y288 from vi_e fy288)]); (try rw [(show xi (E285 0) 23 = y289 from vi_e fy289)]); (try rw [ey2]); (try rw [ey3]); first | done | exact fun q9 => ((f292 (q9)).trans (f268 (f277))) | all_goals omega, by (try rw [(show xi (E285 0) 22 = y288 from vi_e fy288)]); (try rw [ey2]); first | done | exact fun q9 => f44 | all_goals omega, clM f14 (ix_lab.mp (by rw [← f30]; omega)) k38 f48 KM.rf (vM_c f58 (by omega) f270 (qmC f281 KM.rf f294 KM.rf)) KM.rf, RdQ.of (is := r259) (clQ_c f14 (ix_lab.mp (by rw [← f30]; omega)) k38 f48 f58 (by omega) k59 f270 f271 f281 k283 f294 f295 KM.rf) ey4 ey5 (vi_e ((kq286 0 26 rfl).trans ((kq274 0 26 rfl).trans ((kq261 0 26 rfl).trans ((kq52 0 26 rfl).trans ((kq41 0 26 rfl).trans ((pw37.2 0 26 (fun q9 => absurd q9.2 (Nat.ne_of_beq_eq_false rfl))).trans ((kq8 0 26 rfl).trans fy4)))))))) (vi_e ((kq286 0 25 rfl).trans ((kq274 0 25 rfl).trans ((kq261 0 25 rfl).trans ((kq52 0 25 rfl).trans ((kq41 0 25 rfl).trans ((pw37.2 0 25 (fun q9 => absurd q9.2 (Nat.ne_of_beq_eq_false rfl))).trans ((kq8 0 25 rfl).trans fy5)))))))) (Or.inl ⟨by omega, rfl, rfl⟩)⟩⟩, by show va_P (dC, dI) vwCl (WX 72 ad E285) t.heap; rw [ht]; exact hP⟩, hS.F ht⟩) hS.2.2 dX13_clause_167
                    · --152 not
                      have t304 : y4.toInt = 0 := ti_eq c301
                      have i305 : 0 ≤ y4.toInt ∧ y4.toInt ≤ 0 := iv_eqi t304 iy4 (il_ 0) (by decide)
                      refine lv_iload_n hx hb dX13_clause_155 rfl (lv_at hl 3 rfl) ?_
                      refine lv_aload_n hx hb dX13_clause_156 rfl (lv_at hl 4 rfl) ?_
                      have i306 : 0 ≤ (xi (E 0) 24).toInt ∧ (xi (E 0) 24).toInt ≤ 127 := hI0.iv 0 (Nat.le_of_ble_eq_true rfl) rfl (Nat.le_of_ble_eq_true rfl) rfl
                      refine th_get (ci := 14) (C := RX13) (T := TX13) (N := 97) (v := .int (xi (E 0) 24)) hx hb hts hinX13 hown hK hP hI 0 (Nat.le_of_ble_eq_true rfl) rfl rfl 24 (Nat.le_of_ble_eq_true rfl) (hts _ (vA_in _ _ (in_29 _ (zs4 (zs4 (zs4 (zs0))))))) (fun _ h9 => h9) (th_v0 hKp hI0 0 (Nat.le_of_ble_eq_true rfl) rfl (Nat.le_of_ble_eq_true rfl) rfl rfl) dX13_clause_157 ?_
                      refine lv_icmp_ne (tgt := 167) hx hb dX13_clause_160 (by decide) (fun c307 => ?_) (fun c307 => ?_)
                      · --160 taken
                        have t308 : ¬ r6.toInt = (xi (E 0) 24).toInt := ti_ne c307
                        rw [hQ]
                        exact W.vret hx hb hr (fun t ht hW => ⟨⟨E285, rfl, ⟨hI, hKp, ⟨by (try rw [(show xi (E285 0) 21 = y287 from vi_e fy287)]); (try rw [ey1]); first | done | exact (Int.le_trans (Int.le_trans (Int.le_trans (Int.le_trans (Int.le_trans (Int.le_trans f11 (Int.le_trans (Int.le_add_of_nonneg_right (by decide)) (Int.le_of_eq ty34.symm))) f47) f55) f266) f280) f290) | all_goals omega, by (try rw [(show xi (E285 0) 23 = y289 from vi_e fy289)]); (try rw [ey3]); first | done | exact (Int.le_trans f267 f291) | all_goals omega, by (try rw [(show xi (E285 0) 22 = y288 from vi_e fy288)]); (try rw [(show xi (E285 0) 23 = y289 from vi_e fy289)]); (try rw [ey2]); (try rw [ey3]); first | done | exact fun q9 => ((f292 (q9)).trans (f268 (f277))) | all_goals omega, by (try rw [(show xi (E285 0) 22 = y288 from vi_e fy288)]); (try rw [ey2]); first | done | exact fun q9 => f44 | all_goals omega, clM f14 (ix_lab.mp (by rw [← f30]; omega)) k38 f48 KM.rf (vM_c f58 (by omega) f270 (qmC f281 KM.rf f294 KM.rf)) KM.rf, RdQ.of (is := r259) (clQ_c f14 (ix_lab.mp (by rw [← f30]; omega)) k38 f48 f58 (by omega) k59 f270 f271 f281 k283 f294 f295 KM.rf) ey4 ey5 (vi_e ((kq286 0 26 rfl).trans ((kq274 0 26 rfl).trans ((kq261 0 26 rfl).trans ((kq52 0 26 rfl).trans ((kq41 0 26 rfl).trans ((pw37.2 0 26 (fun q9 => absurd q9.2 (Nat.ne_of_beq_eq_false rfl))).trans ((kq8 0 26 rfl).trans fy4)))))))) (vi_e ((kq286 0 25 rfl).trans ((kq274 0 25 rfl).trans ((kq261 0 25 rfl).trans ((kq52 0 25 rfl).trans ((kq41 0 25 rfl).trans ((pw37.2 0 25 (fun q9 => absurd q9.2 (Nat.ne_of_beq_eq_false rfl))).trans ((kq8 0 25 rfl).trans fy5)))))))) (Or.inr (Or.inl ⟨by omega, by have z0 : (0 : Int32).toInt = 0 := rfl; have z1 : (1 : Int32).toInt = 1 := rfl; omega, rfl, rfl⟩))⟩⟩, by show va_P (dC, dI) vwCl (WX 72 ad E285) t.heap; rw [ht]; exact hP⟩, hS.F ht⟩) hS.2.2 dX13_clause_167
                      · --160 not
                        have t309 : r6.toInt = (xi (E 0) 24).toInt := ti_eq c307
                        have i310 : 0 ≤ r6.toInt ∧ r6.toInt ≤ 127 := iv_eqi t309 i27 i306 (by decide)
                        refine lv_iload_n hx hb dX13_clause_163 rfl (lv_at hl 1 rfl) ?_
                        refine lv_if_ne (tgt := 168) hx hb dX13_clause_164 (by decide) (fun c311 => ?_) (fun c311 => ?_)
                        · --164 taken
                          have t312 : ¬ r259.toInt = 0 := ti_ne c311
                          have i313 : 1 ≤ r259.toInt ∧ r259.toInt ≤ 1 := iv_ne_l t312 f265 (il_ 0)
                          refine lv_aload_n hx hb dX13_clause_168 rfl (lv_at hl 4 rfl) ?_
                          refine lv_iconst (v := 1) hx hb dX13_clause_169 (by decide) ?_
                          refine th_put (ci := 14) (C := RX13) (T := TX13) (N := 97) (v := .int 1) (ty := .boolean) hx hb hts hinX13 tyX13 tyX13_ok nmX13 hown hK hP (WX_D hD) hS hI 0 (Nat.le_of_ble_eq_true rfl) rfl rfl 26 (Nat.le_of_ble_eq_true rfl) (hts _ (vA_in _ _ (in_29 _ (zs4 (zs4 (zs4 (zs1 (zs0)))))))) (fun _ h9 => h9) rfl (by decide +kernel) rfl rfl (okI rfl (iv_w ln_1 (by decide))) dX13_clause_170 (fun H locs E314 pw315 hI hP hS => ?_)
                          have hKp := hKp.pw pw315 rfl
                          have k316 : KM k E285 E314 := KM.pw pw315.2 hk0 (by decide)
                          refine lv_aload_n hx hb dX13_clause_173 rfl (lv_at hl 4 rfl) ?_
                          refine lv_iload_n hx hb dX13_clause_174 rfl (lv_at hl 0 rfl) ?_
                          refine th_put (ci := 14) (C := RX13) (T := TX13) (N := 97) (v := .int r284) (ty := .int) hx hb hts hinX13 tyX13 tyX13_ok nmX13 hown hK hP (WX_D hD) hS hI 0 (Nat.le_of_ble_eq_true rfl) rfl rfl 25 (Nat.le_of_ble_eq_true rfl) (hts _ (vA_in _ _ (in_29 _ zs0))) (fun _ h9 => h9) rfl (by decide +kernel) rfl rfl (okI rfl (iv_all _)) dX13_clause_175 (fun H locs E317 pw318 hI hP hS => ?_)
                          have hKp := hKp.pw pw318 rfl
                          have k319 : KM k E314 E317 := KM.pw pw318.2 hk0 (by decide)
                          rw [hQ]
                          exact W.vret hx hb hr (fun t ht hW => ⟨⟨E317, rfl, ⟨hI, hKp, ⟨by (try rw [(show xi (E317 0) 21 = y287 from vi_e ((pw318.2 0 21 (fun q9 => absurd q9.2 (Nat.ne_of_beq_eq_false rfl))).trans ((pw315.2 0 21 (fun q9 => absurd q9.2 (Nat.ne_of_beq_eq_false rfl))).trans fy287)))]); (try rw [ey1]); first | done | exact (Int.le_trans (Int.le_trans (Int.le_trans (Int.le_trans (Int.le_trans (Int.le_trans f11 (Int.le_trans (Int.le_add_of_nonneg_right (by decide)) (Int.le_of_eq ty34.symm))) f47) f55) f266) f280) f290) | all_goals omega, by (try rw [(show xi (E317 0) 23 = y289 from vi_e ((pw318.2 0 23 (fun q9 => absurd q9.2 (Nat.ne_of_beq_eq_false rfl))).trans ((pw315.2 0 23 (fun q9 => absurd q9.2 (Nat.ne_of_beq_eq_false rfl))).trans fy289)))]); (try rw [ey3]); first | done | exact (Int.le_trans f267 f291) | all_goals omega, by (try rw [(show xi (E317 0) 22 = y288 from vi_e ((pw318.2 0 22 (fun q9 => absurd q9.2 (Nat.ne_of_beq_eq_false rfl))).trans ((pw315.2 0 22 (fun q9 => absurd q9.2 (Nat.ne_of_beq_eq_false rfl))).trans fy288)))]); (try rw [(show xi (E317 0) 23 = y289 from vi_e ((pw318.2 0 23 (fun q9 => absurd q9.2 (Nat.ne_of_beq_eq_false rfl))).trans ((pw315.2 0 23 (fun q9 => absurd q9.2 (Nat.ne_of_beq_eq_false rfl))).trans fy289)))]); (try rw [ey2]); (try rw [ey3]); first | done | exact fun q9 => ((f292 (q9)).trans (f268 (f277))) | all_goals omega, by (try rw [(show xi (E317 0) 22 = y288 from vi_e ((pw318.2 0 22 (fun q9 => absurd q9.2 (Nat.ne_of_beq_eq_false rfl))).trans ((pw315.2 0 22 (fun q9 => absurd q9.2 (Nat.ne_of_beq_eq_false rfl))).trans fy288)))]); (try rw [ey2]); first | done | exact fun q9 => f44 | all_goals omega, clM f14 (ix_lab.mp (by rw [← f30]; omega)) k38 f48 KM.rf (vM_c f58 (by omega) f270 (qmC f281 KM.rf f294 KM.rf)) (k316.tr k319), RdQ.of (is := r259) (clQ_c f14 (ix_lab.mp (by rw [← f30]; omega)) k38 f48 f58 (by omega) k59 f270 f271 f281 k283 f294 f295 (k316.tr k319)) ey4 ey5 (vi_e ((pw318.2 0 26 (fun q9 => absurd q9.2 (Nat.ne_of_beq_eq_false rfl))).trans pw315.1)) (vi_e pw318.1) (Or.inr (Or.inr ⟨by omega, by omega, by have z0 : (0 : Int32).toInt = 0 := rfl; have z1 : (1 : Int32).toInt = 1 := rfl; omega, by decide, rfl⟩))⟩⟩, by show va_P (dC, dI) vwCl (WX 72 ad E317) t.heap; rw [ht]; exact hP⟩, hS.F ht⟩) hS.2.2 dX13_clause_178
                        · --164 not
                          have t320 : r259.toInt = 0 := ti_eq c311
                          have i321 : 0 ≤ r259.toInt ∧ r259.toInt ≤ 0 := iv_eqi t320 f265 (il_ 0) (by decide)
                          rw [hQ]
                          exact W.vret hx hb hr (fun t ht hW => ⟨⟨E285, rfl, ⟨hI, hKp, ⟨by (try rw [(show xi (E285 0) 21 = y287 from vi_e fy287)]); (try rw [ey1]); first | done | exact (Int.le_trans (Int.le_trans (Int.le_trans (Int.le_trans (Int.le_trans (Int.le_trans f11 (Int.le_trans (Int.le_add_of_nonneg_right (by decide)) (Int.le_of_eq ty34.symm))) f47) f55) f266) f280) f290) | all_goals omega, by (try rw [(show xi (E285 0) 23 = y289 from vi_e fy289)]); (try rw [ey3]); first | done | exact (Int.le_trans f267 f291) | all_goals omega, by (try rw [(show xi (E285 0) 22 = y288 from vi_e fy288)]); (try rw [(show xi (E285 0) 23 = y289 from vi_e fy289)]); (try rw [ey2]); (try rw [ey3]); first | done | exact fun q9 => ((f292 (q9)).trans (f268 (f277))) | all_goals omega, by (try rw [(show xi (E285 0) 22 = y288 from vi_e fy288)]); (try rw [ey2]); first | done | exact fun q9 => f44 | all_goals omega, clM f14 (ix_lab.mp (by rw [← f30]; omega)) k38 f48 KM.rf (vM_c f58 (by omega) f270 (qmC f281 KM.rf f294 KM.rf)) KM.rf, RdQ.of (is := r259) (clQ_c f14 (ix_lab.mp (by rw [← f30]; omega)) k38 f48 f58 (by omega) k59 f270 f271 f281 k283 f294 f295 KM.rf) ey4 ey5 (vi_e ((kq286 0 26 rfl).trans ((kq274 0 26 rfl).trans ((kq261 0 26 rfl).trans ((kq52 0 26 rfl).trans ((kq41 0 26 rfl).trans ((pw37.2 0 26 (fun q9 => absurd q9.2 (Nat.ne_of_beq_eq_false rfl))).trans ((kq8 0 26 rfl).trans fy4)))))))) (vi_e ((kq286 0 25 rfl).trans ((kq274 0 25 rfl).trans ((kq261 0 25 rfl).trans ((kq52 0 25 rfl).trans ((kq41 0 25 rfl).trans ((pw37.2 0 25 (fun q9 => absurd q9.2 (Nat.ne_of_beq_eq_false rfl))).trans ((kq8 0 25 rfl).trans fy5)))))))) (Or.inr (Or.inl ⟨by omega, by have z0 : (0 : Int32).toInt = 0 := rfl; have z1 : (1 : Int32).toInt = 1 := rfl; omega, rfl, rfl⟩))⟩⟩, by show va_P (dC, dI) vwCl (WX 72 ad E285) t.heap; rw [ht]; exact hP⟩, hS.F ht⟩) hS.2.2 dX13_clause_167
                · --83 not
                  exact absurd c282 (by decide)
              · -- takesX, case 1
                obtain ⟨rfl, f322, f323, f324⟩ := hw
                try rw [(show xi (E260 0) 22 = y263 from vi_e fy263)] at f322
                try rw [(show xi (E273 0) 22 = y276 from vi_e fy276)] at f322
                try rw [(show xi (E260 0) 21 = y262 from vi_e fy262)] at f323
                try rw [(show xi (E273 0) 21 = y275 from vi_e fy275)] at f323
                refine lv_if_ne (tgt := 87) hx hb dX13_clause_83 (by decide) (fun c325 => ?_) (fun c325 => ?_)
                · --83 taken
                  exact absurd c325 (by decide)
                · --83 not
                  rw [hQ]
                  exact W.vret hx hb hr (fun t ht hW => ⟨⟨E273, rfl, ⟨hI, hKp, ⟨by (try rw [(show xi (E273 0) 21 = y275 from vi_e fy275)]); (try rw [ey1]); first | done | exact (Int.le_trans (Int.le_trans (Int.le_trans (Int.le_trans (Int.le_trans f11 (Int.le_trans (Int.le_add_of_nonneg_right (by decide)) (Int.le_of_eq ty34.symm))) f47) f55) f266) f323) | all_goals omega, by (try rw [(show xi (E273 0) 23 = y264 from vi_e ((kq274 0 23 rfl).trans fy264))]); (try rw [ey3]); first | done | exact f267 | all_goals omega, by (try rw [(show xi (E273 0) 22 = y276 from vi_e fy276)]); (try rw [(show xi (E273 0) 23 = y264 from vi_e ((kq274 0 23 rfl).trans fy264))]); (try rw [ey2]); (try rw [ey3]); first | done | exact fun q9 => absurd (q9) f322 | all_goals omega, by (try rw [(show xi (E273 0) 22 = y276 from vi_e fy276)]); (try rw [ey2]); first | done | exact fun q9 => absurd (q9) f322 | all_goals omega, clM f14 (ix_lab.mp (by rw [← f30]; omega)) k38 f48 KM.rf (vM_c f58 (by omega) f270 (qmC f324 KM.rf (RdM.dead (by show ¬ (xi (E273 0) 22).toInt = -1; rw [show xi (E273 0) 22 = y276 from vi_e fy276]; omega)) KM.rf)) KM.rf, RdQ.nf (by show ¬ (xi (E273 0) 22).toInt = -1; rw [show xi (E273 0) 22 = y276 from vi_e fy276]; omega)⟩⟩, by show va_P (dC, dI) vwCl (WX 72 ad E273) t.heap; rw [ht]; exact hP⟩, hS.F ht⟩) hS.2.2 dX13_clause_86
        · --42 not
          exact absurd c49 (by decide)
      · -- takesX, case 1
        obtain ⟨rfl, f326, f327, f328⟩ := hw
        try rw [(show xi (E36 0) 22 = y2 from vi_e ((pw37.2 0 22 (fun q9 => absurd q9.2 (Nat.ne_of_beq_eq_false rfl))).trans ((kq8 0 22 rfl).trans fy2)))] at f326
        try rw [(show xi (E40 0) 22 = y43 from vi_e fy43)] at f326
        try rw [(show xi (E36 0) 21 = y34 from vi_e pw37.1)] at f327
        try rw [(show xi (E40 0) 21 = y42 from vi_e fy42)] at f327
        refine lv_if_ne (tgt := 46) hx hb dX13_clause_42 (by decide) (fun c329 => ?_) (fun c329 => ?_)
        · --42 taken
          exact absurd c329 (by decide)
        · --42 not
          rw [hQ]
          exact W.vret hx hb hr (fun t ht hW => ⟨⟨E40, rfl, ⟨hI, hKp, ⟨by (try rw [(show xi (E40 0) 21 = y42 from vi_e fy42)]); (try rw [ey1]); first | done | exact (Int.le_trans (Int.le_trans f11 (Int.le_trans (Int.le_add_of_nonneg_right (by decide)) (Int.le_of_eq ty34.symm))) f327) | all_goals omega, by (try rw [(show xi (E40 0) 23 = y3 from vi_e ((kq41 0 23 rfl).trans ((pw37.2 0 23 (fun q9 => absurd q9.2 (Nat.ne_of_beq_eq_false rfl))).trans ((kq8 0 23 rfl).trans fy3))))]); (try rw [ey3]); first | done | exact Int.le_refl _ | all_goals omega, by (try rw [(show xi (E40 0) 22 = y43 from vi_e fy43)]); (try rw [(show xi (E40 0) 23 = y3 from vi_e ((kq41 0 23 rfl).trans ((pw37.2 0 23 (fun q9 => absurd q9.2 (Nat.ne_of_beq_eq_false rfl))).trans ((kq8 0 23 rfl).trans fy3))))]); (try rw [ey2]); (try rw [ey3]); first | done | exact fun q9 => absurd (q9) f326 | all_goals omega, by (try rw [(show xi (E40 0) 22 = y43 from vi_e fy43)]); (try rw [ey2]); first | done | exact fun q9 => absurd (q9) f326 | all_goals omega, clM f14 (ix_lab.mp (by rw [← f30]; omega)) k38 f328 KM.rf (RdM.dead (by show ¬ (xi (E40 0) 22).toInt = -1; rw [show xi (E40 0) 22 = y43 from vi_e fy43]; omega)) KM.rf, RdQ.nf (by show ¬ (xi (E40 0) 22).toInt = -1; rw [show xi (E40 0) 22 = y43 from vi_e fy43]; omega)⟩⟩, by show va_P (dC, dI) vwCl (WX 72 ad E40) t.heap; rw [ht]; exact hP⟩, hS.F ht⟩) hS.2.2 dX13_clause_45
    · --17 not
      have t330 : r28.toInt < 0 := ti_nle c31
      have i331 : -1 ≤ r28.toInt ∧ r28.toInt ≤ -1 := iv_lt_l t330 f29 (il_ 0) (by decide)
      refine lv_aload_n hx hb dX13_clause_20 rfl (lv_at hl 1 rfl) ?_
      refine th_i (va_runV (As := []) (rest := []) ⟨hx, hb, hml, hown, hts⟩ (q_stopX l dC dI cT ad E7 H.size k nl hI (by exact hh0) (by exact hh1) (by exact hh2) (by exact (hKp 0 18 rfl).trans hh3) (by (try rw [hKp.ei 0 19 rfl]); exact hh4)) (cwV 0 hts (gi_V (in_26 _ (zs4 (zs4 (zs4 (zs0))))) (in_26 _ (zs4 (zs4 (zs4 (zs1 (zs0)))))) (in_26 _ (zs4 (zs4 (zs4 (zs1 (zs1 (zs0))))))) (in_24 _ (zs4 (zs4 (zs4 (zs1 (zs1 (zs1 (zs0)))))))) (in_26 _ (zs4 (zs4 (zs4 (zs1 (zs1 (zs1 (zs0))))))))) rfl rfl rfl ⟨rfl, hz_yX13_stop_0⟩ ⟨Nat.le_of_ble_eq_true rfl, Nat.le_of_ble_eq_true rfl⟩) ⟨HW_bl, va_recv hK hP (ci := 14) (q0 := 0) rfl (hI.ob 0 (Nat.le_of_ble_eq_true rfl) rfl), (HW_wi hP hK (WX_D hD) hS hA hEV)⟩ rfl rfl hl.1 rfl (lv_room (Nat.le_of_ble_eq_true rfl)) dX13_clause_21 ⟨Nat.le_of_ble_eq_true rfl, Nat.le_of_ble_eq_true rfl⟩) (WX_D hD) hS hA (fun r332 E333 H locs hw hP hS => ?_)
      obtain ⟨hI, kq334, hw⟩ := hw
      have hKb := hKp
      have hKp := hKp.tr kq334 (wl_sub rfl rfl)
      obtain ⟨y335, ey335⟩ : ∃ y, xi (E333 0) 22 = y := ⟨_, rfl⟩
      have fy335 : xv (E333 0) 22 = .int y335 := (hI.fi 0 (Nat.le_of_ble_eq_true rfl) rfl (Nat.le_of_ble_eq_true rfl) rfl).trans (congrArg Value.int ey335)
      have iy335 : -1 ≤ y335.toInt ∧ y335.toInt ≤ 201 := by rw [← ey335]; exact hI.iv 0 (Nat.le_of_ble_eq_true rfl) rfl (Nat.le_of_ble_eq_true rfl) rfl
      obtain ⟨rfl, f336, f337⟩ := hw
      try rw [(show xi (E7 0) 22 = y2 from vi_e ((kq8 0 22 rfl).trans fy2))] at f336
      try rw [(show xi (E333 0) 22 = y335 from vi_e fy335)] at f336
      refine lv_pop hx hb dX13_clause_24 rfl ?_
      rw [hQ]
      exact W.vret hx hb hr (fun t ht hW => ⟨⟨E333, rfl, ⟨hI, hKp, ⟨by (try rw [(show xi (E333 0) 21 = y9 from vi_e ((kq334 0 21 rfl).trans fy9))]); (try rw [ey1]); first | done | exact f11 | all_goals omega, by (try rw [(show xi (E333 0) 23 = y3 from vi_e ((kq334 0 23 rfl).trans ((kq8 0 23 rfl).trans fy3)))]); (try rw [ey3]); first | done | exact Int.le_refl _ | all_goals omega, by (try rw [(show xi (E333 0) 22 = y335 from vi_e fy335)]); (try rw [(show xi (E333 0) 23 = y3 from vi_e ((kq334 0 23 rfl).trans ((kq8 0 23 rfl).trans fy3)))]); (try rw [ey2]); (try rw [ey3]); first | done | exact fun q9 => absurd (q9) f336 | all_goals omega, by (try rw [(show xi (E333 0) 22 = y335 from vi_e fy335)]); (try rw [ey2]); first | done | exact fun q9 => absurd (q9) f336 | all_goals omega, clM_no f14 (fun q9 => by have q8 := ix_lab.mpr q9; rw [← f30] at q8; omega) f337, RdQ.nf (by show ¬ (xi (E333 0) 22).toInt = -1; rw [show xi (E333 0) 22 = y335 from vi_e fy335]; omega)⟩⟩, by show va_P (dC, dI) vwCl (WX 72 ad E333) t.heap; rw [ht]; exact hP⟩, hS.F ht⟩) hS.2.2 dX13_clause_25
def v_goThroughRW : List Cond := .code yX13_goThrough cX13_goThrough 5 none :: vA
abbrev rm_goThroughRW : Room := { frames := 69, cells := 0, slots := 0, locals := 2760 }
def w_goThroughRW : Nat → Nat → Bool := wl [] [(0, 18), (0, 19), (0, 20), (0, 21), (0, 22), (0, 23), (0, 24), (0, 25), (0, 26)]
set_option maxHeartbeats 4000000 in
set_option maxRecDepth 100000 in
theorem q_goThroughRW (l : Launch) (dC : Nat → ClassId) (dI : Nat → Nat → Nat) (cT : Nat → ClassId) (ad : Nat → Nat) (E : Nat → va_E) (sz : Nat) (a1 : Int32) (a2 : Int32) (a3 : Int32) (hI0 : IX cT shM spM 72 ad E) (hh0 : 0 ≤ a1.toInt ∧ a1.toInt ≤ 3000) (hh1 : 0 ≤ a2.toInt ∧ a2.toInt ≤ 200) (hh2 : 0 ≤ a3.toInt ∧ a3.toInt ≤ 127) : Met l yX13_goThrough v_goThroughRW rm_goThroughRW (va_Pc [.ref (ad 0), .ref (ad 8), .int a1, .int a2, .int a3] (HW dC dI (TYM cT) 72 ad E sz)) (va_Qv (S := Nat → va_E) (fun u => IX cT shM spM 72 ad u ∧ Kp w_goThroughRW E u ∧ ((mFa u = (textS true (mB (xi (E 8)) a1) a2.toNatClampNeg).flt) ∧ (∀ a9 C9, textS true (mB (xi (E 8)) a1) a2.toNatClampNeg = .good a9 C9 → xi (u 0) 25 = wo (mLt E) a3.toInt C9))) (HB dC dI 72 ad) (va_A (WX 72 ad E) sz)) 0 0 (va_A (WX 72 ad E) sz) := by
  refine Met.ofW (cc := cX13_goThrough) (maxL := 5) (ret := none) (by decide) rfl ?_
  intro p e s m args below meth c s₁ B hml hv
  obtain ⟨hargs, hsz, hP, hK, hD0, hEV⟩ := hv
  subst hsz
  have hx := B.exec
  have hb := B.bytes
  have hr := B.returns
  have hts := atoms_spec (ws := v_goThroughRW) B.pre
  have hown : s.vm.findClass RX13 = some m.cls := findClass_of_methodNamed B.named
  have hlocks := B.notSynchronized
  have hinX13 : ∀ w ∈ u_ws RX13 TX13 97, w ∈ v_goThroughRW := fun w h => vA_in _ w (in_X13 w h)
  generalize hAe : va_A (WX 72 ad E) s.heap.size = A at hEV ⊢
  have hA : ∀ q : Nat, s.heap.size ≤ q → A q := fun q h => by rw [← hAe]; exact Or.inr h
  have hD : va_D A (WX 72 ad E) := by rw [← hAe]; exact hD0.self
  have hS : va_S A s.heap s.heap [] := va_S.rf
  have hI := hI0
  have hKp : Kp w_goThroughRW E E := Kp.rf
  have hl := lv_entry ([.ref (ad 0), .ref (ad 8), .int a1, .int a2, .int a3]) (n := 5) (Nat.le_of_ble_eq_true rfl)
  obtain ⟨Q, hQ⟩ : ∃ Q, Q = MQ below (va_Qv (S := Nat → va_E) (fun u => IX cT shM spM 72 ad u ∧ Kp w_goThroughRW E u ∧ ((mFa u = (textS true (mB (xi (E 8)) a1) a2.toNatClampNeg).flt) ∧ (∀ a9 C9, textS true (mB (xi (E 8)) a1) a2.toNatClampNeg = .good a9 C9 → xi (u 0) 25 = wo (mLt E) a3.toInt C9))) (HB dC dI 72 ad) (A)) args s 0 0 (A) := ⟨_, rfl⟩
  rw [← hQ, show entryFrame m args 5 = _ from (congrArg (fun z => entryFrame m z 5) hargs).trans (lg_entry_eq _ _ _)]
  generalize (lg_sl ([.ref (ad 0), .ref (ad 8), .int a1, .int a2, .int a3]) ++ List.replicate (5 - (lg_sl ([.ref (ad 0), .ref (ad 8), .int a1, .int a2, .int a3])).length) Slot.unset).toArray = ls at hl ⊢
  have hl : lv_has ls 5 [(0, .ref (ad 0)), (1, .ref (ad 8)), (2, .int a1), (3, .int a2), (4, .int a3)] := hl
  refine lv_aload_n hx hb dX13_goThrough_0 rfl (lv_at hl 0 rfl) ?_
  refine lv_aload_n hx hb dX13_goThrough_1 rfl (lv_at hl 1 rfl) ?_
  refine th_put (ci := 14) (C := RX13) (T := TX13) (N := 97) (v := .ref (ad 8)) (ty := .array .byte) hx hb hts hinX13 tyX13 tyX13_ok nmX13 hown hK hP (WX_D hD) hS hI 0 (Nat.le_of_ble_eq_true rfl) rfl rfl 18 (Nat.le_of_ble_eq_true rfl) (hts _ (vA_in _ _ (in_26 _ zs0))) (fun _ h9 => h9) rfl (by decide +kernel) rfl rfl (Or.inr rfl) dX13_goThrough_2 (fun H locs E1 pw2 hI hP hS => ?_)
  have hKp := hKp.pw pw2 rfl
  refine lv_aload_n hx hb dX13_goThrough_5 rfl (lv_at hl 0 rfl) ?_
  refine lv_iload_n hx hb dX13_goThrough_6 rfl (lv_at hl 2 rfl) ?_
  refine th_put (ci := 14) (C := RX13) (T := TX13) (N := 97) (v := .int a1) (ty := .int) hx hb hts hinX13 tyX13 tyX13_ok nmX13 hown hK hP (WX_D hD) hS hI 0 (Nat.le_of_ble_eq_true rfl) rfl rfl 19 (Nat.le_of_ble_eq_true rfl) (hts _ (vA_in _ _ (in_26 _ (zs1 (zs0))))) (fun _ h9 => h9) rfl (by decide +kernel) rfl rfl (okI rfl hh0) dX13_goThrough_7 (fun H locs E3 pw4 hI hP hS => ?_)
  have hKp := hKp.pw pw4 rfl
  refine lv_aload_n hx hb dX13_goThrough_10 rfl (lv_at hl 0 rfl) ?_
  refine lv_iload_n hx hb dX13_goThrough_11 rfl (lv_at hl 3 rfl) ?_
  refine th_put (ci := 14) (C := RX13) (T := TX13) (N := 97) (v := .int a2) (ty := .int) hx hb hts hinX13 tyX13 tyX13_ok nmX13 hown hK hP (WX_D hD) hS hI 0 (Nat.le_of_ble_eq_true rfl) rfl rfl 20 (Nat.le_of_ble_eq_true rfl) (hts _ (vA_in _ _ (in_26 _ (zs4 (zs1 (zs1 (zs0))))))) (fun _ h9 => h9) rfl (by decide +kernel) rfl rfl (okI rfl hh1) dX13_goThrough_12 (fun H locs E5 pw6 hI hP hS => ?_)
  have hKp := hKp.pw pw6 rfl
  refine lv_aload_n hx hb dX13_goThrough_15 rfl (lv_at hl 0 rfl) ?_
  refine lv_iload hx hb dX13_goThrough_16 (lv_at hl 4 rfl) ?_
  refine th_put (ci := 14) (C := RX13) (T := TX13) (N := 97) (v := .int a3) (ty := .int) hx hb hts hinX13 tyX13 tyX13_ok nmX13 hown hK hP (WX_D hD) hS hI 0 (Nat.le_of_ble_eq_true rfl) rfl rfl 24 (Nat.le_of_ble_eq_true rfl) (hts _ (vA_in _ _ (in_29 _ (zs4 (zs4 (zs4 (zs0))))))) (fun _ h9 => h9) rfl (by decide +kernel) rfl rfl (okI rfl hh2) dX13_goThrough_18 (fun H locs E7 pw8 hI hP hS => ?_)
  have hKp := hKp.pw pw8 rfl
  refine lv_aload_n hx hb dX13_goThrough_21 rfl (lv_at hl 0 rfl) ?_
  refine lv_iconst (v := 0) hx hb dX13_goThrough_22 (by decide) ?_
  refine th_put (ci := 14) (C := RX13) (T := TX13) (N := 97) (v := .int 0) (ty := .int) hx hb hts hinX13 tyX13 tyX13_ok nmX13 hown hK hP (WX_D hD) hS hI 0 (Nat.le_of_ble_eq_true rfl) rfl rfl 21 (Nat.le_of_ble_eq_true rfl) (hts _ (vA_in _ _ (in_25 _ (zs16 (zs16 (zs4 (zs0))))))) (fun _ h9 => h9) rfl (by decide +kernel) rfl rfl (okI rfl (iv_w ln_0 (by decide))) dX13_goThrough_23 (fun H locs E9 pw10 hI hP hS => ?_)
  have hKp := hKp.pw pw10 rfl
  refine lv_aload_n hx hb dX13_goThrough_26 rfl (lv_at hl 0 rfl) ?_
  refine lv_iconst (v := -1) hx hb dX13_goThrough_27 (by decide) ?_
  refine th_put (ci := 14) (C := RX13) (T := TX13) (N := 97) (v := .int (-1)) (ty := .int) hx hb hts hinX13 tyX13 tyX13_ok nmX13 hown hK hP (WX_D hD) hS hI 0 (Nat.le_of_ble_eq_true rfl) rfl rfl 22 (Nat.le_of_ble_eq_true rfl) (hts _ (vA_in _ _ (in_25 _ (zs16 (zs16 (zs4 (zs1 (zs1 (zs1 (zs0)))))))))) (fun _ h9 => h9) rfl (by decide +kernel) rfl rfl (okI rfl (iv_w ln_m1 (by decide))) dX13_goThrough_28 (fun H locs E11 pw12 hI hP hS => ?_)
  have hKp := hKp.pw pw12 rfl
  refine lv_aload_n hx hb dX13_goThrough_31 rfl (lv_at hl 0 rfl) ?_
  refine lv_iconst (v := 0) hx hb dX13_goThrough_32 (by decide) ?_
  refine th_put (ci := 14) (C := RX13) (T := TX13) (N := 97) (v := .int 0) (ty := .int) hx hb hts hinX13 tyX13 tyX13_ok nmX13 hown hK hP (WX_D hD) hS hI 0 (Nat.le_of_ble_eq_true rfl) rfl rfl 23 (Nat.le_of_ble_eq_true rfl) (hts _ (vA_in _ _ (in_25 _ (zs16 (zs16 (zs4 (zs1 (zs1 (zs0))))))))) (fun _ h9 => h9) rfl (by decide +kernel) rfl rfl (okI rfl (iv_w ln_0 (by decide))) dX13_goThrough_33 (fun H locs E13 pw14 hI hP hS => ?_)
  have hKp := hKp.pw pw14 rfl
  refine lv_aload_n hx hb dX13_goThrough_36 rfl (lv_at hl 0 rfl) ?_
  refine lv_iconst (v := 0) hx hb dX13_goThrough_37 (by decide) ?_
  refine th_put (ci := 14) (C := RX13) (T := TX13) (N := 97) (v := .int 0) (ty := .boolean) hx hb hts hinX13 tyX13 tyX13_ok nmX13 hown hK hP (WX_D hD) hS hI 0 (Nat.le_of_ble_eq_true rfl) rfl rfl 26 (Nat.le_of_ble_eq_true rfl) (hts _ (vA_in _ _ (in_29 _ (zs4 (zs4 (zs4 (zs1 (zs0)))))))) (fun _ h9 => h9) rfl (by decide +kernel) rfl rfl (okI rfl (iv_w ln_0 (by decide))) dX13_goThrough_38 (fun H locs E15 pw16 hI hP hS => ?_)
  have hKp := hKp.pw pw16 rfl
  refine lv_aload_n hx hb dX13_goThrough_41 rfl (lv_at hl 0 rfl) ?_
  refine lv_iload hx hb dX13_goThrough_42 (lv_at hl 4 rfl) ?_
  refine lv_bipush (v := 110) hx hb dX13_goThrough_44 (by decide) ?_
  refine lv_icmp_ne (tgt := 55) hx hb dX13_goThrough_46 (by decide) (fun c17 => ?_) (fun c17 => ?_)
  · --46 taken
    have t18 : ¬ a3.toInt = 110 := ti_ne c17
    refine lv_iconst (v := 0) hx hb dX13_goThrough_55 (by decide) ?_
    refine th_put (ci := 14) (C := RX13) (T := TX13) (N := 97) (v := .int 0) (ty := .int) hx hb hts hinX13 tyX13 tyX13_ok nmX13 hown hK hP (WX_D hD) hS hI 0 (Nat.le_of_ble_eq_true rfl) rfl rfl 25 (Nat.le_of_ble_eq_true rfl) (hts _ (vA_in _ _ (in_29 _ zs0))) (fun _ h9 => h9) rfl (by decide +kernel) rfl rfl (okI rfl (iv_w ln_0 (by decide))) dX13_goThrough_56 (fun H locs E19 pw20 hI hP hS => ?_)
    have hKp := hKp.pw pw20 rfl
    have hk0 : ¬ 8 = 0 := by decide
    have kmt : mT 8 E19 = mB (xi (E 8)) a1 := by show mB (xi (E19 8)) (xi (E19 0) 19) = _; rw [hKp.ef 8 (fun _ => rfl), show xi (E19 0) 19 = a1 from vi_e ((pw20.2 0 19 (fun q9 => absurd q9.2 (Nat.ne_of_beq_eq_false rfl))).trans ((pw16.2 0 19 (fun q9 => absurd q9.2 (Nat.ne_of_beq_eq_false rfl))).trans ((pw14.2 0 19 (fun q9 => absurd q9.2 (Nat.ne_of_beq_eq_false rfl))).trans ((pw12.2 0 19 (fun q9 => absurd q9.2 (Nat.ne_of_beq_eq_false rfl))).trans ((pw10.2 0 19 (fun q9 => absurd q9.2 (Nat.ne_of_beq_eq_false rfl))).trans ((pw8.2 0 19 (fun q9 => absurd q9.2 (Nat.ne_of_beq_eq_false rfl))).trans ((pw6.2 0 19 (fun q9 => absurd q9.2 (Nat.ne_of_beq_eq_false rfl))).trans pw4.1)))))))]
    have kmn : mN E19 = a2.toNatClampNeg := by show (xi (E19 0) 20).toNatClampNeg = _; rw [show xi (E19 0) 20 = a2 from vi_e ((pw20.2 0 20 (fun q9 => absurd q9.2 (Nat.ne_of_beq_eq_false rfl))).trans ((pw16.2 0 20 (fun q9 => absurd q9.2 (Nat.ne_of_beq_eq_false rfl))).trans ((pw14.2 0 20 (fun q9 => absurd q9.2 (Nat.ne_of_beq_eq_false rfl))).trans ((pw12.2 0 20 (fun q9 => absurd q9.2 (Nat.ne_of_beq_eq_false rfl))).trans ((pw10.2 0 20 (fun q9 => absurd q9.2 (Nat.ne_of_beq_eq_false rfl))).trans ((pw8.2 0 20 (fun q9 => absurd q9.2 (Nat.ne_of_beq_eq_false rfl))).trans pw6.1))))))]
    have kf0 : mFa E19 = -1 := by show (xi (E19 0) 22).toInt = -1; rw [show xi (E19 0) 22 = (-1 : Int32) from vi_e ((pw20.2 0 22 (fun q9 => absurd q9.2 (Nat.ne_of_beq_eq_false rfl))).trans ((pw16.2 0 22 (fun q9 => absurd q9.2 (Nat.ne_of_beq_eq_false rfl))).trans ((pw14.2 0 22 (fun q9 => absurd q9.2 (Nat.ne_of_beq_eq_false rfl))).trans pw12.1)))]; rfl
    have ka0 : mA E19 = 0 := by show (xi (E19 0) 21).toNatClampNeg = 0; rw [show xi (E19 0) 21 = (0 : Int32) from vi_e ((pw20.2 0 21 (fun q9 => absurd q9.2 (Nat.ne_of_beq_eq_false rfl))).trans ((pw16.2 0 21 (fun q9 => absurd q9.2 (Nat.ne_of_beq_eq_false rfl))).trans ((pw14.2 0 21 (fun q9 => absurd q9.2 (Nat.ne_of_beq_eq_false rfl))).trans ((pw12.2 0 21 (fun q9 => absurd q9.2 (Nat.ne_of_beq_eq_false rfl))).trans pw10.1))))]; rfl
    have klb : xi (E19 0) 24 = a3 := vi_e ((pw20.2 0 24 (fun q9 => absurd q9.2 (Nat.ne_of_beq_eq_false rfl))).trans ((pw16.2 0 24 (fun q9 => absurd q9.2 (Nat.ne_of_beq_eq_false rfl))).trans ((pw14.2 0 24 (fun q9 => absurd q9.2 (Nat.ne_of_beq_eq_false rfl))).trans ((pw12.2 0 24 (fun q9 => absurd q9.2 (Nat.ne_of_beq_eq_false rfl))).trans ((pw10.2 0 24 (fun q9 => absurd q9.2 (Nat.ne_of_beq_eq_false rfl))).trans pw8.1)))))
    have khf : (xi (E19 0) 26).toInt = 0 := by rw [show xi (E19 0) 26 = (0 : Int32) from vi_e ((pw20.2 0 26 (fun q9 => absurd q9.2 (Nat.ne_of_beq_eq_false rfl))).trans pw16.1)]; rfl
    have kfo : xi (E19 0) 25 = dfl (xi (E19 0) 24).toInt := by rw [klb, show xi (E19 0) 25 = (0 : Int32) from vi_e pw20.1]; exact (if_neg (by omega)).symm
    have k21 : MZ E E19 := MZ.kp hKp (fun _ => rfl)
    have kz0 : MZ E E19 := k21
    refine lv_aload_n hx hb dX13_goThrough_59 rfl (lv_at hl 0 rfl) ?_
    have z0 := ln_0
    have zm1 := ln_m1
    refine th_v (va_runV (As := []) (rest := []) ⟨hx, hb, hml, hown, hts⟩ (q_clauseW l dC dI cT ad E19 H.size 8 3200 hI (by decide) (by rfl) (by exact fun _ => rfl) (by exact ((pw20.2 0 18 (fun q9 => absurd q9.2 (Nat.ne_of_beq_eq_false rfl))).trans ((pw16.2 0 18 (fun q9 => absurd q9.2 (Nat.ne_of_beq_eq_false rfl))).trans ((pw14.2 0 18 (fun q9 => absurd q9.2 (Nat.ne_of_beq_eq_false rfl))).trans ((pw12.2 0 18 (fun q9 => absurd q9.2 (Nat.ne_of_beq_eq_false rfl))).trans ((pw10.2 0 18 (fun q9 => absurd q9.2 (Nat.ne_of_beq_eq_false rfl))).trans ((pw8.2 0 18 (fun q9 => absurd q9.2 (Nat.ne_of_beq_eq_false rfl))).trans ((pw6.2 0 18 (fun q9 => absurd q9.2 (Nat.ne_of_beq_eq_false rfl))).trans ((pw4.2 0 18 (fun q9 => absurd q9.2 (Nat.ne_of_beq_eq_false rfl))).trans pw2.1))))))))) (by (try rw [(show xi (E19 0) 19 = a1 from vi_e ((pw20.2 0 19 (fun q9 => absurd q9.2 (Nat.ne_of_beq_eq_false rfl))).trans ((pw16.2 0 19 (fun q9 => absurd q9.2 (Nat.ne_of_beq_eq_false rfl))).trans ((pw14.2 0 19 (fun q9 => absurd q9.2 (Nat.ne_of_beq_eq_false rfl))).trans ((pw12.2 0 19 (fun q9 => absurd q9.2 (Nat.ne_of_beq_eq_false rfl))).trans ((pw10.2 0 19 (fun q9 => absurd q9.2 (Nat.ne_of_beq_eq_false rfl))).trans ((pw8.2 0 19 (fun q9 => absurd q9.2 (Nat.ne_of_beq_eq_false rfl))).trans ((pw6.2 0 19 (fun q9 => absurd q9.2 (Nat.ne_of_beq_eq_false rfl))).trans pw4.1))))))))]); have h8 := ln_0; have h9 := ln_0; omega) (by (try rw [(show xi (E19 0) 23 = (0 : Int32) from vi_e ((pw20.2 0 23 (fun q9 => absurd q9.2 (Nat.ne_of_beq_eq_false rfl))).trans ((pw16.2 0 23 (fun q9 => absurd q9.2 (Nat.ne_of_beq_eq_false rfl))).trans pw14.1)))]); omega) (by (try rw [(show xi (E19 0) 22 = (-1 : Int32) from vi_e ((pw20.2 0 22 (fun q9 => absurd q9.2 (Nat.ne_of_beq_eq_false rfl))).trans ((pw16.2 0 22 (fun q9 => absurd q9.2 (Nat.ne_of_beq_eq_false rfl))).trans ((pw14.2 0 22 (fun q9 => absurd q9.2 (Nat.ne_of_beq_eq_false rfl))).trans pw12.1))))]); omega)) (cwV 0 hts (gi_V (in_29 _ (zs4 (zs4 (zs4 (zs1 (zs1 (zs0))))))) (in_29 _ (zs4 (zs4 (zs4 (zs1 (zs1 (zs1 (zs0)))))))) (in_29 _ (zs16 (zs0))) (in_24 _ (zs4 (zs4 (zs4 (zs1 (zs1 (zs1 (zs0)))))))) (in_29 _ (zs16 (zs1 (zs0))))) rfl rfl rfl ⟨rfl, hz_yX13_clause_0⟩ ⟨Nat.le_of_ble_eq_true rfl, Nat.le_of_ble_eq_true rfl⟩) ⟨HW_bl, va_recv hK hP (ci := 14) (q0 := 0) rfl (hI.ob 0 (Nat.le_of_ble_eq_true rfl) rfl), (HW_wi hP hK (WX_D hD) hS hA hEV)⟩ rfl rfl hl.1 rfl (lv_room (Nat.le_of_ble_eq_true rfl)) dX13_goThrough_60 ⟨Nat.le_of_ble_eq_true rfl, Nat.le_of_ble_eq_true rfl⟩) (WX_D hD) hS hA (fun E23 H locs hw hP hS => ?_)
    obtain ⟨hI, kq24, hw⟩ := hw
    have hKb := hKp
    have hKp := hKp.tr kq24 (wl_sub rfl rfl)
    obtain ⟨y25, ey25⟩ : ∃ y, xi (E23 0) 21 = y := ⟨_, rfl⟩
    have fy25 : xv (E23 0) 21 = .int y25 := (hI.fi 0 (Nat.le_of_ble_eq_true rfl) rfl (Nat.le_of_ble_eq_true rfl) rfl).trans (congrArg Value.int ey25)
    have iy25 : 0 ≤ y25.toInt ∧ y25.toInt ≤ 201 := by rw [← ey25]; exact hI.iv 0 (Nat.le_of_ble_eq_true rfl) rfl (Nat.le_of_ble_eq_true rfl) rfl
    obtain ⟨y26, ey26⟩ : ∃ y, xi (E23 0) 22 = y := ⟨_, rfl⟩
    have fy26 : xv (E23 0) 22 = .int y26 := (hI.fi 0 (Nat.le_of_ble_eq_true rfl) rfl (Nat.le_of_ble_eq_true rfl) rfl).trans (congrArg Value.int ey26)
    have iy26 : -1 ≤ y26.toInt ∧ y26.toInt ≤ 201 := by rw [← ey26]; exact hI.iv 0 (Nat.le_of_ble_eq_true rfl) rfl (Nat.le_of_ble_eq_true rfl) rfl
    obtain ⟨y27, ey27⟩ : ∃ y, xi (E23 0) 23 = y := ⟨_, rfl⟩
    have fy27 : xv (E23 0) 23 = .int y27 := (hI.fi 0 (Nat.le_of_ble_eq_true rfl) rfl (Nat.le_of_ble_eq_true rfl) rfl).trans (congrArg Value.int ey27)
    have iy27 : 0 ≤ y27.toInt ∧ y27.toInt ≤ 8 := by rw [← ey27]; exact hI.iv 0 (Nat.le_of_ble_eq_true rfl) rfl (Nat.le_of_ble_eq_true rfl) rfl
    have k28 : xi (E23 0) 24 = xi (E19 0) 24 := congrArg vi (kq24 0 24 rfl)
    obtain ⟨f29, f30, f31, f32, f33, f34⟩ := hw
    try rw [(show xi (E19 0) 21 = (0 : Int32) from vi_e ((pw20.2 0 21 (fun q9 => absurd q9.2 (Nat.ne_of_beq_eq_false rfl))).trans ((pw16.2 0 21 (fun q9 => absurd q9.2 (Nat.ne_of_beq_eq_false rfl))).trans ((pw14.2 0 21 (fun q9 => absurd q9.2 (Nat.ne_of_beq_eq_false rfl))).trans ((pw12.2 0 21 (fun q9 => absurd q9.2 (Nat.ne_of_beq_eq_false rfl))).trans pw10.1)))))] at f29
    try rw [(show xi (E23 0) 21 = y25 from vi_e fy25)] at f29
    try rw [(show xi (E19 0) 23 = (0 : Int32) from vi_e ((pw20.2 0 23 (fun q9 => absurd q9.2 (Nat.ne_of_beq_eq_false rfl))).trans ((pw16.2 0 23 (fun q9 => absurd q9.2 (Nat.ne_of_beq_eq_false rfl))).trans pw14.1)))] at f30
    try rw [(show xi (E23 0) 23 = y27 from vi_e fy27)] at f30
    try rw [(show xi (E19 0) 22 = (-1 : Int32) from vi_e ((pw20.2 0 22 (fun q9 => absurd q9.2 (Nat.ne_of_beq_eq_false rfl))).trans ((pw16.2 0 22 (fun q9 => absurd q9.2 (Nat.ne_of_beq_eq_false rfl))).trans ((pw14.2 0 22 (fun q9 => absurd q9.2 (Nat.ne_of_beq_eq_false rfl))).trans pw12.1))))] at f31
    try rw [(show xi (E19 0) 23 = (0 : Int32) from vi_e ((pw20.2 0 23 (fun q9 => absurd q9.2 (Nat.ne_of_beq_eq_false rfl))).trans ((pw16.2 0 23 (fun q9 => absurd q9.2 (Nat.ne_of_beq_eq_false rfl))).trans pw14.1)))] at f31
    try rw [(show xi (E23 0) 22 = y26 from vi_e fy26)] at f31
    try rw [(show xi (E23 0) 23 = y27 from vi_e fy27)] at f31
    try rw [(show xi (E19 0) 22 = (-1 : Int32) from vi_e ((pw20.2 0 22 (fun q9 => absurd q9.2 (Nat.ne_of_beq_eq_false rfl))).trans ((pw16.2 0 22 (fun q9 => absurd q9.2 (Nat.ne_of_beq_eq_false rfl))).trans ((pw14.2 0 22 (fun q9 => absurd q9.2 (Nat.ne_of_beq_eq_false rfl))).trans pw12.1))))] at f32
    try rw [(show xi (E23 0) 22 = y26 from vi_e fy26)] at f32
    have hL63 : ∀ d : Nat, ∀ (w63_0_21 : Int32) (w63_0_22 : Int32) (w63_0_23 : Int32) (E63_ : Nat → va_E) (H : Heap) (locs : List Loc) (ls : Array Slot), 0 ≤ w63_0_21.toInt ∧ w63_0_21.toInt ≤ 201 → -1 ≤ w63_0_22.toInt ∧ w63_0_22.toInt ≤ 201 → 0 ≤ w63_0_23.toInt ∧ w63_0_23.toInt ≤ 8 → (w63_0_22.toInt = -1 → w63_0_23.toInt = 0) → LpM 8 (fun t m a => textL true t m a) (fun t m => opL t m isSem cbC (clauseS true t m)) 0 E19 E63_ → LpQ 8 E19 E63_ → 201 - w63_0_21.toInt < (d : Int) → IX cT shM spM 72 ad E63_ → Kp w_goThroughRW E E63_ → xv (E63_ 0) 21 = .int w63_0_21 → xv (E63_ 0) 22 = .int w63_0_22 → xv (E63_ 0) 23 = .int w63_0_23 → xv (E63_ 0) 18 = .ref (ad 8) → xv (E63_ 0) 19 = .int a1 → xv (E63_ 0) 20 = .int a2 → xv (E63_ 0) 24 = .int a3 → va_P (dC, dI) vwCl (WX 72 ad E63_) H → va_S A s.heap H locs → lv_has ls 5 [(0, .ref (ad 0)), (1, .ref (ad 8)), (2, .int a1), (3, .int a2), (4, .int a3)] → W p l e (headSpec v_goThroughRW rm_goThroughRW).room s m args below meth c H locs 0 0 Q (F0 m 63 ls []) := by
      intro d
      induction d with
      | zero =>
        intro w63_0_21 w63_0_22 w63_0_23 E63_ H locs ls hw63_0_21 hw63_0_22 hw63_0_23 hx63_0 hx63_1 hx63_2 hx63_3 hI hKp hs63_0_21 hs63_0_22 hs63_0_23 hs63_0_18 hs63_0_19 hs63_0_20 hs63_0_24 hP hS hl
        exact absurd hx63_3 (by omega)
      | succ d ih63 =>
        intro w63_0_21 w63_0_22 w63_0_23 E63_ H locs ls hw63_0_21 hw63_0_22 hw63_0_23 hx63_0 hx63_1 hx63_2 hx63_3 hI hKp hs63_0_21 hs63_0_22 hs63_0_23 hs63_0_18 hs63_0_19 hs63_0_20 hs63_0_24 hP hS hl
        refine lv_aload_n hx hb dX13_goThrough_63 rfl (lv_at hl 0 rfl) ?_
        refine th_get (ci := 14) (C := RX13) (T := TX13) (N := 97) (v := .int w63_0_22) hx hb hts hinX13 hown hK hP hI 0 (Nat.le_of_ble_eq_true rfl) rfl rfl 22 (Nat.le_of_ble_eq_true rfl) (hts _ (vA_in _ _ (in_25 _ (zs16 (zs16 (zs4 (zs1 (zs1 (zs1 (zs0)))))))))) (fun _ h9 => h9) hs63_0_22 dX13_goThrough_64 ?_
        refine lv_iconst (v := -1) hx hb dX13_goThrough_67 (by decide) ?_
        refine lv_icmp_ne (tgt := 97) hx hb dX13_goThrough_68 (by decide) (fun c35 => ?_) (fun c35 => ?_)
        · --68 taken
          have t36 : ¬ w63_0_22.toInt = -1 := ti_ne c35
          have i37 : 0 ≤ w63_0_22.toInt ∧ w63_0_22.toInt ≤ 201 := iv_ne_l t36 hw63_0_22 (il_ (-1))
          have k38 : RdM 8 (fun t m a => textL true t m a) E19 E63_ := LpM.exF hx63_1 (by show ¬ (xi (E63_ 0) 22).toInt = -1; rw [show xi (E63_ 0) 22 = w63_0_22 from vi_e hs63_0_22]; omega)
          have k39 : TxQ 8 E19 E63_ := TxQ.nf (by show ¬ (xi (E63_ 0) 22).toInt = -1; rw [show xi (E63_ 0) 22 = w63_0_22 from vi_e hs63_0_22]; omega)
          refine lv_aload_n hx hb dX13_goThrough_97 rfl (lv_at hl 0 rfl) ?_
          refine th_get (ci := 14) (C := RX13) (T := TX13) (N := 97) (v := .int w63_0_22) hx hb hts hinX13 hown hK hP hI 0 (Nat.le_of_ble_eq_true rfl) rfl rfl 22 (Nat.le_of_ble_eq_true rfl) (hts _ (vA_in _ _ (in_25 _ (zs16 (zs16 (zs4 (zs1 (zs1 (zs1 (zs0)))))))))) (fun _ h9 => h9) hs63_0_22 dX13_goThrough_98 ?_
          refine lv_iconst (v := -1) hx hb dX13_goThrough_101 (by decide) ?_
          refine lv_icmp_ne (tgt := 118) hx hb dX13_goThrough_102 (by decide) (fun c40 => ?_) (fun c40 => ?_)
          · --102 taken
            have t41 : ¬ w63_0_22.toInt = -1 := ti_ne c40
            rw [hQ]
            exact W.vret hx hb hr (fun t ht hW => ⟨⟨E63_, rfl, ⟨hI, hKp, ⟨((fltM_f TM.rf kf0 ka0 k38 (by show ¬ (xi (E63_ 0) 22).toInt = -1; rw [show xi (E63_ 0) 22 = w63_0_22 from vi_e hs63_0_22]; omega)).2.trans (by rw [kmt, kmn])), fun a9 C9 hP9 => goQ_nf (fltM_f TM.rf kf0 ka0 k38 (by show ¬ (xi (E63_ 0) 22).toInt = -1; rw [show xi (E63_ 0) 22 = w63_0_22 from vi_e hs63_0_22]; omega)).2 (by show ¬ (xi (E63_ 0) 22).toInt = -1; rw [show xi (E63_ 0) 22 = w63_0_22 from vi_e hs63_0_22]; omega) (by rw [kmt, kmn]; exact hP9)⟩⟩, by show va_P (dC, dI) vwCl (WX 72 ad E63_) t.heap; rw [ht]; exact hP⟩, hS.F ht⟩) hS.2.2 dX13_goThrough_118
          · --102 not
            have t42 : w63_0_22.toInt = -1 := ti_eq c40
            have i43 : 0 ≤ w63_0_22.toInt ∧ w63_0_22.toInt ≤ -1 := iv_eqi t42 i37 (il_ (-1)) (by decide)
            exact iv_no i43 (by decide)
        · --68 not
          have t44 : w63_0_22.toInt = -1 := ti_eq c35
          have i45 : -1 ≤ w63_0_22.toInt ∧ w63_0_22.toInt ≤ -1 := iv_eqi t44 hw63_0_22 (il_ (-1)) (by decide)
          refine lv_aload_n hx hb dX13_goThrough_71 rfl (lv_at hl 0 rfl) ?_
          refine th_i (va_runV (As := []) (rest := []) ⟨hx, hb, hml, hown, hts⟩ (q_lookX l dC dI cT ad E63_ H.size 8 3200 hI (by decide) (by rfl) (by exact fun _ => rfl) (by exact hs63_0_18) (by (try rw [(show xi (E63_ 0) 19 = a1 from vi_e hs63_0_19)]); have h8 := ln_0; have h9 := ln_0; omega)) (cwV 0 hts (gi_V (in_26 _ (zs1 (zs1 (zs0)))) (in_26 _ (zs1 (zs1 (zs1 (zs0))))) (in_26 _ (zs4 (zs0))) (in_24 _ (zs4 (zs4 (zs4 (zs1 (zs1 (zs1 (zs0)))))))) (in_26 _ (zs4 (zs1 (zs0))))) rfl rfl rfl ⟨rfl, hz_yX13_look_0⟩ ⟨Nat.le_of_ble_eq_true rfl, Nat.le_of_ble_eq_true rfl⟩) ⟨HW_bl, va_recv hK hP (ci := 14) (q0 := 0) rfl (hI.ob 0 (Nat.le_of_ble_eq_true rfl) rfl), (HW_wi hP hK (WX_D hD) hS hA hEV)⟩ rfl rfl hl.1 rfl (lv_room (Nat.le_of_ble_eq_true rfl)) dX13_goThrough_72 ⟨Nat.le_of_ble_eq_true rfl, Nat.le_of_ble_eq_true rfl⟩) (WX_D hD) hS hA (fun r46 E47 H locs hw hP hS => ?_)
          obtain ⟨hI, kq48, hw⟩ := hw
          have hKb := hKp
          have hKp := hKp.tr kq48 (wl_sub rfl rfl)
          obtain ⟨y49, ey49⟩ : ∃ y, xi (E47 0) 21 = y := ⟨_, rfl⟩
          have fy49 : xv (E47 0) 21 = .int y49 := (hI.fi 0 (Nat.le_of_ble_eq_true rfl) rfl (Nat.le_of_ble_eq_true rfl) rfl).trans (congrArg Value.int ey49)
          have iy49 : 0 ≤ y49.toInt ∧ y49.toInt ≤ 201 := by rw [← ey49]; exact hI.iv 0 (Nat.le_of_ble_eq_true rfl) rfl (Nat.le_of_ble_eq_true rfl) rfl
          obtain ⟨f50, f51, f52, f53, f54⟩ := hw
          try rw [(show xi (E63_ 0) 21 = w63_0_21 from vi_e hs63_0_21)] at f51
          try rw [(show xi (E47 0) 21 = y49 from vi_e fy49)] at f51
          try rw [(show xi (E63_ 0) 21 = w63_0_21 from vi_e hs63_0_21)] at f52
          try rw [(show xi (E63_ 0) 20 = a2 from vi_e hs63_0_20)] at f52
          try rw [(show xi (E47 0) 21 = y49 from vi_e fy49)] at f52
          try rw [(show xi (E63_ 0) 21 = w63_0_21 from vi_e hs63_0_21)] at f53
          try rw [(show xi (E63_ 0) 20 = a2 from vi_e hs63_0_20)] at f53
          try rw [(show xi (E47 0) 21 = y49 from vi_e fy49)] at f53
          have k55 : FK E63_ E47 := FK.kp kq48 rfl rfl rfl
          refine lv_bipush (v := 59) hx hb dX13_goThrough_75 (by decide) ?_
          refine lv_icmp_ne (tgt := 97) hx hb dX13_goThrough_77 (by decide) (fun c56 => ?_) (fun c56 => ?_)
          · --77 taken
            have t57 : ¬ r46.toInt = 59 := ti_ne c56
            have k58 : RdM 8 (fun t m a => textL true t m a) E19 E47 := LpM.exit (op := isSem) hx63_1 f54 (fun q9 => by have q8 := is_sem.mp q9; omega) (fun t m a c h => opL_0 h)
            have k59 : TxQ 8 E19 E47 := LpQ.exit hx63_1 hx63_2 f54 k55 (fun q9 => by have q8 := is_sem.mp q9; omega)
            refine lv_aload_n hx hb dX13_goThrough_97 rfl (lv_at hl 0 rfl) ?_
            refine th_get (ci := 14) (C := RX13) (T := TX13) (N := 97) (v := .int w63_0_22) hx hb hts hinX13 hown hK hP hI 0 (Nat.le_of_ble_eq_true rfl) rfl rfl 22 (Nat.le_of_ble_eq_true rfl) (hts _ (vA_in _ _ (in_25 _ (zs16 (zs16 (zs4 (zs1 (zs1 (zs1 (zs0)))))))))) (fun _ h9 => h9) ((kq48 0 22 rfl).trans hs63_0_22) dX13_goThrough_98 ?_
            refine lv_iconst (v := -1) hx hb dX13_goThrough_101 (by decide) ?_
            refine lv_icmp_ne (tgt := 118) hx hb dX13_goThrough_102 (by decide) (fun c60 => ?_) (fun c60 => ?_)
            · --102 taken
              have t61 : ¬ w63_0_22.toInt = -1 := ti_ne c60
              have i62 : 0 ≤ w63_0_22.toInt ∧ w63_0_22.toInt ≤ -1 := iv_ne_l t61 i45 (il_ (-1))
              exact iv_no i62 (by decide)
            · --102 not
              have t63 : w63_0_22.toInt = -1 := ti_eq c60
              refine lv_aload_n hx hb dX13_goThrough_105 rfl (lv_at hl 0 rfl) ?_
              refine th_i (va_runV (As := []) (rest := []) ⟨hx, hb, hml, hown, hts⟩ (q_lookX l dC dI cT ad E47 H.size 8 3200 hI (by decide) (by rfl) (by exact fun _ => rfl) (by exact ((kq48 0 18 rfl).trans hs63_0_18)) (by (try rw [(show xi (E47 0) 19 = a1 from vi_e ((kq48 0 19 rfl).trans hs63_0_19))]); have h8 := ln_0; have h9 := ln_0; omega)) (cwV 0 hts (gi_V (in_26 _ (zs1 (zs1 (zs0)))) (in_26 _ (zs1 (zs1 (zs1 (zs0))))) (in_26 _ (zs4 (zs0))) (in_24 _ (zs4 (zs4 (zs4 (zs1 (zs1 (zs1 (zs0)))))))) (in_26 _ (zs4 (zs1 (zs0))))) rfl rfl rfl ⟨rfl, hz_yX13_look_0⟩ ⟨Nat.le_of_ble_eq_true rfl, Nat.le_of_ble_eq_true rfl⟩) ⟨HW_bl, va_recv hK hP (ci := 14) (q0 := 0) rfl (hI.ob 0 (Nat.le_of_ble_eq_true rfl) rfl), (HW_wi hP hK (WX_D hD) hS hA hEV)⟩ rfl rfl hl.1 rfl (lv_room (Nat.le_of_ble_eq_true rfl)) dX13_goThrough_106 ⟨Nat.le_of_ble_eq_true rfl, Nat.le_of_ble_eq_true rfl⟩) (WX_D hD) hS hA (fun r64 E65 H locs hw hP hS => ?_)
              obtain ⟨hI, kq66, hw⟩ := hw
              have hKb := hKp
              have hKp := hKp.tr kq66 (wl_sub rfl rfl)
              obtain ⟨y67, ey67⟩ : ∃ y, xi (E65 0) 21 = y := ⟨_, rfl⟩
              have fy67 : xv (E65 0) 21 = .int y67 := (hI.fi 0 (Nat.le_of_ble_eq_true rfl) rfl (Nat.le_of_ble_eq_true rfl) rfl).trans (congrArg Value.int ey67)
              have iy67 : 0 ≤ y67.toInt ∧ y67.toInt ≤ 201 := by rw [← ey67]; exact hI.iv 0 (Nat.le_of_ble_eq_true rfl) rfl (Nat.le_of_ble_eq_true rfl) rfl
              obtain ⟨f68, f69, f70, f71, f72⟩ := hw
              try rw [(show xi (E47 0) 21 = y49 from vi_e fy49)] at f69
              try rw [(show xi (E65 0) 21 = y67 from vi_e fy67)] at f69
              try rw [(show xi (E47 0) 21 = y49 from vi_e fy49)] at f70
              try rw [(show xi (E47 0) 20 = a2 from vi_e ((kq48 0 20 rfl).trans hs63_0_20))] at f70
              try rw [(show xi (E65 0) 21 = y67 from vi_e fy67)] at f70
              try rw [(show xi (E47 0) 21 = y49 from vi_e fy49)] at f71
              try rw [(show xi (E47 0) 20 = a2 from vi_e ((kq48 0 20 rfl).trans hs63_0_20))] at f71
              try rw [(show xi (E65 0) 21 = y67 from vi_e fy67)] at f71
              have k73 : FK E47 E65 := FK.kp kq66 rfl rfl rfl
              refine lv_iconst (v := -1) hx hb dX13_goThrough_109 (by decide) ?_
              refine lv_icmp_eq (tgt := 118) hx hb dX13_goThrough_110 (by decide) (fun c74 => ?_) (fun c74 => ?_)
              · --110 taken
                have t75 : r64.toInt = -1 := ti_eq c74
                have i76 : -1 ≤ r64.toInt ∧ r64.toInt ≤ -1 := iv_eqi t75 f68 (il_ (-1)) (by decide)
                rw [hQ]
                exact W.vret hx hb hr (fun t ht hW => ⟨⟨E65, rfl, ⟨hI, hKp, ⟨((fltM_ok TM.rf kf0 ka0 k58 (by show (xi (E47 0) 22).toInt = -1; rw [show xi (E47 0) 22 = w63_0_22 from vi_e ((kq48 0 22 rfl).trans hs63_0_22)]; first | exact t63 | omega) f72 (by omega)).2.trans (by rw [kmt, kmn])), fun a9 C9 hP9 => (goQ_ok (k := 8) kf0 ka0 k59 (by show (xi (E47 0) 22).toInt = -1; rw [show xi (E47 0) 22 = w63_0_22 from vi_e ((kq48 0 22 rfl).trans hs63_0_22)]; first | exact t63 | omega) k73.2.1 (by rw [kmt, kmn]; exact hP9)).trans (by rw [show mLt E19 = mLt E from kz0, klb])⟩⟩, by show va_P (dC, dI) vwCl (WX 72 ad E65) t.heap; rw [ht]; exact hP⟩, hS.F ht⟩) hS.2.2 dX13_goThrough_118
              · --110 not
                have t77 : ¬ r64.toInt = -1 := ti_ne c74
                have i78 : 0 ≤ r64.toInt ∧ r64.toInt ≤ 255 := iv_ne_l t77 f68 (il_ (-1))
                refine lv_aload_n hx hb dX13_goThrough_113 rfl (lv_at hl 0 rfl) ?_
                refine th_i (va_runV (As := []) (rest := []) ⟨hx, hb, hml, hown, hts⟩ (q_stopX l dC dI cT ad E65 H.size 8 3200 hI (by decide) (by rfl) (by exact fun _ => rfl) (by exact ((kq66 0 18 rfl).trans ((kq48 0 18 rfl).trans hs63_0_18))) (by (try rw [(show xi (E65 0) 19 = a1 from vi_e ((kq66 0 19 rfl).trans ((kq48 0 19 rfl).trans hs63_0_19)))]); have h8 := ln_0; have h9 := ln_0; omega)) (cwV 0 hts (gi_V (in_26 _ (zs4 (zs4 (zs4 (zs0))))) (in_26 _ (zs4 (zs4 (zs4 (zs1 (zs0)))))) (in_26 _ (zs4 (zs4 (zs4 (zs1 (zs1 (zs0))))))) (in_24 _ (zs4 (zs4 (zs4 (zs1 (zs1 (zs1 (zs0)))))))) (in_26 _ (zs4 (zs4 (zs4 (zs1 (zs1 (zs1 (zs0))))))))) rfl rfl rfl ⟨rfl, hz_yX13_stop_0⟩ ⟨Nat.le_of_ble_eq_true rfl, Nat.le_of_ble_eq_true rfl⟩) ⟨HW_bl, va_recv hK hP (ci := 14) (q0 := 0) rfl (hI.ob 0 (Nat.le_of_ble_eq_true rfl) rfl), (HW_wi hP hK (WX_D hD) hS hA hEV)⟩ rfl rfl hl.1 rfl (lv_room (Nat.le_of_ble_eq_true rfl)) dX13_goThrough_114 ⟨Nat.le_of_ble_eq_true rfl, Nat.le_of_ble_eq_true rfl⟩) (WX_D hD) hS hA (fun r79 E80 H locs hw hP hS => ?_)
                obtain ⟨hI, kq81, hw⟩ := hw
                have hKb := hKp
                have hKp := hKp.tr kq81 (wl_sub rfl rfl)
                obtain ⟨y82, ey82⟩ : ∃ y, xi (E80 0) 22 = y := ⟨_, rfl⟩
                have fy82 : xv (E80 0) 22 = .int y82 := (hI.fi 0 (Nat.le_of_ble_eq_true rfl) rfl (Nat.le_of_ble_eq_true rfl) rfl).trans (congrArg Value.int ey82)
                have iy82 : -1 ≤ y82.toInt ∧ y82.toInt ≤ 201 := by rw [← ey82]; exact hI.iv 0 (Nat.le_of_ble_eq_true rfl) rfl (Nat.le_of_ble_eq_true rfl) rfl
                obtain ⟨rfl, f83, f84⟩ := hw
                try rw [(show xi (E65 0) 22 = w63_0_22 from vi_e ((kq66 0 22 rfl).trans ((kq48 0 22 rfl).trans hs63_0_22)))] at f83
                try rw [(show xi (E80 0) 22 = y82 from vi_e fy82)] at f83
                refine lv_pop hx hb dX13_goThrough_117 rfl ?_
                rw [hQ]
                exact W.vret hx hb hr (fun t ht hW => ⟨⟨E80, rfl, ⟨hI, hKp, ⟨((fltM_no TM.rf kf0 ka0 k58 f72 (by omega) f84).2.trans (by rw [kmt, kmn])), fun a9 C9 hP9 => goQ_nf (fltM_no TM.rf kf0 ka0 k58 f72 (by omega) f84).2 (by show ¬ (xi (E80 0) 22).toInt = -1; rw [show xi (E80 0) 22 = y82 from vi_e fy82]; omega) (by rw [kmt, kmn]; exact hP9)⟩⟩, by show va_P (dC, dI) vwCl (WX 72 ad E80) t.heap; rw [ht]; exact hP⟩, hS.F ht⟩) hS.2.2 dX13_goThrough_118
          · --77 not
            have t85 : r46.toInt = 59 := ti_eq c56
            have i86 : 59 ≤ r46.toInt ∧ r46.toInt ≤ 59 := iv_eqi t85 f50 (il_ 59) (by decide)
            refine lv_aload_n hx hb dX13_goThrough_80 rfl (lv_at hl 0 rfl) ?_
            refine lv_dup hx hb dX13_goThrough_81 rfl ?_
            refine th_get (ci := 14) (C := RX13) (T := TX13) (N := 97) (v := .int y49) hx hb hts hinX13 hown hK hP hI 0 (Nat.le_of_ble_eq_true rfl) rfl rfl 21 (Nat.le_of_ble_eq_true rfl) (hts _ (vA_in _ _ (in_25 _ (zs16 (zs16 (zs4 (zs0))))))) (fun _ h9 => h9) fy49 dX13_goThrough_82 ?_
            refine lv_iconst (v := 1) hx hb dX13_goThrough_85 (by decide) ?_
            refine lv_iadd hx hb dX13_goThrough_86 ?_
            refine lv_topi (fun y87 ey87 => ?_)
            obtain ⟨ty87, iy87⟩ := ti_add (e := 1) (f := 202) iy49 ln_1 ey87 (by decide)
            have ty87 : y87.toInt = y49.toInt + 1 := ty87
            have iy87 : 1 ≤ y87.toInt ∧ y87.toInt ≤ 202 := iy87
            have i88 : 1 ≤ y87.toInt ∧ y87.toInt ≤ 201 := by omega
            refine th_put (ci := 14) (C := RX13) (T := TX13) (N := 97) (v := .int y87) (ty := .int) hx hb hts hinX13 tyX13 tyX13_ok nmX13 hown hK hP (WX_D hD) hS hI 0 (Nat.le_of_ble_eq_true rfl) rfl rfl 21 (Nat.le_of_ble_eq_true rfl) (hts _ (vA_in _ _ (in_25 _ (zs16 (zs16 (zs4 (zs0))))))) (fun _ h9 => h9) rfl (by decide +kernel) rfl rfl (okI rfl (iv_w i88 (by decide))) dX13_goThrough_87 (fun H locs E89 pw90 hI hP hS => ?_)
            have hKp := hKp.pw pw90 rfl
            have k91 : AtM 8 E47 E89 := AtM.pw pw90.2 hk0 (vi_e fy49) (vi_e pw90.1) ty87 (by omega)
            have k92 : FK E63_ E89 := k55.tr (FK.pw pw90 (by decide) (by decide) (by decide))
            have k93 : MZ E E89 := MZ.kp hKp (fun _ => rfl)
            refine lv_aload_n hx hb dX13_goThrough_90 rfl (lv_at hl 0 rfl) ?_
            refine th_v (va_runV (As := []) (rest := []) ⟨hx, hb, hml, hown, hts⟩ (q_clauseW l dC dI cT ad E89 H.size 8 3200 hI (by decide) (by rfl) (by exact fun _ => rfl) (by exact ((pw90.2 0 18 (fun q9 => absurd q9.2 (Nat.ne_of_beq_eq_false rfl))).trans ((kq48 0 18 rfl).trans hs63_0_18))) (by (try rw [(show xi (E89 0) 19 = a1 from vi_e ((pw90.2 0 19 (fun q9 => absurd q9.2 (Nat.ne_of_beq_eq_false rfl))).trans ((kq48 0 19 rfl).trans hs63_0_19)))]); have h8 := ln_0; have h9 := ln_0; omega) (by (try rw [(show xi (E89 0) 23 = w63_0_23 from vi_e ((pw90.2 0 23 (fun q9 => absurd q9.2 (Nat.ne_of_beq_eq_false rfl))).trans ((kq48 0 23 rfl).trans hs63_0_23)))]); omega) (by (try rw [(show xi (E89 0) 22 = w63_0_22 from vi_e ((pw90.2 0 22 (fun q9 => absurd q9.2 (Nat.ne_of_beq_eq_false rfl))).trans ((kq48 0 22 rfl).trans hs63_0_22)))]); omega)) (cwV 0 hts (gi_V (in_29 _ (zs4 (zs4 (zs4 (zs1 (zs1 (zs0))))))) (in_29 _ (zs4 (zs4 (zs4 (zs1 (zs1 (zs1 (zs0)))))))) (in_29 _ (zs16 (zs0))) (in_24 _ (zs4 (zs4 (zs4 (zs1 (zs1 (zs1 (zs0)))))))) (in_29 _ (zs16 (zs1 (zs0))))) rfl rfl rfl ⟨rfl, hz_yX13_clause_0⟩ ⟨Nat.le_of_ble_eq_true rfl, Nat.le_of_ble_eq_true rfl⟩) ⟨HW_bl, va_recv hK hP (ci := 14) (q0 := 0) rfl (hI.ob 0 (Nat.le_of_ble_eq_true rfl) rfl), (HW_wi hP hK (WX_D hD) hS hA hEV)⟩ rfl rfl hl.1 rfl (lv_room (Nat.le_of_ble_eq_true rfl)) dX13_goThrough_91 ⟨Nat.le_of_ble_eq_true rfl, Nat.le_of_ble_eq_true rfl⟩) (WX_D hD) hS hA (fun E95 H locs hw hP hS => ?_)
            obtain ⟨hI, kq96, hw⟩ := hw
            have hKb := hKp
            have hKp := hKp.tr kq96 (wl_sub rfl rfl)
            obtain ⟨y97, ey97⟩ : ∃ y, xi (E95 0) 21 = y := ⟨_, rfl⟩
            have fy97 : xv (E95 0) 21 = .int y97 := (hI.fi 0 (Nat.le_of_ble_eq_true rfl) rfl (Nat.le_of_ble_eq_true rfl) rfl).trans (congrArg Value.int ey97)
            have iy97 : 0 ≤ y97.toInt ∧ y97.toInt ≤ 201 := by rw [← ey97]; exact hI.iv 0 (Nat.le_of_ble_eq_true rfl) rfl (Nat.le_of_ble_eq_true rfl) rfl
            obtain ⟨y98, ey98⟩ : ∃ y, xi (E95 0) 22 = y := ⟨_, rfl⟩
            have fy98 : xv (E95 0) 22 = .int y98 := (hI.fi 0 (Nat.le_of_ble_eq_true rfl) rfl (Nat.le_of_ble_eq_true rfl) rfl).trans (congrArg Value.int ey98)
            have iy98 : -1 ≤ y98.toInt ∧ y98.toInt ≤ 201 := by rw [← ey98]; exact hI.iv 0 (Nat.le_of_ble_eq_true rfl) rfl (Nat.le_of_ble_eq_true rfl) rfl
            obtain ⟨y99, ey99⟩ : ∃ y, xi (E95 0) 23 = y := ⟨_, rfl⟩
            have fy99 : xv (E95 0) 23 = .int y99 := (hI.fi 0 (Nat.le_of_ble_eq_true rfl) rfl (Nat.le_of_ble_eq_true rfl) rfl).trans (congrArg Value.int ey99)
            have iy99 : 0 ≤ y99.toInt ∧ y99.toInt ≤ 8 := by rw [← ey99]; exact hI.iv 0 (Nat.le_of_ble_eq_true rfl) rfl (Nat.le_of_ble_eq_true rfl) rfl
            obtain ⟨f100, f101, f102, f103, f104, f105⟩ := hw
            try rw [(show xi (E89 0) 21 = y87 from vi_e pw90.1)] at f100
            try rw [(show xi (E95 0) 21 = y97 from vi_e fy97)] at f100
            try rw [(show xi (E89 0) 23 = w63_0_23 from vi_e ((pw90.2 0 23 (fun q9 => absurd q9.2 (Nat.ne_of_beq_eq_false rfl))).trans ((kq48 0 23 rfl).trans hs63_0_23)))] at f101
            try rw [(show xi (E95 0) 23 = y99 from vi_e fy99)] at f101
            try rw [(show xi (E89 0) 22 = w63_0_22 from vi_e ((pw90.2 0 22 (fun q9 => absurd q9.2 (Nat.ne_of_beq_eq_false rfl))).trans ((kq48 0 22 rfl).trans hs63_0_22)))] at f102
            try rw [(show xi (E89 0) 23 = w63_0_23 from vi_e ((pw90.2 0 23 (fun q9 => absurd q9.2 (Nat.ne_of_beq_eq_false rfl))).trans ((kq48 0 23 rfl).trans hs63_0_23)))] at f102
            try rw [(show xi (E95 0) 22 = y98 from vi_e fy98)] at f102
            try rw [(show xi (E95 0) 23 = y99 from vi_e fy99)] at f102
            try rw [(show xi (E89 0) 22 = w63_0_22 from vi_e ((pw90.2 0 22 (fun q9 => absurd q9.2 (Nat.ne_of_beq_eq_false rfl))).trans ((kq48 0 22 rfl).trans hs63_0_22)))] at f103
            try rw [(show xi (E95 0) 22 = y98 from vi_e fy98)] at f103
            have k106 : xi (E95 0) 24 = xi (E89 0) 24 := congrArg vi (kq96 0 24 rfl)
            refine lv_goto (tgt := 63) hx hb dX13_goThrough_94 (by decide) ?_
            exact ih63 y97 y98 y99 E95 _ _ _ iy97 iy98 iy99 (by have h90 := iy97; have h91 := iy98; have h92 := iy99; omega) (LpM.step (op := isSem) (cb := cbC) hx63_1 f54 (is_sem.mpr (by omega)) (by show (xi (E63_ 0) 22).toInt = -1; rw [show xi (E63_ 0) 22 = w63_0_22 from vi_e hs63_0_22]; first | exact t63 | omega) k91 f104 KM.rf (by decide) (fun t m => clauseS_mono true t m) (fun t m a c h => opL_1 (clauseS_mono true t m) rfl h)) (LpQ.step hx63_1 hx63_2 f54 (is_sem.mpr (by omega)) k91 k92 (MZ.of kz0 k93) f104 f105 k106) (by omega) hI hKp fy97 fy98 fy99 ((kq96 0 18 rfl).trans ((pw90.2 0 18 (fun q9 => absurd q9.2 (Nat.ne_of_beq_eq_false rfl))).trans ((kq48 0 18 rfl).trans hs63_0_18))) ((kq96 0 19 rfl).trans ((pw90.2 0 19 (fun q9 => absurd q9.2 (Nat.ne_of_beq_eq_false rfl))).trans ((kq48 0 19 rfl).trans hs63_0_19))) ((kq96 0 20 rfl).trans ((pw90.2 0 20 (fun q9 => absurd q9.2 (Nat.ne_of_beq_eq_false rfl))).trans ((kq48 0 20 rfl).trans hs63_0_20))) ((kq96 0 24 rfl).trans ((pw90.2 0 24 (fun q9 => absurd q9.2 (Nat.ne_of_beq_eq_false rfl))).trans ((kq48 0 24 rfl).trans hs63_0_24))) hP hS (lv_sub hl [0, 1, 2, 3, 4] rfl)
    exact hL63 (202) y25 y26 y27 E23 _ _ _ iy25 iy26 iy27 (by have h90 := iy25; have h91 := iy26; have h92 := iy27; omega) (LpM.start f33 lmX (Int.le_refl _)) (LpQ.start f34 khf kfo k28) (by have h9 := iy25; omega) hI hKp fy25 fy26 fy27 ((kq24 0 18 rfl).trans ((pw20.2 0 18 (fun q9 => absurd q9.2 (Nat.ne_of_beq_eq_false rfl))).trans ((pw16.2 0 18 (fun q9 => absurd q9.2 (Nat.ne_of_beq_eq_false rfl))).trans ((pw14.2 0 18 (fun q9 => absurd q9.2 (Nat.ne_of_beq_eq_false rfl))).trans ((pw12.2 0 18 (fun q9 => absurd q9.2 (Nat.ne_of_beq_eq_false rfl))).trans ((pw10.2 0 18 (fun q9 => absurd q9.2 (Nat.ne_of_beq_eq_false rfl))).trans ((pw8.2 0 18 (fun q9 => absurd q9.2 (Nat.ne_of_beq_eq_false rfl))).trans ((pw6.2 0 18 (fun q9 => absurd q9.2 (Nat.ne_of_beq_eq_false rfl))).trans ((pw4.2 0 18 (fun q9 => absurd q9.2 (Nat.ne_of_beq_eq_false rfl))).trans pw2.1))))))))) ((kq24 0 19 rfl).trans ((pw20.2 0 19 (fun q9 => absurd q9.2 (Nat.ne_of_beq_eq_false rfl))).trans ((pw16.2 0 19 (fun q9 => absurd q9.2 (Nat.ne_of_beq_eq_false rfl))).trans ((pw14.2 0 19 (fun q9 => absurd q9.2 (Nat.ne_of_beq_eq_false rfl))).trans ((pw12.2 0 19 (fun q9 => absurd q9.2 (Nat.ne_of_beq_eq_false rfl))).trans ((pw10.2 0 19 (fun q9 => absurd q9.2 (Nat.ne_of_beq_eq_false rfl))).trans ((pw8.2 0 19 (fun q9 => absurd q9.2 (Nat.ne_of_beq_eq_false rfl))).trans ((pw6.2 0 19 (fun q9 => absurd q9.2 (Nat.ne_of_beq_eq_false rfl))).trans pw4.1)))))))) ((kq24 0 20 rfl).trans ((pw20.2 0 20 (fun q9 => absurd q9.2 (Nat.ne_of_beq_eq_false rfl))).trans ((pw16.2 0 20 (fun q9 => absurd q9.2 (Nat.ne_of_beq_eq_false rfl))).trans ((pw14.2 0 20 (fun q9 => absurd q9.2 (Nat.ne_of_beq_eq_false rfl))).trans ((pw12.2 0 20 (fun q9 => absurd q9.2 (Nat.ne_of_beq_eq_false rfl))).trans ((pw10.2 0 20 (fun q9 => absurd q9.2 (Nat.ne_of_beq_eq_false rfl))).trans ((pw8.2 0 20 (fun q9 => absurd q9.2 (Nat.ne_of_beq_eq_false rfl))).trans pw6.1))))))) ((kq24 0 24 rfl).trans ((pw20.2 0 24 (fun q9 => absurd q9.2 (Nat.ne_of_beq_eq_false rfl))).trans ((pw16.2 0 24 (fun q9 => absurd q9.2 (Nat.ne_of_beq_eq_false rfl))).trans ((pw14.2 0 24 (fun q9 => absurd q9.2 (Nat.ne_of_beq_eq_false rfl))).trans ((pw12.2 0 24 (fun q9 => absurd q9.2 (Nat.ne_of_beq_eq_false rfl))).trans ((pw10.2 0 24 (fun q9 => absurd q9.2 (Nat.ne_of_beq_eq_false rfl))).trans pw8.1)))))) hP hS (lv_sub hl [0, 1, 2, 3, 4] rfl)
  · --46 not
    have t107 : a3.toInt = 110 := ti_eq c17
    have i108 : 110 ≤ a3.toInt ∧ a3.toInt ≤ 110 := iv_eqi t107 hh2 (il_ 110) (by decide)
    refine lv_sipush (v := 1000) hx hb dX13_goThrough_49 (by decide) ?_
    refine lv_goto (tgt := 56) hx hb dX13_goThrough_52 (by decide) ?_
    refine th_put (ci := 14) (C := RX13) (T := TX13) (N := 97) (v := .int 1000) (ty := .int) hx hb hts hinX13 tyX13 tyX13_ok nmX13 hown hK hP (WX_D hD) hS hI 0 (Nat.le_of_ble_eq_true rfl) rfl rfl 25 (Nat.le_of_ble_eq_true rfl) (hts _ (vA_in _ _ (in_29 _ zs0))) (fun _ h9 => h9) rfl (by decide +kernel) rfl rfl (okI rfl (iv_w ln_1000 (by decide))) dX13_goThrough_56 (fun H locs E109 pw110 hI hP hS => ?_)
    have hKp := hKp.pw pw110 rfl
    have hk0 : ¬ 8 = 0 := by decide
    have kmt : mT 8 E109 = mB (xi (E 8)) a1 := by show mB (xi (E109 8)) (xi (E109 0) 19) = _; rw [hKp.ef 8 (fun _ => rfl), show xi (E109 0) 19 = a1 from vi_e ((pw110.2 0 19 (fun q9 => absurd q9.2 (Nat.ne_of_beq_eq_false rfl))).trans ((pw16.2 0 19 (fun q9 => absurd q9.2 (Nat.ne_of_beq_eq_false rfl))).trans ((pw14.2 0 19 (fun q9 => absurd q9.2 (Nat.ne_of_beq_eq_false rfl))).trans ((pw12.2 0 19 (fun q9 => absurd q9.2 (Nat.ne_of_beq_eq_false rfl))).trans ((pw10.2 0 19 (fun q9 => absurd q9.2 (Nat.ne_of_beq_eq_false rfl))).trans ((pw8.2 0 19 (fun q9 => absurd q9.2 (Nat.ne_of_beq_eq_false rfl))).trans ((pw6.2 0 19 (fun q9 => absurd q9.2 (Nat.ne_of_beq_eq_false rfl))).trans pw4.1)))))))]
    have kmn : mN E109 = a2.toNatClampNeg := by show (xi (E109 0) 20).toNatClampNeg = _; rw [show xi (E109 0) 20 = a2 from vi_e ((pw110.2 0 20 (fun q9 => absurd q9.2 (Nat.ne_of_beq_eq_false rfl))).trans ((pw16.2 0 20 (fun q9 => absurd q9.2 (Nat.ne_of_beq_eq_false rfl))).trans ((pw14.2 0 20 (fun q9 => absurd q9.2 (Nat.ne_of_beq_eq_false rfl))).trans ((pw12.2 0 20 (fun q9 => absurd q9.2 (Nat.ne_of_beq_eq_false rfl))).trans ((pw10.2 0 20 (fun q9 => absurd q9.2 (Nat.ne_of_beq_eq_false rfl))).trans ((pw8.2 0 20 (fun q9 => absurd q9.2 (Nat.ne_of_beq_eq_false rfl))).trans pw6.1))))))]
    have kf0 : mFa E109 = -1 := by show (xi (E109 0) 22).toInt = -1; rw [show xi (E109 0) 22 = (-1 : Int32) from vi_e ((pw110.2 0 22 (fun q9 => absurd q9.2 (Nat.ne_of_beq_eq_false rfl))).trans ((pw16.2 0 22 (fun q9 => absurd q9.2 (Nat.ne_of_beq_eq_false rfl))).trans ((pw14.2 0 22 (fun q9 => absurd q9.2 (Nat.ne_of_beq_eq_false rfl))).trans pw12.1)))]; rfl
    have ka0 : mA E109 = 0 := by show (xi (E109 0) 21).toNatClampNeg = 0; rw [show xi (E109 0) 21 = (0 : Int32) from vi_e ((pw110.2 0 21 (fun q9 => absurd q9.2 (Nat.ne_of_beq_eq_false rfl))).trans ((pw16.2 0 21 (fun q9 => absurd q9.2 (Nat.ne_of_beq_eq_false rfl))).trans ((pw14.2 0 21 (fun q9 => absurd q9.2 (Nat.ne_of_beq_eq_false rfl))).trans ((pw12.2 0 21 (fun q9 => absurd q9.2 (Nat.ne_of_beq_eq_false rfl))).trans pw10.1))))]; rfl
    have klb : xi (E109 0) 24 = a3 := vi_e ((pw110.2 0 24 (fun q9 => absurd q9.2 (Nat.ne_of_beq_eq_false rfl))).trans ((pw16.2 0 24 (fun q9 => absurd q9.2 (Nat.ne_of_beq_eq_false rfl))).trans ((pw14.2 0 24 (fun q9 => absurd q9.2 (Nat.ne_of_beq_eq_false rfl))).trans ((pw12.2 0 24 (fun q9 => absurd q9.2 (Nat.ne_of_beq_eq_false rfl))).trans ((pw10.2 0 24 (fun q9 => absurd q9.2 (Nat.ne_of_beq_eq_false rfl))).trans pw8.1)))))
    have khf : (xi (E109 0) 26).toInt = 0 := by rw [show xi (E109 0) 26 = (0 : Int32) from vi_e ((pw110.2 0 26 (fun q9 => absurd q9.2 (Nat.ne_of_beq_eq_false rfl))).trans pw16.1)]; rfl
    have kfo : xi (E109 0) 25 = dfl (xi (E109 0) 24).toInt := by rw [klb, show xi (E109 0) 25 = (1000 : Int32) from vi_e pw110.1]; exact (if_pos (by omega)).symm
    have k111 : MZ E E109 := MZ.kp hKp (fun _ => rfl)
    have kz0 : MZ E E109 := k111
    refine lv_aload_n hx hb dX13_goThrough_59 rfl (lv_at hl 0 rfl) ?_
    have z0 := ln_0
    have zm1 := ln_m1
    refine th_v (va_runV (As := []) (rest := []) ⟨hx, hb, hml, hown, hts⟩ (q_clauseW l dC dI cT ad E109 H.size 8 3200 hI (by decide) (by rfl) (by exact fun _ => rfl) (by exact ((pw110.2 0 18 (fun q9 => absurd q9.2 (Nat.ne_of_beq_eq_false rfl))).trans ((pw16.2 0 18 (fun q9 => absurd q9.2 (Nat.ne_of_beq_eq_false rfl))).trans ((pw14.2 0 18 (fun q9 => absurd q9.2 (Nat.ne_of_beq_eq_false rfl))).trans ((pw12.2 0 18 (fun q9 => absurd q9.2 (Nat.ne_of_beq_eq_false rfl))).trans ((pw10.2 0 18 (fun q9 => absurd q9.2 (Nat.ne_of_beq_eq_false rfl))).trans ((pw8.2 0 18 (fun q9 => absurd q9.2 (Nat.ne_of_beq_eq_false rfl))).trans ((pw6.2 0 18 (fun q9 => absurd q9.2 (Nat.ne_of_beq_eq_false rfl))).trans ((pw4.2 0 18 (fun q9 => absurd q9.2 (Nat.ne_of_beq_eq_false rfl))).trans pw2.1))))))))) (by (try rw [(show xi (E109 0) 19 = a1 from vi_e ((pw110.2 0 19 (fun q9 => absurd q9.2 (Nat.ne_of_beq_eq_false rfl))).trans ((pw16.2 0 19 (fun q9 => absurd q9.2 (Nat.ne_of_beq_eq_false rfl))).trans ((pw14.2 0 19 (fun q9 => absurd q9.2 (Nat.ne_of_beq_eq_false rfl))).trans ((pw12.2 0 19 (fun q9 => absurd q9.2 (Nat.ne_of_beq_eq_false rfl))).trans ((pw10.2 0 19 (fun q9 => absurd q9.2 (Nat.ne_of_beq_eq_false rfl))).trans ((pw8.2 0 19 (fun q9 => absurd q9.2 (Nat.ne_of_beq_eq_false rfl))).trans ((pw6.2 0 19 (fun q9 => absurd q9.2 (Nat.ne_of_beq_eq_false rfl))).trans pw4.1))))))))]); have h8 := ln_0; have h9 := ln_0; omega) (by (try rw [(show xi (E109 0) 23 = (0 : Int32) from vi_e ((pw110.2 0 23 (fun q9 => absurd q9.2 (Nat.ne_of_beq_eq_false rfl))).trans ((pw16.2 0 23 (fun q9 => absurd q9.2 (Nat.ne_of_beq_eq_false rfl))).trans pw14.1)))]); omega) (by (try rw [(show xi (E109 0) 22 = (-1 : Int32) from vi_e ((pw110.2 0 22 (fun q9 => absurd q9.2 (Nat.ne_of_beq_eq_false rfl))).trans ((pw16.2 0 22 (fun q9 => absurd q9.2 (Nat.ne_of_beq_eq_false rfl))).trans ((pw14.2 0 22 (fun q9 => absurd q9.2 (Nat.ne_of_beq_eq_false rfl))).trans pw12.1))))]); omega)) (cwV 0 hts (gi_V (in_29 _ (zs4 (zs4 (zs4 (zs1 (zs1 (zs0))))))) (in_29 _ (zs4 (zs4 (zs4 (zs1 (zs1 (zs1 (zs0)))))))) (in_29 _ (zs16 (zs0))) (in_24 _ (zs4 (zs4 (zs4 (zs1 (zs1 (zs1 (zs0)))))))) (in_29 _ (zs16 (zs1 (zs0))))) rfl rfl rfl ⟨rfl, hz_yX13_clause_0⟩ ⟨Nat.le_of_ble_eq_true rfl, Nat.le_of_ble_eq_true rfl⟩) ⟨HW_bl, va_recv hK hP (ci := 14) (q0 := 0) rfl (hI.ob 0 (Nat.le_of_ble_eq_true rfl) rfl), (HW_wi hP hK (WX_D hD) hS hA hEV)⟩ rfl rfl hl.1 rfl (lv_room (Nat.le_of_ble_eq_true rfl)) dX13_goThrough_60 ⟨Nat.le_of_ble_eq_true rfl, Nat.le_of_ble_eq_true rfl⟩) (WX_D hD) hS hA (fun E113 H locs hw hP hS => ?_)
    obtain ⟨hI, kq114, hw⟩ := hw
    have hKb := hKp
    have hKp := hKp.tr kq114 (wl_sub rfl rfl)
    obtain ⟨y115, ey115⟩ : ∃ y, xi (E113 0) 21 = y := ⟨_, rfl⟩
    have fy115 : xv (E113 0) 21 = .int y115 := (hI.fi 0 (Nat.le_of_ble_eq_true rfl) rfl (Nat.le_of_ble_eq_true rfl) rfl).trans (congrArg Value.int ey115)
    have iy115 : 0 ≤ y115.toInt ∧ y115.toInt ≤ 201 := by rw [← ey115]; exact hI.iv 0 (Nat.le_of_ble_eq_true rfl) rfl (Nat.le_of_ble_eq_true rfl) rfl
    obtain ⟨y116, ey116⟩ : ∃ y, xi (E113 0) 22 = y := ⟨_, rfl⟩
    have fy116 : xv (E113 0) 22 = .int y116 := (hI.fi 0 (Nat.le_of_ble_eq_true rfl) rfl (Nat.le_of_ble_eq_true rfl) rfl).trans (congrArg Value.int ey116)
    have iy116 : -1 ≤ y116.toInt ∧ y116.toInt ≤ 201 := by rw [← ey116]; exact hI.iv 0 (Nat.le_of_ble_eq_true rfl) rfl (Nat.le_of_ble_eq_true rfl) rfl
    obtain ⟨y117, ey117⟩ : ∃ y, xi (E113 0) 23 = y := ⟨_, rfl⟩
    have fy117 : xv (E113 0) 23 = .int y117 := (hI.fi 0 (Nat.le_of_ble_eq_true rfl) rfl (Nat.le_of_ble_eq_true rfl) rfl).trans (congrArg Value.int ey117)
    have iy117 : 0 ≤ y117.toInt ∧ y117.toInt ≤ 8 := by rw [← ey117]; exact hI.iv 0 (Nat.le_of_ble_eq_true rfl) rfl (Nat.le_of_ble_eq_true rfl) rfl
    have k118 : xi (E113 0) 24 = xi (E109 0) 24 := congrArg vi (kq114 0 24 rfl)
    obtain ⟨f119, f120, f121, f122, f123, f124⟩ := hw
    try rw [(show xi (E109 0) 21 = (0 : Int32) from vi_e ((pw110.2 0 21 (fun q9 => absurd q9.2 (Nat.ne_of_beq_eq_false rfl))).trans ((pw16.2 0 21 (fun q9 => absurd q9.2 (Nat.ne_of_beq_eq_false rfl))).trans ((pw14.2 0 21 (fun q9 => absurd q9.2 (Nat.ne_of_beq_eq_false rfl))).trans ((pw12.2 0 21 (fun q9 => absurd q9.2 (Nat.ne_of_beq_eq_false rfl))).trans pw10.1)))))] at f119
    try rw [(show xi (E113 0) 21 = y115 from vi_e fy115)] at f119
    try rw [(show xi (E109 0) 23 = (0 : Int32) from vi_e ((pw110.2 0 23 (fun q9 => absurd q9.2 (Nat.ne_of_beq_eq_false rfl))).trans ((pw16.2 0 23 (fun q9 => absurd q9.2 (Nat.ne_of_beq_eq_false rfl))).trans pw14.1)))] at f120
    try rw [(show xi (E113 0) 23 = y117 from vi_e fy117)] at f120
    try rw [(show xi (E109 0) 22 = (-1 : Int32) from vi_e ((pw110.2 0 22 (fun q9 => absurd q9.2 (Nat.ne_of_beq_eq_false rfl))).trans ((pw16.2 0 22 (fun q9 => absurd q9.2 (Nat.ne_of_beq_eq_false rfl))).trans ((pw14.2 0 22 (fun q9 => absurd q9.2 (Nat.ne_of_beq_eq_false rfl))).trans pw12.1))))] at f121
    try rw [(show xi (E109 0) 23 = (0 : Int32) from vi_e ((pw110.2 0 23 (fun q9 => absurd q9.2 (Nat.ne_of_beq_eq_false rfl))).trans ((pw16.2 0 23 (fun q9 => absurd q9.2 (Nat.ne_of_beq_eq_false rfl))).trans pw14.1)))] at f121
    try rw [(show xi (E113 0) 22 = y116 from vi_e fy116)] at f121
    try rw [(show xi (E113 0) 23 = y117 from vi_e fy117)] at f121
    try rw [(show xi (E109 0) 22 = (-1 : Int32) from vi_e ((pw110.2 0 22 (fun q9 => absurd q9.2 (Nat.ne_of_beq_eq_false rfl))).trans ((pw16.2 0 22 (fun q9 => absurd q9.2 (Nat.ne_of_beq_eq_false rfl))).trans ((pw14.2 0 22 (fun q9 => absurd q9.2 (Nat.ne_of_beq_eq_false rfl))).trans pw12.1))))] at f122
    try rw [(show xi (E113 0) 22 = y116 from vi_e fy116)] at f122
    have hL63 : ∀ d : Nat, ∀ (w63_0_21 : Int32) (w63_0_22 : Int32) (w63_0_23 : Int32) (E63_ : Nat → va_E) (H : Heap) (locs : List Loc) (ls : Array Slot), 0 ≤ w63_0_21.toInt ∧ w63_0_21.toInt ≤ 201 → -1 ≤ w63_0_22.toInt ∧ w63_0_22.toInt ≤ 201 → 0 ≤ w63_0_23.toInt ∧ w63_0_23.toInt ≤ 8 → (w63_0_22.toInt = -1 → w63_0_23.toInt = 0) → LpM 8 (fun t m a => textL true t m a) (fun t m => opL t m isSem cbC (clauseS true t m)) 0 E109 E63_ → LpQ 8 E109 E63_ → 201 - w63_0_21.toInt < (d : Int) → IX cT shM spM 72 ad E63_ → Kp w_goThroughRW E E63_ → xv (E63_ 0) 21 = .int w63_0_21 → xv (E63_ 0) 22 = .int w63_0_22 → xv (E63_ 0) 23 = .int w63_0_23 → xv (E63_ 0) 18 = .ref (ad 8) → xv (E63_ 0) 19 = .int a1 → xv (E63_ 0) 20 = .int a2 → xv (E63_ 0) 24 = .int a3 → va_P (dC, dI) vwCl (WX 72 ad E63_) H → va_S A s.heap H locs → lv_has ls 5 [(0, .ref (ad 0)), (1, .ref (ad 8)), (2, .int a1), (3, .int a2), (4, .int a3)] → W p l e (headSpec v_goThroughRW rm_goThroughRW).room s m args below meth c H locs 0 0 Q (F0 m 63 ls []) := by
      intro d
      induction d with
      | zero =>
        intro w63_0_21 w63_0_22 w63_0_23 E63_ H locs ls hw63_0_21 hw63_0_22 hw63_0_23 hx63_0 hx63_1 hx63_2 hx63_3 hI hKp hs63_0_21 hs63_0_22 hs63_0_23 hs63_0_18 hs63_0_19 hs63_0_20 hs63_0_24 hP hS hl
        exact absurd hx63_3 (by omega)
      | succ d ih63 =>
        intro w63_0_21 w63_0_22 w63_0_23 E63_ H locs ls hw63_0_21 hw63_0_22 hw63_0_23 hx63_0 hx63_1 hx63_2 hx63_3 hI hKp hs63_0_21 hs63_0_22 hs63_0_23 hs63_0_18 hs63_0_19 hs63_0_20 hs63_0_24 hP hS hl
        refine lv_aload_n hx hb dX13_goThrough_63 rfl (lv_at hl 0 rfl) ?_
        refine th_get (ci := 14) (C := RX13) (T := TX13) (N := 97) (v := .int w63_0_22) hx hb hts hinX13 hown hK hP hI 0 (Nat.le_of_ble_eq_true rfl) rfl rfl 22 (Nat.le_of_ble_eq_true rfl) (hts _ (vA_in _ _ (in_25 _ (zs16 (zs16 (zs4 (zs1 (zs1 (zs1 (zs0)))))))))) (fun _ h9 => h9) hs63_0_22 dX13_goThrough_64 ?_
        refine lv_iconst (v := -1) hx hb dX13_goThrough_67 (by decide) ?_
        refine lv_icmp_ne (tgt := 97) hx hb dX13_goThrough_68 (by decide) (fun c125 => ?_) (fun c125 => ?_)
        · --68 taken
          have t126 : ¬ w63_0_22.toInt = -1 := ti_ne c125
          have i127 : 0 ≤ w63_0_22.toInt ∧ w63_0_22.toInt ≤ 201 := iv_ne_l t126 hw63_0_22 (il_ (-1))
          have k128 : RdM 8 (fun t m a => textL true t m a) E109 E63_ := LpM.exF hx63_1 (by show ¬ (xi (E63_ 0) 22).toInt = -1; rw [show xi (E63_ 0) 22 = w63_0_22 from vi_e hs63_0_22]; omega)
          have k129 : TxQ 8 E109 E63_ := TxQ.nf (by show ¬ (xi (E63_ 0) 22).toInt = -1; rw [show xi (E63_ 0) 22 = w63_0_22 from vi_e hs63_0_22]; omega)
          refine lv_aload_n hx hb dX13_goThrough_97 rfl (lv_at hl 0 rfl) ?_
          refine th_get (ci := 14) (C := RX13) (T := TX13) (N := 97) (v := .int w63_0_22) hx hb hts hinX13 hown hK hP hI 0 (Nat.le_of_ble_eq_true rfl) rfl rfl 22 (Nat.le_of_ble_eq_true rfl) (hts _ (vA_in _ _ (in_25 _ (zs16 (zs16 (zs4 (zs1 (zs1 (zs1 (zs0)))))))))) (fun _ h9 => h9) hs63_0_22 dX13_goThrough_98 ?_
          refine lv_iconst (v := -1) hx hb dX13_goThrough_101 (by decide) ?_
          refine lv_icmp_ne (tgt := 118) hx hb dX13_goThrough_102 (by decide) (fun c130 => ?_) (fun c130 => ?_)
          · --102 taken
            have t131 : ¬ w63_0_22.toInt = -1 := ti_ne c130
            rw [hQ]
            exact W.vret hx hb hr (fun t ht hW => ⟨⟨E63_, rfl, ⟨hI, hKp, ⟨((fltM_f TM.rf kf0 ka0 k128 (by show ¬ (xi (E63_ 0) 22).toInt = -1; rw [show xi (E63_ 0) 22 = w63_0_22 from vi_e hs63_0_22]; omega)).2.trans (by rw [kmt, kmn])), fun a9 C9 hP9 => goQ_nf (fltM_f TM.rf kf0 ka0 k128 (by show ¬ (xi (E63_ 0) 22).toInt = -1; rw [show xi (E63_ 0) 22 = w63_0_22 from vi_e hs63_0_22]; omega)).2 (by show ¬ (xi (E63_ 0) 22).toInt = -1; rw [show xi (E63_ 0) 22 = w63_0_22 from vi_e hs63_0_22]; omega) (by rw [kmt, kmn]; exact hP9)⟩⟩, by show va_P (dC, dI) vwCl (WX 72 ad E63_) t.heap; rw [ht]; exact hP⟩, hS.F ht⟩) hS.2.2 dX13_goThrough_118
          · --102 not
            have t132 : w63_0_22.toInt = -1 := ti_eq c130
            have i133 : 0 ≤ w63_0_22.toInt ∧ w63_0_22.toInt ≤ -1 := iv_eqi t132 i127 (il_ (-1)) (by decide)
            exact iv_no i133 (by decide)
        · --68 not
          have t134 : w63_0_22.toInt = -1 := ti_eq c125
          have i135 : -1 ≤ w63_0_22.toInt ∧ w63_0_22.toInt ≤ -1 := iv_eqi t134 hw63_0_22 (il_ (-1)) (by decide)
          refine lv_aload_n hx hb dX13_goThrough_71 rfl (lv_at hl 0 rfl) ?_
          refine th_i (va_runV (As := []) (rest := []) ⟨hx, hb, hml, hown, hts⟩ (q_lookX l dC dI cT ad E63_ H.size 8 3200 hI (by decide) (by rfl) (by exact fun _ => rfl) (by exact hs63_0_18) (by (try rw [(show xi (E63_ 0) 19 = a1 from vi_e hs63_0_19)]); have h8 := ln_0; have h9 := ln_0; omega)) (cwV 0 hts (gi_V (in_26 _ (zs1 (zs1 (zs0)))) (in_26 _ (zs1 (zs1 (zs1 (zs0))))) (in_26 _ (zs4 (zs0))) (in_24 _ (zs4 (zs4 (zs4 (zs1 (zs1 (zs1 (zs0)))))))) (in_26 _ (zs4 (zs1 (zs0))))) rfl rfl rfl ⟨rfl, hz_yX13_look_0⟩ ⟨Nat.le_of_ble_eq_true rfl, Nat.le_of_ble_eq_true rfl⟩) ⟨HW_bl, va_recv hK hP (ci := 14) (q0 := 0) rfl (hI.ob 0 (Nat.le_of_ble_eq_true rfl) rfl), (HW_wi hP hK (WX_D hD) hS hA hEV)⟩ rfl rfl hl.1 rfl (lv_room (Nat.le_of_ble_eq_true rfl)) dX13_goThrough_72 ⟨Nat.le_of_ble_eq_true rfl, Nat.le_of_ble_eq_true rfl⟩) (WX_D hD) hS hA (fun r136 E137 H locs hw hP hS => ?_)
          obtain ⟨hI, kq138, hw⟩ := hw
          have hKb := hKp
          have hKp := hKp.tr kq138 (wl_sub rfl rfl)
          obtain ⟨y139, ey139⟩ : ∃ y, xi (E137 0) 21 = y := ⟨_, rfl⟩
          have fy139 : xv (E137 0) 21 = .int y139 := (hI.fi 0 (Nat.le_of_ble_eq_true rfl) rfl (Nat.le_of_ble_eq_true rfl) rfl).trans (congrArg Value.int ey139)
          have iy139 : 0 ≤ y139.toInt ∧ y139.toInt ≤ 201 := by rw [← ey139]; exact hI.iv 0 (Nat.le_of_ble_eq_true rfl) rfl (Nat.le_of_ble_eq_true rfl) rfl
          obtain ⟨f140, f141, f142, f143, f144⟩ := hw
          try rw [(show xi (E63_ 0) 21 = w63_0_21 from vi_e hs63_0_21)] at f141
          try rw [(show xi (E137 0) 21 = y139 from vi_e fy139)] at f141
          try rw [(show xi (E63_ 0) 21 = w63_0_21 from vi_e hs63_0_21)] at f142
          try rw [(show xi (E63_ 0) 20 = a2 from vi_e hs63_0_20)] at f142
          try rw [(show xi (E137 0) 21 = y139 from vi_e fy139)] at f142
          try rw [(show xi (E63_ 0) 21 = w63_0_21 from vi_e hs63_0_21)] at f143
          try rw [(show xi (E63_ 0) 20 = a2 from vi_e hs63_0_20)] at f143
          try rw [(show xi (E137 0) 21 = y139 from vi_e fy139)] at f143
          have k145 : FK E63_ E137 := FK.kp kq138 rfl rfl rfl
          refine lv_bipush (v := 59) hx hb dX13_goThrough_75 (by decide) ?_
          refine lv_icmp_ne (tgt := 97) hx hb dX13_goThrough_77 (by decide) (fun c146 => ?_) (fun c146 => ?_)
          · --77 taken
            have t147 : ¬ r136.toInt = 59 := ti_ne c146
            have k148 : RdM 8 (fun t m a => textL true t m a) E109 E137 := LpM.exit (op := isSem) hx63_1 f144 (fun q9 => by have q8 := is_sem.mp q9; omega) (fun t m a c h => opL_0 h)
            have k149 : TxQ 8 E109 E137 := LpQ.exit hx63_1 hx63_2 f144 k145 (fun q9 => by have q8 := is_sem.mp q9; omega)
            refine lv_aload_n hx hb dX13_goThrough_97 rfl (lv_at hl 0 rfl) ?_
            refine th_get (ci := 14) (C := RX13) (T := TX13) (N := 97) (v := .int w63_0_22) hx hb hts hinX13 hown hK hP hI 0 (Nat.le_of_ble_eq_true rfl) rfl rfl 22 (Nat.le_of_ble_eq_true rfl) (hts _ (vA_in _ _ (in_25 _ (zs16 (zs16 (zs4 (zs1 (zs1 (zs1 (zs0)))))))))) (fun _ h9 => h9) ((kq138 0 22 rfl).trans hs63_0_22) dX13_goThrough_98 ?_
            refine lv_iconst (v := -1) hx hb dX13_goThrough_101 (by decide) ?_
            refine lv_icmp_ne (tgt := 118) hx hb dX13_goThrough_102 (by decide) (fun c150 => ?_) (fun c150 => ?_)
            · --102 taken
              have t151 : ¬ w63_0_22.toInt = -1 := ti_ne c150
              have i152 : 0 ≤ w63_0_22.toInt ∧ w63_0_22.toInt ≤ -1 := iv_ne_l t151 i135 (il_ (-1))
              exact iv_no i152 (by decide)
            · --102 not
              have t153 : w63_0_22.toInt = -1 := ti_eq c150
              refine lv_aload_n hx hb dX13_goThrough_105 rfl (lv_at hl 0 rfl) ?_
              refine th_i (va_runV (As := []) (rest := []) ⟨hx, hb, hml, hown, hts⟩ (q_lookX l dC dI cT ad E137 H.size 8 3200 hI (by decide) (by rfl) (by exact fun _ => rfl) (by exact ((kq138 0 18 rfl).trans hs63_0_18)) (by (try rw [(show xi (E137 0) 19 = a1 from vi_e ((kq138 0 19 rfl).trans hs63_0_19))]); have h8 := ln_0; have h9 := ln_0; omega)) (cwV 0 hts (gi_V (in_26 _ (zs1 (zs1 (zs0)))) (in_26 _ (zs1 (zs1 (zs1 (zs0))))) (in_26 _ (zs4 (zs0))) (in_24 _ (zs4 (zs4 (zs4 (zs1 (zs1 (zs1 (zs0)))))))) (in_26 _ (zs4 (zs1 (zs0))))) rfl rfl rfl ⟨rfl, hz_yX13_look_0⟩ ⟨Nat.le_of_ble_eq_true rfl, Nat.le_of_ble_eq_true rfl⟩) ⟨HW_bl, va_recv hK hP (ci := 14) (q0 := 0) rfl (hI.ob 0 (Nat.le_of_ble_eq_true rfl) rfl), (HW_wi hP hK (WX_D hD) hS hA hEV)⟩ rfl rfl hl.1 rfl (lv_room (Nat.le_of_ble_eq_true rfl)) dX13_goThrough_106 ⟨Nat.le_of_ble_eq_true rfl, Nat.le_of_ble_eq_true rfl⟩) (WX_D hD) hS hA (fun r154 E155 H locs hw hP hS => ?_)
              obtain ⟨hI, kq156, hw⟩ := hw
              have hKb := hKp
              have hKp := hKp.tr kq156 (wl_sub rfl rfl)
              obtain ⟨y157, ey157⟩ : ∃ y, xi (E155 0) 21 = y := ⟨_, rfl⟩
              have fy157 : xv (E155 0) 21 = .int y157 := (hI.fi 0 (Nat.le_of_ble_eq_true rfl) rfl (Nat.le_of_ble_eq_true rfl) rfl).trans (congrArg Value.int ey157)
              have iy157 : 0 ≤ y157.toInt ∧ y157.toInt ≤ 201 := by rw [← ey157]; exact hI.iv 0 (Nat.le_of_ble_eq_true rfl) rfl (Nat.le_of_ble_eq_true rfl) rfl
              obtain ⟨f158, f159, f160, f161, f162⟩ := hw
              try rw [(show xi (E137 0) 21 = y139 from vi_e fy139)] at f159
              try rw [(show xi (E155 0) 21 = y157 from vi_e fy157)] at f159
              try rw [(show xi (E137 0) 21 = y139 from vi_e fy139)] at f160
              try rw [(show xi (E137 0) 20 = a2 from vi_e ((kq138 0 20 rfl).trans hs63_0_20))] at f160
              try rw [(show xi (E155 0) 21 = y157 from vi_e fy157)] at f160
              try rw [(show xi (E137 0) 21 = y139 from vi_e fy139)] at f161
              try rw [(show xi (E137 0) 20 = a2 from vi_e ((kq138 0 20 rfl).trans hs63_0_20))] at f161
              try rw [(show xi (E155 0) 21 = y157 from vi_e fy157)] at f161
              have k163 : FK E137 E155 := FK.kp kq156 rfl rfl rfl
              refine lv_iconst (v := -1) hx hb dX13_goThrough_109 (by decide) ?_
              refine lv_icmp_eq (tgt := 118) hx hb dX13_goThrough_110 (by decide) (fun c164 => ?_) (fun c164 => ?_)
              · --110 taken
                have t165 : r154.toInt = -1 := ti_eq c164
                have i166 : -1 ≤ r154.toInt ∧ r154.toInt ≤ -1 := iv_eqi t165 f158 (il_ (-1)) (by decide)
                rw [hQ]
                exact W.vret hx hb hr (fun t ht hW => ⟨⟨E155, rfl, ⟨hI, hKp, ⟨((fltM_ok TM.rf kf0 ka0 k148 (by show (xi (E137 0) 22).toInt = -1; rw [show xi (E137 0) 22 = w63_0_22 from vi_e ((kq138 0 22 rfl).trans hs63_0_22)]; first | exact t153 | omega) f162 (by omega)).2.trans (by rw [kmt, kmn])), fun a9 C9 hP9 => (goQ_ok (k := 8) kf0 ka0 k149 (by show (xi (E137 0) 22).toInt = -1; rw [show xi (E137 0) 22 = w63_0_22 from vi_e ((kq138 0 22 rfl).trans hs63_0_22)]; first | exact t153 | omega) k163.2.1 (by rw [kmt, kmn]; exact hP9)).trans (by rw [show mLt E109 = mLt E from kz0, klb])⟩⟩, by show va_P (dC, dI) vwCl (WX 72 ad E155) t.heap; rw [ht]; exact hP⟩, hS.F ht⟩) hS.2.2 dX13_goThrough_118
              · --110 not
                have t167 : ¬ r154.toInt = -1 := ti_ne c164
                have i168 : 0 ≤ r154.toInt ∧ r154.toInt ≤ 255 := iv_ne_l t167 f158 (il_ (-1))
                refine lv_aload_n hx hb dX13_goThrough_113 rfl (lv_at hl 0 rfl) ?_
                refine th_i (va_runV (As := []) (rest := []) ⟨hx, hb, hml, hown, hts⟩ (q_stopX l dC dI cT ad E155 H.size 8 3200 hI (by decide) (by rfl) (by exact fun _ => rfl) (by exact ((kq156 0 18 rfl).trans ((kq138 0 18 rfl).trans hs63_0_18))) (by (try rw [(show xi (E155 0) 19 = a1 from vi_e ((kq156 0 19 rfl).trans ((kq138 0 19 rfl).trans hs63_0_19)))]); have h8 := ln_0; have h9 := ln_0; omega)) (cwV 0 hts (gi_V (in_26 _ (zs4 (zs4 (zs4 (zs0))))) (in_26 _ (zs4 (zs4 (zs4 (zs1 (zs0)))))) (in_26 _ (zs4 (zs4 (zs4 (zs1 (zs1 (zs0))))))) (in_24 _ (zs4 (zs4 (zs4 (zs1 (zs1 (zs1 (zs0)))))))) (in_26 _ (zs4 (zs4 (zs4 (zs1 (zs1 (zs1 (zs0))))))))) rfl rfl rfl ⟨rfl, hz_yX13_stop_0⟩ ⟨Nat.le_of_ble_eq_true rfl, Nat.le_of_ble_eq_true rfl⟩) ⟨HW_bl, va_recv hK hP (ci := 14) (q0 := 0) rfl (hI.ob 0 (Nat.le_of_ble_eq_true rfl) rfl), (HW_wi hP hK (WX_D hD) hS hA hEV)⟩ rfl rfl hl.1 rfl (lv_room (Nat.le_of_ble_eq_true rfl)) dX13_goThrough_114 ⟨Nat.le_of_ble_eq_true rfl, Nat.le_of_ble_eq_true rfl⟩) (WX_D hD) hS hA (fun r169 E170 H locs hw hP hS => ?_)
                obtain ⟨hI, kq171, hw⟩ := hw
                have hKb := hKp
                have hKp := hKp.tr kq171 (wl_sub rfl rfl)
                obtain ⟨y172, ey172⟩ : ∃ y, xi (E170 0) 22 = y := ⟨_, rfl⟩
                have fy172 : xv (E170 0) 22 = .int y172 := (hI.fi 0 (Nat.le_of_ble_eq_true rfl) rfl (Nat.le_of_ble_eq_true rfl) rfl).trans (congrArg Value.int ey172)
                have iy172 : -1 ≤ y172.toInt ∧ y172.toInt ≤ 201 := by rw [← ey172]; exact hI.iv 0 (Nat.le_of_ble_eq_true rfl) rfl (Nat.le_of_ble_eq_true rfl) rfl
                obtain ⟨rfl, f173, f174⟩ := hw
                try rw [(show xi (E155 0) 22 = w63_0_22 from vi_e ((kq156 0 22 rfl).trans ((kq138 0 22 rfl).trans hs63_0_22)))] at f173
                try rw [(show xi (E170 0) 22 = y172 from vi_e fy172)] at f173
                refine lv_pop hx hb dX13_goThrough_117 rfl ?_
                rw [hQ]
                exact W.vret hx hb hr (fun t ht hW => ⟨⟨E170, rfl, ⟨hI, hKp, ⟨((fltM_no TM.rf kf0 ka0 k148 f162 (by omega) f174).2.trans (by rw [kmt, kmn])), fun a9 C9 hP9 => goQ_nf (fltM_no TM.rf kf0 ka0 k148 f162 (by omega) f174).2 (by show ¬ (xi (E170 0) 22).toInt = -1; rw [show xi (E170 0) 22 = y172 from vi_e fy172]; omega) (by rw [kmt, kmn]; exact hP9)⟩⟩, by show va_P (dC, dI) vwCl (WX 72 ad E170) t.heap; rw [ht]; exact hP⟩, hS.F ht⟩) hS.2.2 dX13_goThrough_118
          · --77 not
            have t175 : r136.toInt = 59 := ti_eq c146
            have i176 : 59 ≤ r136.toInt ∧ r136.toInt ≤ 59 := iv_eqi t175 f140 (il_ 59) (by decide)
            refine lv_aload_n hx hb dX13_goThrough_80 rfl (lv_at hl 0 rfl) ?_
            refine lv_dup hx hb dX13_goThrough_81 rfl ?_
            refine th_get (ci := 14) (C := RX13) (T := TX13) (N := 97) (v := .int y139) hx hb hts hinX13 hown hK hP hI 0 (Nat.le_of_ble_eq_true rfl) rfl rfl 21 (Nat.le_of_ble_eq_true rfl) (hts _ (vA_in _ _ (in_25 _ (zs16 (zs16 (zs4 (zs0))))))) (fun _ h9 => h9) fy139 dX13_goThrough_82 ?_
            refine lv_iconst (v := 1) hx hb dX13_goThrough_85 (by decide) ?_
            refine lv_iadd hx hb dX13_goThrough_86 ?_
            refine lv_topi (fun y177 ey177 => ?_)
            obtain ⟨ty177, iy177⟩ := ti_add (e := 1) (f := 202) iy139 ln_1 ey177 (by decide)
            have ty177 : y177.toInt = y139.toInt + 1 := ty177
            have iy177 : 1 ≤ y177.toInt ∧ y177.toInt ≤ 202 := iy177
            have i178 : 1 ≤ y177.toInt ∧ y177.toInt ≤ 201 := by omega
            refine th_put (ci := 14) (C := RX13) (T := TX13) (N := 97) (v := .int y177) (ty := .int) hx hb hts hinX13 tyX13 tyX13_ok nmX13 hown hK hP (WX_D hD) hS hI 0 (Nat.le_of_ble_eq_true rfl) rfl rfl 21 (Nat.le_of_ble_eq_true rfl) (hts _ (vA_in _ _ (in_25 _ (zs16 (zs16 (zs4 (zs0))))))) (fun _ h9 => h9) rfl (by decide +kernel) rfl rfl (okI rfl (iv_w i178 (by decide))) dX13_goThrough_87 (fun H locs E179 pw180 hI hP hS => ?_)
            have hKp := hKp.pw pw180 rfl
            have k181 : AtM 8 E137 E179 := AtM.pw pw180.2 hk0 (vi_e fy139) (vi_e pw180.1) ty177 (by omega)
            have k182 : FK E63_ E179 := k145.tr (FK.pw pw180 (by decide) (by decide) (by decide))
            have k183 : MZ E E179 := MZ.kp hKp (fun _ => rfl)
            refine lv_aload_n hx hb dX13_goThrough_90 rfl (lv_at hl 0 rfl) ?_
            refine th_v (va_runV (As := []) (rest := []) ⟨hx, hb, hml, hown, hts⟩ (q_clauseW l dC dI cT ad E179 H.size 8 3200 hI (by decide) (by rfl) (by exact fun _ => rfl) (by exact ((pw180.2 0 18 (fun q9 => absurd q9.2 (Nat.ne_of_beq_eq_false rfl))).trans ((kq138 0 18 rfl).trans hs63_0_18))) (by (try rw [(show xi (E179 0) 19 = a1 from vi_e ((pw180.2 0 19 (fun q9 => absurd q9.2 (Nat.ne_of_beq_eq_false rfl))).trans ((kq138 0 19 rfl).trans hs63_0_19)))]); have h8 := ln_0; have h9 := ln_0; omega) (by (try rw [(show xi (E179 0) 23 = w63_0_23 from vi_e ((pw180.2 0 23 (fun q9 => absurd q9.2 (Nat.ne_of_beq_eq_false rfl))).trans ((kq138 0 23 rfl).trans hs63_0_23)))]); omega) (by (try rw [(show xi (E179 0) 22 = w63_0_22 from vi_e ((pw180.2 0 22 (fun q9 => absurd q9.2 (Nat.ne_of_beq_eq_false rfl))).trans ((kq138 0 22 rfl).trans hs63_0_22)))]); omega)) (cwV 0 hts (gi_V (in_29 _ (zs4 (zs4 (zs4 (zs1 (zs1 (zs0))))))) (in_29 _ (zs4 (zs4 (zs4 (zs1 (zs1 (zs1 (zs0)))))))) (in_29 _ (zs16 (zs0))) (in_24 _ (zs4 (zs4 (zs4 (zs1 (zs1 (zs1 (zs0)))))))) (in_29 _ (zs16 (zs1 (zs0))))) rfl rfl rfl ⟨rfl, hz_yX13_clause_0⟩ ⟨Nat.le_of_ble_eq_true rfl, Nat.le_of_ble_eq_true rfl⟩) ⟨HW_bl, va_recv hK hP (ci := 14) (q0 := 0) rfl (hI.ob 0 (Nat.le_of_ble_eq_true rfl) rfl), (HW_wi hP hK (WX_D hD) hS hA hEV)⟩ rfl rfl hl.1 rfl (lv_room (Nat.le_of_ble_eq_true rfl)) dX13_goThrough_91 ⟨Nat.le_of_ble_eq_true rfl, Nat.le_of_ble_eq_true rfl⟩) (WX_D hD) hS hA (fun E185 H locs hw hP hS => ?_)
            obtain ⟨hI, kq186, hw⟩ := hw
            have hKb := hKp
            have hKp := hKp.tr kq186 (wl_sub rfl rfl)
            obtain ⟨y187, ey187⟩ : ∃ y, xi (E185 0) 21 = y := ⟨_, rfl⟩
            have fy187 : xv (E185 0) 21 = .int y187 := (hI.fi 0 (Nat.le_of_ble_eq_true rfl) rfl (Nat.le_of_ble_eq_true rfl) rfl).trans (congrArg Value.int ey187)
            have iy187 : 0 ≤ y187.toInt ∧ y187.toInt ≤ 201 := by rw [← ey187]; exact hI.iv 0 (Nat.le_of_ble_eq_true rfl) rfl (Nat.le_of_ble_eq_true rfl) rfl
            obtain ⟨y188, ey188⟩ : ∃ y, xi (E185 0) 22 = y := ⟨_, rfl⟩
            have fy188 : xv (E185 0) 22 = .int y188 := (hI.fi 0 (Nat.le_of_ble_eq_true rfl) rfl (Nat.le_of_ble_eq_true rfl) rfl).trans (congrArg Value.int ey188)
            have iy188 : -1 ≤ y188.toInt ∧ y188.toInt ≤ 201 := by rw [← ey188]; exact hI.iv 0 (Nat.le_of_ble_eq_true rfl) rfl (Nat.le_of_ble_eq_true rfl) rfl
            obtain ⟨y189, ey189⟩ : ∃ y, xi (E185 0) 23 = y := ⟨_, rfl⟩
            have fy189 : xv (E185 0) 23 = .int y189 := (hI.fi 0 (Nat.le_of_ble_eq_true rfl) rfl (Nat.le_of_ble_eq_true rfl) rfl).trans (congrArg Value.int ey189)
            have iy189 : 0 ≤ y189.toInt ∧ y189.toInt ≤ 8 := by rw [← ey189]; exact hI.iv 0 (Nat.le_of_ble_eq_true rfl) rfl (Nat.le_of_ble_eq_true rfl) rfl
            obtain ⟨f190, f191, f192, f193, f194, f195⟩ := hw
            try rw [(show xi (E179 0) 21 = y177 from vi_e pw180.1)] at f190
            try rw [(show xi (E185 0) 21 = y187 from vi_e fy187)] at f190
            try rw [(show xi (E179 0) 23 = w63_0_23 from vi_e ((pw180.2 0 23 (fun q9 => absurd q9.2 (Nat.ne_of_beq_eq_false rfl))).trans ((kq138 0 23 rfl).trans hs63_0_23)))] at f191
            try rw [(show xi (E185 0) 23 = y189 from vi_e fy189)] at f191
            try rw [(show xi (E179 0) 22 = w63_0_22 from vi_e ((pw180.2 0 22 (fun q9 => absurd q9.2 (Nat.ne_of_beq_eq_false rfl))).trans ((kq138 0 22 rfl).trans hs63_0_22)))] at f192
            try rw [(show xi (E179 0) 23 = w63_0_23 from vi_e ((pw180.2 0 23 (fun q9 => absurd q9.2 (Nat.ne_of_beq_eq_false rfl))).trans ((kq138 0 23 rfl).trans hs63_0_23)))] at f192
            try rw [(show xi (E185 0) 22 = y188 from vi_e fy188)] at f192
            try rw [(show xi (E185 0) 23 = y189 from vi_e fy189)] at f192
            try rw [(show xi (E179 0) 22 = w63_0_22 from vi_e ((pw180.2 0 22 (fun q9 => absurd q9.2 (Nat.ne_of_beq_eq_false rfl))).trans ((kq138 0 22 rfl).trans hs63_0_22)))] at f193
            try rw [(show xi (E185 0) 22 = y188 from vi_e fy188)] at f193
            have k196 : xi (E185 0) 24 = xi (E179 0) 24 := congrArg vi (kq186 0 24 rfl)
            refine lv_goto (tgt := 63) hx hb dX13_goThrough_94 (by decide) ?_
            exact ih63 y187 y188 y189 E185 _ _ _ iy187 iy188 iy189 (by have h90 := iy187; have h91 := iy188; have h92 := iy189; omega) (LpM.step (op := isSem) (cb := cbC) hx63_1 f144 (is_sem.mpr (by omega)) (by show (xi (E63_ 0) 22).toInt = -1; rw [show xi (E63_ 0) 22 = w63_0_22 from vi_e hs63_0_22]; first | exact t153 | omega) k181 f194 KM.rf (by decide) (fun t m => clauseS_mono true t m) (fun t m a c h => opL_1 (clauseS_mono true t m) rfl h)) (LpQ.step hx63_1 hx63_2 f144 (is_sem.mpr (by omega)) k181 k182 (MZ.of kz0 k183) f194 f195 k196) (by omega) hI hKp fy187 fy188 fy189 ((kq186 0 18 rfl).trans ((pw180.2 0 18 (fun q9 => absurd q9.2 (Nat.ne_of_beq_eq_false rfl))).trans ((kq138 0 18 rfl).trans hs63_0_18))) ((kq186 0 19 rfl).trans ((pw180.2 0 19 (fun q9 => absurd q9.2 (Nat.ne_of_beq_eq_false rfl))).trans ((kq138 0 19 rfl).trans hs63_0_19))) ((kq186 0 20 rfl).trans ((pw180.2 0 20 (fun q9 => absurd q9.2 (Nat.ne_of_beq_eq_false rfl))).trans ((kq138 0 20 rfl).trans hs63_0_20))) ((kq186 0 24 rfl).trans ((pw180.2 0 24 (fun q9 => absurd q9.2 (Nat.ne_of_beq_eq_false rfl))).trans ((kq138 0 24 rfl).trans hs63_0_24))) hP hS (lv_sub hl [0, 1, 2, 3, 4] rfl)
    exact hL63 (202) y115 y116 y117 E113 _ _ _ iy115 iy116 iy117 (by have h90 := iy115; have h91 := iy116; have h92 := iy117; omega) (LpM.start f123 lmX (Int.le_refl _)) (LpQ.start f124 khf kfo k118) (by have h9 := iy115; omega) hI hKp fy115 fy116 fy117 ((kq114 0 18 rfl).trans ((pw110.2 0 18 (fun q9 => absurd q9.2 (Nat.ne_of_beq_eq_false rfl))).trans ((pw16.2 0 18 (fun q9 => absurd q9.2 (Nat.ne_of_beq_eq_false rfl))).trans ((pw14.2 0 18 (fun q9 => absurd q9.2 (Nat.ne_of_beq_eq_false rfl))).trans ((pw12.2 0 18 (fun q9 => absurd q9.2 (Nat.ne_of_beq_eq_false rfl))).trans ((pw10.2 0 18 (fun q9 => absurd q9.2 (Nat.ne_of_beq_eq_false rfl))).trans ((pw8.2 0 18 (fun q9 => absurd q9.2 (Nat.ne_of_beq_eq_false rfl))).trans ((pw6.2 0 18 (fun q9 => absurd q9.2 (Nat.ne_of_beq_eq_false rfl))).trans ((pw4.2 0 18 (fun q9 => absurd q9.2 (Nat.ne_of_beq_eq_false rfl))).trans pw2.1))))))))) ((kq114 0 19 rfl).trans ((pw110.2 0 19 (fun q9 => absurd q9.2 (Nat.ne_of_beq_eq_false rfl))).trans ((pw16.2 0 19 (fun q9 => absurd q9.2 (Nat.ne_of_beq_eq_false rfl))).trans ((pw14.2 0 19 (fun q9 => absurd q9.2 (Nat.ne_of_beq_eq_false rfl))).trans ((pw12.2 0 19 (fun q9 => absurd q9.2 (Nat.ne_of_beq_eq_false rfl))).trans ((pw10.2 0 19 (fun q9 => absurd q9.2 (Nat.ne_of_beq_eq_false rfl))).trans ((pw8.2 0 19 (fun q9 => absurd q9.2 (Nat.ne_of_beq_eq_false rfl))).trans ((pw6.2 0 19 (fun q9 => absurd q9.2 (Nat.ne_of_beq_eq_false rfl))).trans pw4.1)))))))) ((kq114 0 20 rfl).trans ((pw110.2 0 20 (fun q9 => absurd q9.2 (Nat.ne_of_beq_eq_false rfl))).trans ((pw16.2 0 20 (fun q9 => absurd q9.2 (Nat.ne_of_beq_eq_false rfl))).trans ((pw14.2 0 20 (fun q9 => absurd q9.2 (Nat.ne_of_beq_eq_false rfl))).trans ((pw12.2 0 20 (fun q9 => absurd q9.2 (Nat.ne_of_beq_eq_false rfl))).trans ((pw10.2 0 20 (fun q9 => absurd q9.2 (Nat.ne_of_beq_eq_false rfl))).trans ((pw8.2 0 20 (fun q9 => absurd q9.2 (Nat.ne_of_beq_eq_false rfl))).trans pw6.1))))))) ((kq114 0 24 rfl).trans ((pw110.2 0 24 (fun q9 => absurd q9.2 (Nat.ne_of_beq_eq_false rfl))).trans ((pw16.2 0 24 (fun q9 => absurd q9.2 (Nat.ne_of_beq_eq_false rfl))).trans ((pw14.2 0 24 (fun q9 => absurd q9.2 (Nat.ne_of_beq_eq_false rfl))).trans ((pw12.2 0 24 (fun q9 => absurd q9.2 (Nat.ne_of_beq_eq_false rfl))).trans ((pw10.2 0 24 (fun q9 => absurd q9.2 (Nat.ne_of_beq_eq_false rfl))).trans pw8.1)))))) hP hS (lv_sub hl [0, 1, 2, 3, 4] rfl)
