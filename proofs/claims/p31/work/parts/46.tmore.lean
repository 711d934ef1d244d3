set_option maxRecDepth 100000 in
theorem zh_dX13_fault_0_0 : zc cX13_fault 0 [42, 3, 181, 0, 228, 42, 42, 180, 0, 28, 3, 42, 180, 1, 3, 3] = true := by decide +kernel
set_option maxRecDepth 100000 in
theorem zh_dX13_fault_16_16 : zc cX13_fault 16 [182, 1, 110, 42, 180, 1, 23, 172] = true := by decide +kernel
theorem dX13_fault_0 : decode cX13_fault 0 = .ok (.aload_n 0, 1) := zo_42 (zi_at zh_dX13_fault_0_0 0 rfl)
theorem dX13_fault_1 : decode cX13_fault 1 = .ok (.iconst 0, 1) := zo_3 (zi_at zh_dX13_fault_0_0 1 rfl)
theorem dX13_fault_2 : decode cX13_fault 2 = .ok (.putfield 228, 3) := zo_181 (zi_at zh_dX13_fault_0_0 2 rfl) (zi_at zh_dX13_fault_0_0 3 rfl) (zi_at zh_dX13_fault_0_0 4 rfl) rfl
theorem dX13_fault_5 : decode cX13_fault 5 = .ok (.aload_n 0, 1) := zo_42 (zi_at zh_dX13_fault_0_0 5 rfl)
theorem dX13_fault_6 : decode cX13_fault 6 = .ok (.aload_n 0, 1) := zo_42 (zi_at zh_dX13_fault_0_0 6 rfl)
theorem dX13_fault_7 : decode cX13_fault 7 = .ok (.getfield 28, 3) := zo_180 (zi_at zh_dX13_fault_0_0 7 rfl) (zi_at zh_dX13_fault_0_0 8 rfl) (zi_at zh_dX13_fault_0_0 9 rfl) rfl
theorem dX13_fault_10 : decode cX13_fault 10 = .ok (.iconst 0, 1) := zo_3 (zi_at zh_dX13_fault_0_0 10 rfl)
theorem dX13_fault_11 : decode cX13_fault 11 = .ok (.aload_n 0, 1) := zo_42 (zi_at zh_dX13_fault_0_0 11 rfl)
theorem dX13_fault_12 : decode cX13_fault 12 = .ok (.getfield 259, 3) := zo_180 (zi_at zh_dX13_fault_0_0 12 rfl) (zi_at zh_dX13_fault_0_0 13 rfl) (zi_at zh_dX13_fault_0_0 14 rfl) rfl
theorem dX13_fault_15 : decode cX13_fault 15 = .ok (.iconst 0, 1) := zo_3 (zi_at zh_dX13_fault_0_0 15 rfl)
theorem dX13_fault_16 : decode cX13_fault 16 = .ok (.invokevirtual 366, 3) := zo_182 (zi_at zh_dX13_fault_16_16 0 rfl) (zi_at zh_dX13_fault_16_16 1 rfl) (zi_at zh_dX13_fault_16_16 2 rfl) rfl
theorem dX13_fault_19 : decode cX13_fault 19 = .ok (.aload_n 0, 1) := zo_42 (zi_at zh_dX13_fault_16_16 3 rfl)
theorem dX13_fault_20 : decode cX13_fault 20 = .ok (.getfield 279, 3) := zo_180 (zi_at zh_dX13_fault_16_16 4 rfl) (zi_at zh_dX13_fault_16_16 5 rfl) (zi_at zh_dX13_fault_16_16 6 rfl) rfl
theorem dX13_fault_23 : decode cX13_fault 23 = .ok (.ireturn, 1) := zo_172 (zi_at zh_dX13_fault_16_16 7 rfl)

def v_clauseX : List Cond := .code yX13_clause cX13_clause 5 none :: vA
abbrev rm_clauseX : Room := { frames := 68, cells := 0, slots := 0, locals := 2720 }
def w_clauseX : Nat → Nat → Bool := wl [] [(0, 21), (0, 22), (0, 23), (0, 25), (0, 26)]
set_option maxHeartbeats 4000000 in
set_option maxRecDepth 100000 in
theorem q_clauseX (l : Launch) (dC : Nat → ClassId) (dI : Nat → Nat → Nat) (cT : Nat → ClassId) (ad : Nat → Nat) (E : Nat → va_E) (sz : Nat) (k : Nat) (nl : Nat) (hI0 : IX cT shM spM 72 ad E) (hh0 : k < 72) (hh1 : shM k = (1, 1, nl)) (hh2 : ∀ j, spM k j = (0, -128, 127)) (hh3 : xv (E 0) 18 = .ref (ad k)) (hh4 : (xi (E 0) 19).toInt + 200 ≤ (nl : Int)) (hh5 : (xi (E 0) 23).toInt = 0) (hh6 : (xi (E 0) 22).toInt = -1) : Met l yX13_clause v_clauseX rm_clauseX (va_Pc [.ref (ad 0)] (HW dC dI (TYM cT) 72 ad E sz)) (va_Qv (S := Nat → va_E) (fun u => IX cT shM spM 72 ad u ∧ Kp w_clauseX E u ∧ (((xi (E 0) 21).toInt ≤ (xi (u 0) 21).toInt) ∧ ((xi (E 0) 23).toInt ≤ (xi (u 0) 23).toInt) ∧ ((xi (u 0) 22).toInt = -1 → (xi (u 0) 23).toInt = (xi (E 0) 23).toInt) ∧ ((xi (u 0) 22).toInt = -1 → (xi (E 0) 22).toInt = -1) ∧ (RdM k (fun t m a => clauseS true t m a) E u))) (HB dC dI 72 ad) (va_A (WX 72 ad E) sz)) 0 0 (va_A (WX 72 ad E) sz) := by
  refine Met.ofW (cc := cX13_clause) (maxL := 5) (ret := none) (by decide) rfl ?_
  intro p e s m args below meth c s₁ B hml hv
  obtain ⟨hargs, hsz, hP, hK, hD0, hEV⟩ := hv
  subst hsz
  have hx := B.exec
  have hb := B.bytes
  have hr := B.returns
  have hts := atoms_spec (ws := v_clauseX) B.pre
  have hown : s.vm.findClass RX13 = some m.cls := findClass_of_methodNamed B.named
  have hlocks := B.notSynchronized
  have hinX13 : ∀ w ∈ u_ws RX13 TX13 97, w ∈ v_clauseX := fun w h => vA_in _ w (in_X13 w h)
  generalize hAe : va_A (WX 72 ad E) s.heap.size = A at hEV ⊢
  have hA : ∀ q : Nat, s.heap.size ≤ q → A q := fun q h => by rw [← hAe]; exact Or.inr h
  have hD : va_D A (WX 72 ad E) := by rw [← hAe]; exact hD0.self
  have hS : va_S A s.heap s.heap [] := va_S.rf
  have hI := hI0
  have hKp : Kp w_clauseX E E := Kp.rf
  have hl := lv_entry ([.ref (ad 0)]) (n := 5) (Nat.le_of_ble_eq_true rfl)
  obtain ⟨Q, hQ⟩ : ∃ Q, Q = MQ below (va_Qv (S := Nat → va_E) (fun u => IX cT shM spM 72 ad u ∧ Kp w_clauseX E u ∧ (((xi (E 0) 21).toInt ≤ (xi (u 0) 21).toInt) ∧ ((xi (E 0) 23).toInt ≤ (xi (u 0) 23).toInt) ∧ ((xi (u 0) 22).toInt = -1 → (xi (u 0) 23).toInt = (xi (E 0) 23).toInt) ∧ ((xi (u 0) 22).toInt = -1 → (xi (E 0) 22).toInt = -1) ∧ (RdM k (fun t m a => clauseS true t m a) E u))) (HB dC dI 72 ad) (A)) args s 0 0 (A) := ⟨_, rfl⟩
  rw [← hQ, show entryFrame m args 5 = _ from (congrArg (fun z => entryFrame m z 5) hargs).trans (lg_entry_eq _ _ _)]
  generalize (lg_sl ([.ref (ad 0)]) ++ List.replicate (5 - (lg_sl ([.ref (ad 0)])).length) Slot.unset).toArray = ls at hl ⊢
  have hl : lv_has ls 5 [(0, .ref (ad 0))] := hl
  obtain ⟨y1, ey1⟩ : ∃ y, xi (E 0) 21 = y := ⟨_, rfl⟩
  have fy1 : xv (E 0) 21 = .int y1 := (hI.fi 0 (Nat.le_of_ble_eq_true rfl) rfl (Nat.le_of_ble_eq_true rfl) rfl).trans (congrArg Value.int ey1)
  have iy1 : 0 ≤ y1.toInt ∧ y1.toInt ≤ 201 := by rw [← ey1]; exact hI.iv 0 (Nat.le_of_ble_eq_true rfl) rfl (Nat.le_of_ble_eq_true rfl) rfl
  obtain ⟨y2, ey2⟩ : ∃ y, xi (E 0) 22 = y := ⟨_, rfl⟩
  have fy2 : xv (E 0) 22 = .int y2 := (hI.fi 0 (Nat.le_of_ble_eq_true rfl) rfl (Nat.le_of_ble_eq_true rfl) rfl).trans (congrArg Value.int ey2)
  have iy2 : -1 ≤ y2.toInt ∧ y2.toInt ≤ 201 := by rw [← ey2]; exact hI.iv 0 (Nat.le_of_ble_eq_true rfl) rfl (Nat.le_of_ble_eq_true rfl) rfl
  rw [ey2] at hh6
  obtain ⟨y3, ey3⟩ : ∃ y, xi (E 0) 23 = y := ⟨_, rfl⟩
  have fy3 : xv (E 0) 23 = .int y3 := (hI.fi 0 (Nat.le_of_ble_eq_true rfl) rfl (Nat.le_of_ble_eq_true rfl) rfl).trans (congrArg Value.int ey3)
  have iy3 : 0 ≤ y3.toInt ∧ y3.toInt ≤ 8 := by rw [← ey3]; exact hI.iv 0 (Nat.le_of_ble_eq_true rfl) rfl (Nat.le_of_ble_eq_true rfl) rfl
  rw [ey3] at hh5
  have hk0 : ¬ k = 0 := fun q9 => by rw [q9] at hh1; exact absurd (show (shM 0).1 = 1 from congrArg Prod.fst hh1) (by decide)
  refine lv_aload_n hx hb dX13_clause_0 rfl (lv_at hl 0 rfl) ?_
  refine th_i (va_runV (As := []) (rest := []) ⟨hx, hb, hml, hown, hts⟩ (q_lookX l dC dI cT ad E s.heap.size k nl hI (by exact hh0) (by exact hh1) (by exact hh2) (by exact hh3) (by exact hh4)) (cwV 0 hts (gi_V (in_26 _ (zs1 (zs1 (zs0)))) (in_26 _ (zs1 (zs1 (zs1 (zs0))))) (in_26 _ (zs4 (zs0))) (in_24 _ (zs4 (zs4 (zs4 (zs1 (zs1 (zs1 (zs0)))))))) (in_26 _ (zs4 (zs1 (zs0))))) rfl rfl rfl ⟨rfl, hz_yX13_look_0⟩ ⟨Nat.le_of_ble_eq_true rfl, Nat.le_of_ble_eq_true rfl⟩) ⟨HW_bl, va_recv hK hP (ci := 14) (q0 := 0) rfl (hI.ob 0 (Nat.le_of_ble_eq_true rfl) rfl), (HW_wi hP hK (WX_D hD) hS hA hEV)⟩ rfl rfl hl.1 rfl (lv_room (Nat.le_of_ble_eq_true rfl)) dX13_clause_1 ⟨Nat.le_of_ble_eq_true rfl, Nat.le_of_ble_eq_true rfl⟩) (WX_D hD) hS hA (fun r4 E5 H locs hw hP hS => ?_)
  obtain ⟨hI, kq6, hw⟩ := hw
  have hKb := hKp
  have hKp := hKp.tr kq6 (wl_sub rfl rfl)
  obtain ⟨y7, ey7⟩ : ∃ y, xi (E5 0) 21 = y := ⟨_, rfl⟩
  have fy7 : xv (E5 0) 21 = .int y7 := (hI.fi 0 (Nat.le_of_ble_eq_true rfl) rfl (Nat.le_of_ble_eq_true rfl) rfl).trans (congrArg Value.int ey7)
  have iy7 : 0 ≤ y7.toInt ∧ y7.toInt ≤ 201 := by rw [← ey7]; exact hI.iv 0 (Nat.le_of_ble_eq_true rfl) rfl (Nat.le_of_ble_eq_true rfl) rfl
  obtain ⟨f8, f9, f10, f11, f12⟩ := hw
  have i13 : 0 ≤ (xi (E 0) 19).toInt ∧ (xi (E 0) 19).toInt ≤ 3000 := (show 0 ≤ (xi (E 0) 19).toInt ∧ (xi (E 0) 19).toInt ≤ 3000 from hI0.iv 0 (Nat.le_of_ble_eq_true rfl) rfl (Nat.le_of_ble_eq_true rfl) rfl)
  have i14 : 0 ≤ (xi (E 0) 20).toInt ∧ (xi (E 0) 20).toInt ≤ 200 := (show 0 ≤ (xi (E 0) 20).toInt ∧ (xi (E 0) 20).toInt ≤ 200 from hI0.iv 0 (Nat.le_of_ble_eq_true rfl) rfl (Nat.le_of_ble_eq_true rfl) rfl)
  try rw [(show xi (E 0) 21 = y1 from vi_e fy1)] at f9
  try rw [(show xi (E5 0) 21 = y7 from vi_e fy7)] at f9
  try rw [(show xi (E 0) 21 = y1 from vi_e fy1)] at f10
  try rw [(show xi (E5 0) 21 = y7 from vi_e fy7)] at f10
  try rw [(show xi (E 0) 21 = y1 from vi_e fy1)] at f11
  try rw [(show xi (E5 0) 21 = y7 from vi_e fy7)] at f11
  refine lv_istore_n (lv' := [(1, .int r4), (0, .ref (ad 0))]) hx hb dX13_clause_4 rfl hl (by decide) rfl (fun ls hl => ?_)
  refine lv_iload_n hx hb dX13_clause_5 rfl (lv_at hl 0 rfl) ?_
  refine lv_iconst (v := -1) hx hb dX13_clause_6 (by decide) ?_
  refine lv_icmp_eq (tgt := 20) hx hb dX13_clause_7 (by decide) (fun c15 => ?_) (fun c15 => ?_)
  · --7 taken
    have t16 : r4.toInt = -1 := ti_eq c15
    have i17 : -1 ≤ r4.toInt ∧ r4.toInt ≤ -1 := iv_eqi t16 f8 (il_ (-1)) (by decide)
    refine lv_aload_n hx hb dX13_clause_20 rfl (lv_at hl 1 rfl) ?_
    refine th_i (va_runV (As := []) (rest := []) ⟨hx, hb, hml, hown, hts⟩ (q_stopX l dC dI cT ad E5 H.size k nl hI (by exact hh0) (by exact hh1) (by exact hh2) (by exact (hKp 0 18 rfl).trans hh3) (by (try rw [hKp.ei 0 19 rfl]); exact hh4)) (cwV 0 hts (gi_V (in_26 _ (zs4 (zs4 (zs4 (zs0))))) (in_26 _ (zs4 (zs4 (zs4 (zs1 (zs0)))))) (in_26 _ (zs4 (zs4 (zs4 (zs1 (zs1 (zs0))))))) (in_24 _ (zs4 (zs4 (zs4 (zs1 (zs1 (zs1 (zs0)))))))) (in_26 _ (zs4 (zs4 (zs4 (zs1 (zs1 (zs1 (zs0))))))))) rfl rfl rfl ⟨rfl, hz_yX13_stop_0⟩ ⟨Nat.le_of_ble_eq_true rfl, Nat.le_of_ble_eq_true rfl⟩) ⟨HW_bl, va_recv hK hP (ci := 14) (q0 := 0) rfl (hI.ob 0 (Nat.le_of_ble_eq_true rfl) rfl), (HW_wi hP hK (WX_D hD) hS hA hEV)⟩ rfl rfl hl.1 rfl (lv_room (Nat.le_of_ble_eq_true rfl)) dX13_clause_21 ⟨Nat.le_of_ble_eq_true rfl, Nat.le_of_ble_eq_true rfl⟩) (WX_D hD) hS hA (fun r18 E19 H locs hw hP hS => ?_)
    obtain ⟨hI, kq20, hw⟩ := hw
    have hKb := hKp
    have hKp := hKp.tr kq20 (wl_sub rfl rfl)
    obtain ⟨y21, ey21⟩ : ∃ y, xi (E19 0) 22 = y := ⟨_, rfl⟩
    have fy21 : xv (E19 0) 22 = .int y21 := (hI.fi 0 (Nat.le_of_ble_eq_true rfl) rfl (Nat.le_of_ble_eq_true rfl) rfl).trans (congrArg Value.int ey21)
    have iy21 : -1 ≤ y21.toInt ∧ y21.toInt ≤ 201 := by rw [← ey21]; exact hI.iv 0 (Nat.le_of_ble_eq_true rfl) rfl (Nat.le_of_ble_eq_true rfl) rfl
    obtain ⟨rfl, f22, f23⟩ := hw
    try rw [(show xi (E5 0) 22 = y2 from vi_e ((kq6 0 22 rfl).trans fy2))] at f22
    try rw [(show xi (E19 0) 22 = y21 from vi_e fy21)] at f22
    refine lv_pop hx hb dX13_clause_24 rfl ?_
    rw [hQ]
    exact W.vret hx hb hr (fun t ht hW => ⟨⟨E19, rfl, ⟨hI, hKp, ⟨by (try rw [(show xi (E19 0) 21 = y7 from vi_e ((kq20 0 21 rfl).trans fy7))]); (try rw [ey1]); first | done | exact f9 | all_goals omega, by (try rw [(show xi (E19 0) 23 = y3 from vi_e ((kq20 0 23 rfl).trans ((kq6 0 23 rfl).trans fy3)))]); (try rw [ey3]); first | done | exact Int.le_refl _ | all_goals omega, by (try rw [(show xi (E19 0) 22 = y21 from vi_e fy21)]); (try rw [(show xi (E19 0) 23 = y3 from vi_e ((kq20 0 23 rfl).trans ((kq6 0 23 rfl).trans fy3)))]); (try rw [ey2]); (try rw [ey3]); first | done | exact fun q9 => absurd (q9) f22 | all_goals omega, by (try rw [(show xi (E19 0) 22 = y21 from vi_e fy21)]); (try rw [ey2]); first | done | exact fun q9 => absurd (q9) f22 | all_goals omega, clM_no f12 (by rw [show r4.toInt = -1 by omega]; decide) f23⟩⟩, by show va_P (dC, dI) vwCl (WX 72 ad E19) t.heap; rw [ht]; exact hP⟩, hS.F ht⟩) hS.2.2 dX13_clause_25
  · --7 not
    have t24 : ¬ r4.toInt = -1 := ti_ne c15
    have i25 : 0 ≤ r4.toInt ∧ r4.toInt ≤ 255 := iv_ne_l t24 f8 (il_ (-1))
    obtain ⟨qs, vs, hqR, hSS⟩ := hEV.2.2
    refine th_ldcwS hx hb hown hqR dX13_clause_10 ?_
    refine lv_iload_n hx hb dX13_clause_13 rfl (lv_at hl 0 rfl) ?_
    refine th_pi (va_runV (As := [.int r4]) (rest := []) ⟨hx, hb, hml, hown, hts⟩ (q_indexOf l qs vs tLAB r4 (by decide) (by decide)) (cwV 1 hts (gi_V (in_26 _ (zs4 (zs1 (zs1 (zs1 (zs0)))))) (in_8 _ (zs16 (zs16 (zs1 (zs0))))) (in_8 _ (zs16 (zs16 (zs1 (zs1 (zs0)))))) (in_0 _ (zs4 (zs4 (zs4 (zs1 (zs0)))))) (in_0 _ (zs4 (zs4 (zs1 (zs0)))))) rfl rfl rfl ⟨rfl, hz_yJ0_indexOf_0f7a4_1⟩ ⟨Nat.le_of_ble_eq_true rfl, Nat.le_of_ble_eq_true rfl⟩) ⟨fun a U g mk q => ⟨q.1, SS_c q.2⟩, va_Orecv hSS.1 hS, fun U hU hW => ⟨rfl, SS_w hU hW hS (fun _ h => h.elim) hSS⟩⟩ rfl rfl hl.1 rfl (lv_room (Nat.le_of_ble_eq_true rfl)) dX13_clause_14 ⟨Nat.le_of_ble_eq_true rfl, Nat.le_of_ble_eq_true rfl⟩) hS (fun r26 H1 locs1 hw hk1 hS => ?_)
    have hP := ub_keep hP hk1
    generalize H1 = H at hP hS ⊢
    generalize locs1 = locs at hS ⊢
    obtain ⟨f27, f28⟩ := hw
    refine lv_if_ge (tgt := 26) hx hb dX13_clause_17 (by decide) (fun c29 => ?_) (fun c29 => ?_)
    · --17 taken
      have t30 : (0 : Int) ≤ r26.toInt := ti_le c29
      have i31 : 0 ≤ r26.toInt ∧ r26.toInt ≤ 1000 := iv_le_r t30 (il_ 0) f27 (by decide)
      refine lv_aload_n hx hb dX13_clause_26 rfl (lv_at hl 1 rfl) ?_
      refine lv_dup hx hb dX13_clause_27 rfl ?_
      refine th_get (ci := 14) (C := RX13) (T := TX13) (N := 97) (v := .int y7) hx hb hts hinX13 hown hK hP hI 0 (Nat.le_of_ble_eq_true rfl) rfl rfl 21 (Nat.le_of_ble_eq_true rfl) (hts _ (vA_in _ _ (in_25 _ (zs16 (zs16 (zs4 (zs0))))))) (fun _ h9 => h9) fy7 dX13_clause_28 ?_
      refine lv_iconst (v := 1) hx hb dX13_clause_31 (by decide) ?_
      refine lv_iadd hx hb dX13_clause_32 ?_
      refine lv_topi (fun y32 ey32 => ?_)
      obtain ⟨ty32, iy32⟩ := ti_add (e := 1) (f := 202) iy7 ln_1 ey32 (by decide)
      have ty32 : y32.toInt = y7.toInt + 1 := ty32
      have iy32 : 1 ≤ y32.toInt ∧ y32.toInt ≤ 202 := iy32
      have i33 : 1 ≤ y32.toInt ∧ y32.toInt ≤ 201 := by omega
      refine th_put (ci := 14) (C := RX13) (T := TX13) (N := 97) (v := .int y32) (ty := .int) hx hb hts hinX13 tyX13 tyX13_ok nmX13 hown hK hP (WX_D hD) hS hI 0 (Nat.le_of_ble_eq_true rfl) rfl rfl 21 (Nat.le_of_ble_eq_true rfl) (hts _ (vA_in _ _ (in_25 _ (zs16 (zs16 (zs4 (zs0))))))) (fun _ h9 => h9) rfl (by decide +kernel) rfl rfl (okI rfl (iv_w i33 (by decide))) dX13_clause_33 (fun H locs E34 pw35 hI hP hS => ?_)
      have hKp := hKp.pw pw35 rfl
      have k36 : AtM k E5 E34 := AtM.pw pw35.2 hk0 (vi_e fy7) (vi_e pw35.1) ty32 (by omega)
      refine lv_aload_n hx hb dX13_clause_36 rfl (lv_at hl 1 rfl) ?_
      refine lv_bipush (v := 58) hx hb dX13_clause_37 (by decide) ?_
      have z58 := ln_58
      refine th_i (va_runV (As := [.int 58]) (rest := []) ⟨hx, hb, hml, hown, hts⟩ (q_takesX l dC dI cT ad E34 H.size (58 : Int32) k nl hI (by exact hh0) (by exact hh1) (by exact hh2) (by exact (hKp 0 18 rfl).trans hh3) (by (try rw [hKp.ei 0 19 rfl]); exact hh4) (iv_w ln_58 (by decide))) (cwV 1 hts (gi_V (in_26 _ (zs16 (zs1 (zs1 (zs1 (zs0)))))) (in_26 _ (zs16 (zs4 (zs0)))) (in_26 _ (zs16 (zs4 (zs1 (zs0))))) (in_24 _ (zs4 (zs4 (zs4 (zs1 (zs1 (zs1 (zs0)))))))) (in_26 _ (zs16 (zs4 (zs1 (zs1 (zs0))))))) rfl rfl rfl ⟨rfl, hz_yX13_takes_1⟩ ⟨Nat.le_of_ble_eq_true rfl, Nat.le_of_ble_eq_true rfl⟩) ⟨HW_bl, va_recv hK hP (ci := 14) (q0 := 0) rfl (hI.ob 0 (Nat.le_of_ble_eq_true rfl) rfl), (HW_wi hP hK (WX_D hD) hS hA hEV)⟩ rfl rfl hl.1 rfl (lv_room (Nat.le_of_ble_eq_true rfl)) dX13_clause_39 ⟨Nat.le_of_ble_eq_true rfl, Nat.le_of_ble_eq_true rfl⟩) (WX_D hD) hS hA (fun r37 E38 H locs hw hP hS => ?_)
      obtain ⟨hI, kq39, hw⟩ := hw
      have hKb := hKp
      have hKp := hKp.tr kq39 (wl_sub rfl rfl)
      obtain ⟨y40, ey40⟩ : ∃ y, xi (E38 0) 21 = y := ⟨_, rfl⟩
      have fy40 : xv (E38 0) 21 = .int y40 := (hI.fi 0 (Nat.le_of_ble_eq_true rfl) rfl (Nat.le_of_ble_eq_true rfl) rfl).trans (congrArg Value.int ey40)
      have iy40 : 0 ≤ y40.toInt ∧ y40.toInt ≤ 201 := by rw [← ey40]; exact hI.iv 0 (Nat.le_of_ble_eq_true rfl) rfl (Nat.le_of_ble_eq_true rfl) rfl
      obtain ⟨y41, ey41⟩ : ∃ y, xi (E38 0) 22 = y := ⟨_, rfl⟩
      have fy41 : xv (E38 0) 22 = .int y41 := (hI.fi 0 (Nat.le_of_ble_eq_true rfl) rfl (Nat.le_of_ble_eq_true rfl) rfl).trans (congrArg Value.int ey41)
      have iy41 : -1 ≤ y41.toInt ∧ y41.toInt ≤ 201 := by rw [← ey41]; exact hI.iv 0 (Nat.le_of_ble_eq_true rfl) rfl (Nat.le_of_ble_eq_true rfl) rfl
      rcases hw with hw | hw
      · -- takesX, case 0
        obtain ⟨rfl, f42, f43, f44, f45, f46⟩ := hw
        try rw [(show xi (E34 0) 22 = y2 from vi_e ((pw35.2 0 22 (fun q9 => absurd q9.2 (Nat.ne_of_beq_eq_false rfl))).trans ((kq6 0 22 rfl).trans fy2)))] at f42
        try rw [(show xi (E38 0) 22 = y41 from vi_e fy41)] at f42
        try rw [(show xi (E34 0) 22 = y2 from vi_e ((pw35.2 0 22 (fun q9 => absurd q9.2 (Nat.ne_of_beq_eq_false rfl))).trans ((kq6 0 22 rfl).trans fy2)))] at f43
        try rw [(show xi (E38 0) 22 = y41 from vi_e fy41)] at f43
        try rw [(show xi (E34 0) 21 = y32 from vi_e pw35.1)] at f44
        try rw [(show xi (E38 0) 21 = y40 from vi_e fy40)] at f44
        try rw [(show xi (E34 0) 21 = y32 from vi_e pw35.1)] at f45
        try rw [(show xi (E38 0) 21 = y40 from vi_e fy40)] at f45
        refine lv_if_ne (tgt := 46) hx hb dX13_clause_42 (by decide) (fun c47 => ?_) (fun c47 => ?_)
        · --42 taken
          refine lv_iconst (v := 1) hx hb dX13_clause_46 (by decide) ?_
          refine lv_istore_n (lv' := [(2, .int 1), (1, .int r4), (0, .ref (ad 0))]) hx hb dX13_clause_47 rfl hl (by decide) rfl (fun ls hl => ?_)
          refine lv_iconst (v := 0) hx hb dX13_clause_48 (by decide) ?_
          refine lv_istore_n (lv' := [(3, .int 0), (2, .int 1), (1, .int r4), (0, .ref (ad 0))]) hx hb dX13_clause_49 rfl hl (by decide) rfl (fun ls hl => ?_)
          refine lv_aload_n hx hb dX13_clause_50 rfl (lv_at hl 3 rfl) ?_
          refine th_i (va_runV (As := []) (rest := []) ⟨hx, hb, hml, hown, hts⟩ (q_lookX l dC dI cT ad E38 H.size k nl hI (by exact hh0) (by exact hh1) (by exact hh2) (by exact (hKp 0 18 rfl).trans hh3) (by (try rw [hKp.ei 0 19 rfl]); exact hh4)) (cwV 0 hts (gi_V (in_26 _ (zs1 (zs1 (zs0)))) (in_26 _ (zs1 (zs1 (zs1 (zs0))))) (in_26 _ (zs4 (zs0))) (in_24 _ (zs4 (zs4 (zs4 (zs1 (zs1 (zs1 (zs0)))))))) (in_26 _ (zs4 (zs1 (zs0))))) rfl rfl rfl ⟨rfl, hz_yX13_look_0⟩ ⟨Nat.le_of_ble_eq_true rfl, Nat.le_of_ble_eq_true rfl⟩) ⟨HW_bl, va_recv hK hP (ci := 14) (q0 := 0) rfl (hI.ob 0 (Nat.le_of_ble_eq_true rfl) rfl), (HW_wi hP hK (WX_D hD) hS hA hEV)⟩ rfl rfl hl.1 rfl (lv_room (Nat.le_of_ble_eq_true rfl)) dX13_clause_51 ⟨Nat.le_of_ble_eq_true rfl, Nat.le_of_ble_eq_true rfl⟩) (WX_D hD) hS hA (fun r48 E49 H locs hw hP hS => ?_)
          obtain ⟨hI, kq50, hw⟩ := hw
          have hKb := hKp
          have hKp := hKp.tr kq50 (wl_sub rfl rfl)
          obtain ⟨y51, ey51⟩ : ∃ y, xi (E49 0) 21 = y := ⟨_, rfl⟩
          have fy51 : xv (E49 0) 21 = .int y51 := (hI.fi 0 (Nat.le_of_ble_eq_true rfl) rfl (Nat.le_of_ble_eq_true rfl) rfl).trans (congrArg Value.int ey51)
          have iy51 : 0 ≤ y51.toInt ∧ y51.toInt ≤ 201 := by rw [← ey51]; exact hI.iv 0 (Nat.le_of_ble_eq_true rfl) rfl (Nat.le_of_ble_eq_true rfl) rfl
          obtain ⟨f52, f53, f54, f55, f56⟩ := hw
          try rw [(show xi (E38 0) 21 = y40 from vi_e fy40)] at f53
          try rw [(show xi (E49 0) 21 = y51 from vi_e fy51)] at f53
          try rw [(show xi (E38 0) 21 = y40 from vi_e fy40)] at f54
          try rw [hKb.ei 0 20 rfl] at f54
          try rw [(show xi (E49 0) 21 = y51 from vi_e fy51)] at f54
          try rw [(show xi (E38 0) 21 = y40 from vi_e fy40)] at f55
          try rw [hKb.ei 0 20 rfl] at f55
          try rw [(show xi (E49 0) 21 = y51 from vi_e fy51)] at f55
          refine lv_istore (lv' := [(4, .int r48), (3, .int 0), (2, .int 1), (1, .int r4), (0, .ref (ad 0))]) hx hb dX13_clause_54 hl (by decide) rfl (fun ls hl => ?_)
          refine lv_iload hx hb dX13_clause_56 (lv_at hl 0 rfl) ?_
          refine lv_bipush (v := 33) hx hb dX13_clause_58 (by decide) ?_
          refine lv_icmp_eq (tgt := 70) hx hb dX13_clause_60 (by decide) (fun c57 => ?_) (fun c57 => ?_)
          · --60 taken
            have t58 : r48.toInt = 33 := ti_eq c57
            have i59 : 33 ≤ r48.toInt ∧ r48.toInt ≤ 33 := iv_eqi t58 f52 (il_ 33) (by decide)
            refine lv_aload_n hx hb dX13_clause_70 rfl (lv_at hl 4 rfl) ?_
            refine lv_iconst (v := 0) hx hb dX13_clause_71 (by decide) ?_
            refine lv_iconst (v := 0) hx hb dX13_clause_72 (by decide) ?_
            have z0 := ln_0
            refine th_i (va_runV (As := [.int 0, .int 0]) (rest := []) ⟨hx, hb, hml, hown, hts⟩ ((q_groupX l 8).2.2 dC dI cT ad E49 H.size (0 : Int32) (0 : Int32) k nl hI (by exact hh0) (by exact hh1) (by exact hh2) (by exact (hKp 0 18 rfl).trans hh3) (by (try rw [hKp.ei 0 19 rfl]); exact hh4) (by (try rw [(show xi (E49 0) 23 = y3 from vi_e ((kq50 0 23 rfl).trans ((kq39 0 23 rfl).trans ((pw35.2 0 23 (fun q9 => absurd q9.2 (Nat.ne_of_beq_eq_false rfl))).trans ((kq6 0 23 rfl).trans fy3)))))]); omega) (by (try rw [(show xi (E49 0) 22 = y41 from vi_e ((kq50 0 22 rfl).trans fy41))]); omega) (iv_w ln_0 (by decide))) (cwV 2 hts (gi_V (in_29 _ (zs16 (zs1 (zs1 (zs0))))) (in_29 _ (zs16 (zs1 (zs1 (zs1 (zs0)))))) (in_29 _ (zs16 (zs4 (zs0)))) (in_24 _ (zs4 (zs4 (zs4 (zs1 (zs1 (zs1 (zs0)))))))) (in_29 _ (zs16 (zs4 (zs1 (zs0)))))) rfl rfl rfl (by decide +kernel) ⟨(show 7 * 8 + 11 + 1 ≤ 68 from Nat.le_of_ble_eq_true rfl), (show 8 + (5 + 11) + 40 * (7 * 8 + 11) ≤ 40 * (68) from Nat.le_of_ble_eq_true rfl)⟩) ⟨HW_bl, va_recv hK hP (ci := 14) (q0 := 0) rfl (hI.ob 0 (Nat.le_of_ble_eq_true rfl) rfl), (HW_wi hP hK (WX_D hD) hS hA hEV)⟩ rfl rfl hl.1 rfl (lv_room (Nat.le_of_ble_eq_true rfl)) dX13_clause_73 ⟨Nat.le_of_ble_eq_true rfl, Nat.le_of_ble_eq_true rfl⟩) (WX_D hD) hS hA (fun r60 E61 H locs hw hP hS => ?_)
            obtain ⟨hI, kq62, hw⟩ := hw
            have hKb := hKp
            have hKp := hKp.tr kq62 (wl_sub rfl rfl)
            obtain ⟨y63, ey63⟩ : ∃ y, xi (E61 0) 21 = y := ⟨_, rfl⟩
            have fy63 : xv (E61 0) 21 = .int y63 := (hI.fi 0 (Nat.le_of_ble_eq_true rfl) rfl (Nat.le_of_ble_eq_true rfl) rfl).trans (congrArg Value.int ey63)
            have iy63 : 0 ≤ y63.toInt ∧ y63.toInt ≤ 201 := by rw [← ey63]; exact hI.iv 0 (Nat.le_of_ble_eq_true rfl) rfl (Nat.le_of_ble_eq_true rfl) rfl
            obtain ⟨y64, ey64⟩ : ∃ y, xi (E61 0) 22 = y := ⟨_, rfl⟩
            have fy64 : xv (E61 0) 22 = .int y64 := (hI.fi 0 (Nat.le_of_ble_eq_true rfl) rfl (Nat.le_of_ble_eq_true rfl) rfl).trans (congrArg Value.int ey64)
            have iy64 : -1 ≤ y64.toInt ∧ y64.toInt ≤ 201 := by rw [← ey64]; exact hI.iv 0 (Nat.le_of_ble_eq_true rfl) rfl (Nat.le_of_ble_eq_true rfl) rfl
            obtain ⟨y65, ey65⟩ : ∃ y, xi (E61 0) 23 = y := ⟨_, rfl⟩
            have fy65 : xv (E61 0) 23 = .int y65 := (hI.fi 0 (Nat.le_of_ble_eq_true rfl) rfl (Nat.le_of_ble_eq_true rfl) rfl).trans (congrArg Value.int ey65)
            have iy65 : 0 ≤ y65.toInt ∧ y65.toInt ≤ 8 := by rw [← ey65]; exact hI.iv 0 (Nat.le_of_ble_eq_true rfl) rfl (Nat.le_of_ble_eq_true rfl) rfl
            obtain ⟨f66, f67, f68, f69, f70, f71⟩ := hw
            try rw [(show xi (E49 0) 21 = y51 from vi_e fy51)] at f67
            try rw [(show xi (E61 0) 21 = y63 from vi_e fy63)] at f67
            try rw [(show xi (E49 0) 23 = y3 from vi_e ((kq50 0 23 rfl).trans ((kq39 0 23 rfl).trans ((pw35.2 0 23 (fun q9 => absurd q9.2 (Nat.ne_of_beq_eq_false rfl))).trans ((kq6 0 23 rfl).trans fy3)))))] at f68
            try rw [(show xi (E61 0) 23 = y65 from vi_e fy65)] at f68
            try rw [(show xi (E49 0) 22 = y41 from vi_e ((kq50 0 22 rfl).trans fy41))] at f69
            try rw [(show xi (E49 0) 23 = y3 from vi_e ((kq50 0 23 rfl).trans ((kq39 0 23 rfl).trans ((pw35.2 0 23 (fun q9 => absurd q9.2 (Nat.ne_of_beq_eq_false rfl))).trans ((kq6 0 23 rfl).trans fy3)))))] at f69
            try rw [(show xi (E61 0) 22 = y64 from vi_e fy64)] at f69
            try rw [(show xi (E61 0) 23 = y65 from vi_e fy65)] at f69
            try rw [(show xi (E49 0) 22 = y41 from vi_e ((kq50 0 22 rfl).trans fy41))] at f70
            try rw [(show xi (E61 0) 22 = y64 from vi_e fy64)] at f70
            refine lv_istore_n (lv' := [(2, .int r60), (4, .int r48), (3, .int 0), (1, .int r4), (0, .ref (ad 0))]) hx hb dX13_clause_76 rfl hl (by decide) rfl (fun ls hl => ?_)
            refine lv_aload_n hx hb dX13_clause_77 rfl (lv_at hl 4 rfl) ?_
            refine lv_bipush (v := 63) hx hb dX13_clause_78 (by decide) ?_
            have z63 := ln_63
            refine th_i (va_runV (As := [.int 63]) (rest := []) ⟨hx, hb, hml, hown, hts⟩ (q_takesX l dC dI cT ad E61 H.size (63 : Int32) k nl hI (by exact hh0) (by exact hh1) (by exact hh2) (by exact (hKp 0 18 rfl).trans hh3) (by (try rw [hKp.ei 0 19 rfl]); exact hh4) (iv_w ln_63 (by decide))) (cwV 1 hts (gi_V (in_26 _ (zs16 (zs1 (zs1 (zs1 (zs0)))))) (in_26 _ (zs16 (zs4 (zs0)))) (in_26 _ (zs16 (zs4 (zs1 (zs0))))) (in_24 _ (zs4 (zs4 (zs4 (zs1 (zs1 (zs1 (zs0)))))))) (in_26 _ (zs16 (zs4 (zs1 (zs1 (zs0))))))) rfl rfl rfl ⟨rfl, hz_yX13_takes_1⟩ ⟨Nat.le_of_ble_eq_true rfl, Nat.le_of_ble_eq_true rfl⟩) ⟨HW_bl, va_recv hK hP (ci := 14) (q0 := 0) rfl (hI.ob 0 (Nat.le_of_ble_eq_true rfl) rfl), (HW_wi hP hK (WX_D hD) hS hA hEV)⟩ rfl rfl hl.1 rfl (lv_room (Nat.le_of_ble_eq_true rfl)) dX13_clause_80 ⟨Nat.le_of_ble_eq_true rfl, Nat.le_of_ble_eq_true rfl⟩) (WX_D hD) hS hA (fun r72 E73 H locs hw hP hS => ?_)
            obtain ⟨hI, kq74, hw⟩ := hw
            have hKb := hKp
            have hKp := hKp.tr kq74 (wl_sub rfl rfl)
            obtain ⟨y75, ey75⟩ : ∃ y, xi (E73 0) 21 = y := ⟨_, rfl⟩
            have fy75 : xv (E73 0) 21 = .int y75 := (hI.fi 0 (Nat.le_of_ble_eq_true rfl) rfl (Nat.le_of_ble_eq_true rfl) rfl).trans (congrArg Value.int ey75)
            have iy75 : 0 ≤ y75.toInt ∧ y75.toInt ≤ 201 := by rw [← ey75]; exact hI.iv 0 (Nat.le_of_ble_eq_true rfl) rfl (Nat.le_of_ble_eq_true rfl) rfl
            obtain ⟨y76, ey76⟩ : ∃ y, xi (E73 0) 22 = y := ⟨_, rfl⟩
            have fy76 : xv (E73 0) 22 = .int y76 := (hI.fi 0 (Nat.le_of_ble_eq_true rfl) rfl (Nat.le_of_ble_eq_true rfl) rfl).trans (congrArg Value.int ey76)
            have iy76 : -1 ≤ y76.toInt ∧ y76.toInt ≤ 201 := by rw [← ey76]; exact hI.iv 0 (Nat.le_of_ble_eq_true rfl) rfl (Nat.le_of_ble_eq_true rfl) rfl
            rcases hw with hw | hw
            · -- takesX, case 0
              obtain ⟨rfl, f77, f78, f79, f80, f81⟩ := hw
              try rw [(show xi (E61 0) 22 = y64 from vi_e fy64)] at f77
              try rw [(show xi (E73 0) 22 = y76 from vi_e fy76)] at f77
              try rw [(show xi (E61 0) 22 = y64 from vi_e fy64)] at f78
              try rw [(show xi (E73 0) 22 = y76 from vi_e fy76)] at f78
              try rw [(show xi (E61 0) 21 = y63 from vi_e fy63)] at f79
              try rw [(show xi (E73 0) 21 = y75 from vi_e fy75)] at f79
              try rw [(show xi (E61 0) 21 = y63 from vi_e fy63)] at f80
              try rw [(show xi (E73 0) 21 = y75 from vi_e fy75)] at f80
              refine lv_if_ne (tgt := 87) hx hb dX13_clause_83 (by decide) (fun c82 => ?_) (fun c82 => ?_)
              · --83 taken
                refine lv_aload_n hx hb dX13_clause_87 rfl (lv_at hl 4 rfl) ?_
                refine th_i (va_runV (As := []) (rest := []) ⟨hx, hb, hml, hown, hts⟩ ((q_groupX l 8).1 dC dI cT ad E73 H.size k nl hI (by exact hh0) (by exact hh1) (by exact hh2) (by exact (hKp 0 18 rfl).trans hh3) (by (try rw [hKp.ei 0 19 rfl]); exact hh4) (by (try rw [(show xi (E73 0) 23 = y65 from vi_e ((kq74 0 23 rfl).trans fy65))]); omega) (by (try rw [(show xi (E73 0) 22 = y76 from vi_e fy76)]); omega)) (cwV 0 hts (gi_V (in_26 _ (zs16 (zs0))) (in_26 _ (zs16 (zs1 (zs0)))) (in_26 _ (zs16 (zs1 (zs1 (zs0))))) (in_24 _ (zs4 (zs4 (zs4 (zs1 (zs1 (zs1 (zs0)))))))) (in_26 _ (zs16 (zs4 (zs4 (zs1 (zs1 (zs1 (zs0))))))))) rfl rfl rfl (by decide +kernel) ⟨(show 7 * 8 + 7 + 1 ≤ 68 from Nat.le_of_ble_eq_true rfl), (show 8 + (5 + 11) + 40 * (7 * 8 + 7) ≤ 40 * (68) from Nat.le_of_ble_eq_true rfl)⟩) ⟨HW_bl, va_recv hK hP (ci := 14) (q0 := 0) rfl (hI.ob 0 (Nat.le_of_ble_eq_true rfl) rfl), (HW_wi hP hK (WX_D hD) hS hA hEV)⟩ rfl rfl hl.1 rfl (lv_room (Nat.le_of_ble_eq_true rfl)) dX13_clause_88 ⟨Nat.le_of_ble_eq_true rfl, Nat.le_of_ble_eq_true rfl⟩) (WX_D hD) hS hA (fun r83 E84 H locs hw hP hS => ?_)
                obtain ⟨hI, kq85, hw⟩ := hw
                have hKb := hKp
                have hKp := hKp.tr kq85 (wl_sub rfl rfl)
                obtain ⟨y86, ey86⟩ : ∃ y, xi (E84 0) 21 = y := ⟨_, rfl⟩
                have fy86 : xv (E84 0) 21 = .int y86 := (hI.fi 0 (Nat.le_of_ble_eq_true rfl) rfl (Nat.le_of_ble_eq_true rfl) rfl).trans (congrArg Value.int ey86)
                have iy86 : 0 ≤ y86.toInt ∧ y86.toInt ≤ 201 := by rw [← ey86]; exact hI.iv 0 (Nat.le_of_ble_eq_true rfl) rfl (Nat.le_of_ble_eq_true rfl) rfl
                obtain ⟨y87, ey87⟩ : ∃ y, xi (E84 0) 22 = y := ⟨_, rfl⟩
                have fy87 : xv (E84 0) 22 = .int y87 := (hI.fi 0 (Nat.le_of_ble_eq_true rfl) rfl (Nat.le_of_ble_eq_true rfl) rfl).trans (congrArg Value.int ey87)
                have iy87 : -1 ≤ y87.toInt ∧ y87.toInt ≤ 201 := by rw [← ey87]; exact hI.iv 0 (Nat.le_of_ble_eq_true rfl) rfl (Nat.le_of_ble_eq_true rfl) rfl
                obtain ⟨y88, ey88⟩ : ∃ y, xi (E84 0) 23 = y := ⟨_, rfl⟩
                have fy88 : xv (E84 0) 23 = .int y88 := (hI.fi 0 (Nat.le_of_ble_eq_true rfl) rfl (Nat.le_of_ble_eq_true rfl) rfl).trans (congrArg Value.int ey88)
                have iy88 : 0 ≤ y88.toInt ∧ y88.toInt ≤ 8 := by rw [← ey88]; exact hI.iv 0 (Nat.le_of_ble_eq_true rfl) rfl (Nat.le_of_ble_eq_true rfl) rfl
                obtain ⟨f89, f90, f91, f92, f93⟩ := hw
                try rw [(show xi (E73 0) 21 = y75 from vi_e fy75)] at f89
                try rw [(show xi (E84 0) 21 = y86 from vi_e fy86)] at f89
                try rw [(show xi (E73 0) 23 = y65 from vi_e ((kq74 0 23 rfl).trans fy65))] at f90
                try rw [(show xi (E84 0) 23 = y88 from vi_e fy88)] at f90
                try rw [(show xi (E73 0) 22 = y76 from vi_e fy76)] at f91
                try rw [(show xi (E73 0) 23 = y65 from vi_e ((kq74 0 23 rfl).trans fy65))] at f91
                try rw [(show xi (E84 0) 22 = y87 from vi_e fy87)] at f91
                try rw [(show xi (E84 0) 23 = y88 from vi_e fy88)] at f91
                try rw [(show xi (E73 0) 22 = y76 from vi_e fy76)] at f92
                try rw [(show xi (E84 0) 22 = y87 from vi_e fy87)] at f92
                refine lv_istore_n (lv' := [(3, .int r83), (2, .int r60), (4, .int r48), (1, .int r4), (0, .ref (ad 0))]) hx hb dX13_clause_91 rfl hl (by decide) rfl (fun ls hl => ?_)
                refine lv_goto (tgt := 140) hx hb dX13_clause_92 (by decide) ?_
                refine lv_aload_n hx hb dX13_clause_140 rfl (lv_at hl 4 rfl) ?_
                refine th_get (ci := 14) (C := RX13) (T := TX13) (N := 97) (v := .int y87) hx hb hts hinX13 hown hK hP hI 0 (Nat.le_of_ble_eq_true rfl) rfl rfl 22 (Nat.le_of_ble_eq_true rfl) (hts _ (vA_in _ _ (in_25 _ (zs16 (zs16 (zs4 (zs1 (zs1 (zs1 (zs0)))))))))) (fun _ h9 => h9) fy87 dX13_clause_141 ?_
                refine lv_iconst (v := -1) hx hb dX13_clause_144 (by decide) ?_
                refine lv_icmp_ne (tgt := 167) hx hb dX13_clause_145 (by decide) (fun c94 => ?_) (fun c94 => ?_)
                · --145 taken
                  have t95 : ¬ y87.toInt = -1 := ti_ne c94
                  have i96 : 0 ≤ y87.toInt ∧ y87.toInt ≤ 201 := iv_ne_l t95 iy87 (il_ (-1))
                  rw [hQ]
                  exact W.vret hx hb hr (fun t ht hW => ⟨⟨E84, rfl, ⟨hI, hKp, ⟨by (try rw [(show xi (E84 0) 21 = y86 from vi_e fy86)]); (try rw [ey1]); first | done | exact (Int.le_trans (Int.le_trans (Int.le_trans (Int.le_trans (Int.le_trans (Int.le_trans f9 (Int.le_trans (Int.le_add_of_nonneg_right (by decide)) (Int.le_of_eq ty32.symm))) f45) f53) f67) f80) f89) | all_goals omega, by (try rw [(show xi (E84 0) 23 = y88 from vi_e fy88)]); (try rw [ey3]); first | done | exact (Int.le_trans f68 f90) | all_goals omega, by (try rw [(show xi (E84 0) 22 = y87 from vi_e fy87)]); (try rw [(show xi (E84 0) 23 = y88 from vi_e fy88)]); (try rw [ey2]); (try rw [ey3]); first | done | exact fun q9 => absurd (q9) t95 | all_goals omega, by (try rw [(show xi (E84 0) 22 = y87 from vi_e fy87)]); (try rw [ey2]); first | done | exact fun q9 => absurd (q9) t95 | all_goals omega, clM f12 (ix_lab.mp (by rw [← f28]; omega)) k36 f46 KM.rf (vM_c f56 (by omega) f71 (qmC f81 KM.rf f93 KM.rf)) KM.rf⟩⟩, by show va_P (dC, dI) vwCl (WX 72 ad E84) t.heap; rw [ht]; exact hP⟩, hS.F ht⟩) hS.2.2 dX13_clause_167
                · --145 not
                  have t97 : y87.toInt = -1 := ti_eq c94
                  have i98 : -1 ≤ y87.toInt ∧ y87.toInt ≤ -1 := iv_eqi t97 iy87 (il_ (-1)) (by decide)
                  refine lv_aload_n hx hb dX13_clause_148 rfl (lv_at hl 4 rfl) ?_
                  obtain ⟨y99, ey99⟩ : ∃ y, xi (E84 0) 26 = y := ⟨_, rfl⟩
                  have fy99 : xv (E84 0) 26 = .int y99 := (hI.fi 0 (Nat.le_of_ble_eq_true rfl) rfl (Nat.le_of_ble_eq_true rfl) rfl).trans (congrArg Value.int ey99)
                  have iy99 : 0 ≤ y99.toInt ∧ y99.toInt ≤ 1 := by rw [← ey99]; exact hI.iv 0 (Nat.le_of_ble_eq_true rfl) rfl (Nat.le_of_ble_eq_true rfl) rfl
                  refine th_get (ci := 14) (C := RX13) (T := TX13) (N := 97) (v := .int y99) hx hb hts hinX13 hown hK hP hI 0 (Nat.le_of_ble_eq_true rfl) rfl rfl 26 (Nat.le_of_ble_eq_true rfl) (hts _ (vA_in _ _ (in_29 _ (zs4 (zs4 (zs4 (zs1 (zs0)))))))) (fun _ h9 => h9) fy99 dX13_clause_149 ?_
                  refine lv_if_ne (tgt := 167) hx hb dX13_clause_152 (by decide) (fun c100 => ?_) (fun c100 => ?_)
                  · --152 taken
                    have t101 : ¬ y99.toInt = 0 := ti_ne c100
                    have i102 : 1 ≤ y99.toInt ∧ y99.toInt ≤ 1 := iv_ne_l t101 iy99 (il_ 0)
                    rw [hQ]
                    exact W.vret hx hb hr (fun t ht hW => ⟨⟨E84, rfl, ⟨hI, hKp, ⟨by (try rw [(show xi (E84 0) 21 = y86 from vi_e fy86)]); (try rw [ey1]); first | done | exact (Int.le_trans (Int.le_trans (Int.le_trans (Int.le_trans (Int.le_trans (Int.le_trans f9 (Int.le_trans (Int.le_add_of_nonneg_right (by decide)) (Int.le_of_eq ty32.symm))) f45) f53) f67) f80) f89) | all_goals omega, by (try rw [(show xi (E84 0) 23 = y88 from vi_e fy88)]); (try rw [ey3]); first | done | exact (Int.le_trans f68 f90) | all_goals omega, by (try rw [(show xi (E84 0) 22 = y87 from vi_e fy87)]); (try rw [(show xi (E84 0) 23 = y88 from vi_e fy88)]); (try rw [ey2]); (try rw [ey3]); first | done | exact fun q9 => ((f91 (q9)).trans (f69 (f77))) | all_goals omega, by (try rw [(show xi (E84 0) 22 = y87 from vi_e fy87)]); (try rw [ey2]); first | done | exact fun q9 => f42 | all_goals omega, clM f12 (ix_lab.mp (by rw [← f28]; omega)) k36 f46 KM.rf (vM_c f56 (by omega) f71 (qmC f81 KM.rf f93 KM.rf)) KM.rf⟩⟩, by show va_P (dC, dI) vwCl (WX 72 ad E84) t.heap; rw [ht]; exact hP⟩, hS.F ht⟩) hS.2.2 dX13_clause_167
                  · --152 not
                    have t103 : y99.toInt = 0 := ti_eq c100
                    have i104 : 0 ≤ y99.toInt ∧ y99.toInt ≤ 0 := iv_eqi t103 iy99 (il_ 0) (by decide)
                    refine lv_iload_n hx hb dX13_clause_155 rfl (lv_at hl 3 rfl) ?_
                    refine lv_aload_n hx hb dX13_clause_156 rfl (lv_at hl 4 rfl) ?_
                    have i105 : 0 ≤ (xi (E 0) 24).toInt ∧ (xi (E 0) 24).toInt ≤ 127 := hI0.iv 0 (Nat.le_of_ble_eq_true rfl) rfl (Nat.le_of_ble_eq_true rfl) rfl
                    refine th_get (ci := 14) (C := RX13) (T := TX13) (N := 97) (v := .int (xi (E 0) 24)) hx hb hts hinX13 hown hK hP hI 0 (Nat.le_of_ble_eq_true rfl) rfl rfl 24 (Nat.le_of_ble_eq_true rfl) (hts _ (vA_in _ _ (in_29 _ (zs4 (zs4 (zs4 (zs0))))))) (fun _ h9 => h9) (th_v0 hKp hI0 0 (Nat.le_of_ble_eq_true rfl) rfl (Nat.le_of_ble_eq_true rfl) rfl rfl) dX13_clause_157 ?_
                    refine lv_icmp_ne (tgt := 167) hx hb dX13_clause_160 (by decide) (fun c106 => ?_) (fun c106 => ?_)
                    · --160 taken
                      have t107 : ¬ r4.toInt = (xi (E 0) 24).toInt := ti_ne c106
                      rw [hQ]
                      exact W.vret hx hb hr (fun t ht hW => ⟨⟨E84, rfl, ⟨hI, hKp, ⟨by (try rw [(show xi (E84 0) 21 = y86 from vi_e fy86)]); (try rw [ey1]); first | done | exact (Int.le_trans (Int.le_trans (Int.le_trans (Int.le_trans (Int.le_trans (Int.le_trans f9 (Int.le_trans (Int.le_add_of_nonneg_right (by decide)) (Int.le_of_eq ty32.symm))) f45) f53) f67) f80) f89) | all_goals omega, by (try rw [(show xi (E84 0) 23 = y88 from vi_e fy88)]); (try rw [ey3]); first | done | exact (Int.le_trans f68 f90) | all_goals omega, by (try rw [(show xi (E84 0) 22 = y87 from vi_e fy87)]); (try rw [(show xi (E84 0) 23 = y88 from vi_e fy88)]); (try rw [ey2]); (try rw [ey3]); first | done | exact fun q9 => ((f91 (q9)).trans (f69 (f77))) | all_goals omega, by (try rw [(show xi (E84 0) 22 = y87 from vi_e fy87)]); (try rw [ey2]); first | done | exact fun q9 => f42 | all_goals omega, clM f12 (ix_lab.mp (by rw [← f28]; omega)) k36 f46 KM.rf (vM_c f56 (by omega) f71 (qmC f81 KM.rf f93 KM.rf)) KM.rf⟩⟩, by show va_P (dC, dI) vwCl (WX 72 ad E84) t.heap; rw [ht]; exact hP⟩, hS.F ht⟩) hS.2.2 dX13_clause_167
                    · --160 not
                      have t108 : r4.toInt = (xi (E 0) 24).toInt := ti_eq c106
                      have i109 : 0 ≤ r4.toInt ∧ r4.toInt ≤ 127 := iv_eqi t108 i25 i105 (by decide)
                      refine lv_iload_n hx hb dX13_clause_163 rfl (lv_at hl 1 rfl) ?_
                      refine lv_if_ne (tgt := 168) hx hb dX13_clause_164 (by decide) (fun c110 => ?_) (fun c110 => ?_)
                      · --164 taken
                        have t111 : ¬ r60.toInt = 0 := ti_ne c110
                        have i112 : 1 ≤ r60.toInt ∧ r60.toInt ≤ 1 := iv_ne_l t111 f66 (il_ 0)
                        refine lv_aload_n hx hb dX13_clause_168 rfl (lv_at hl 4 rfl) ?_
                        refine lv_iconst (v := 1) hx hb dX13_clause_169 (by decide) ?_
                        refine th_put (ci := 14) (C := RX13) (T := TX13) (N := 97) (v := .int 1) (ty := .boolean) hx hb hts hinX13 tyX13 tyX13_ok nmX13 hown hK hP (WX_D hD) hS hI 0 (Nat.le_of_ble_eq_true rfl) rfl rfl 26 (Nat.le_of_ble_eq_true rfl) (hts _ (vA_in _ _ (in_29 _ (zs4 (zs4 (zs4 (zs1 (zs0)))))))) (fun _ h9 => h9) rfl (by decide +kernel) rfl rfl (okI rfl (iv_w ln_1 (by decide))) dX13_clause_170 (fun H locs E113 pw114 hI hP hS => ?_)
                        have hKp := hKp.pw pw114 rfl
                        have k115 : KM k E84 E113 := KM.pw pw114.2 hk0 (by decide)
                        refine lv_aload_n hx hb dX13_clause_173 rfl (lv_at hl 4 rfl) ?_
                        refine lv_iload_n hx hb dX13_clause_174 rfl (lv_at hl 0 rfl) ?_
                        refine th_put (ci := 14) (C := RX13) (T := TX13) (N := 97) (v := .int r83) (ty := .int) hx hb hts hinX13 tyX13 tyX13_ok nmX13 hown hK hP (WX_D hD) hS hI 0 (Nat.le_of_ble_eq_true rfl) rfl rfl 25 (Nat.le_of_ble_eq_true rfl) (hts _ (vA_in _ _ (in_29 _ zs0))) (fun _ h9 => h9) rfl (by decide +kernel) rfl rfl (okI rfl (iv_all _)) dX13_clause_175 (fun H locs E116 pw117 hI hP hS => ?_)
                        have hKp := hKp.pw pw117 rfl
                        have k118 : KM k E113 E116 := KM.pw pw117.2 hk0 (by decide)
                        rw [hQ]
                        exact W.vret hx hb hr (fun t ht hW => ⟨⟨E116, rfl, ⟨hI, hKp, ⟨by (try rw [(show xi (E116 0) 21 = y86 from vi_e ((pw117.2 0 21 (fun q9 => absurd q9.2 (Nat.ne_of_beq_eq_false rfl))).trans ((pw114.2 0 21 (fun q9 => absurd q9.2 (Nat.ne_of_beq_eq_false rfl))).trans fy86)))]); (try rw [ey1]); first | done | exact (Int.le_trans (Int.le_trans (Int.le_trans (Int.le_trans (Int.le_trans (Int.le_trans f9 (Int.le_trans (Int.le_add_of_nonneg_right (by decide)) (Int.le_of_eq ty32.symm))) f45) f53) f67) f80) f89) | all_goals omega, by (try rw [(show xi (E116 0) 23 = y88 from vi_e ((pw117.2 0 23 (fun q9 => absurd q9.2 (Nat.ne_of_beq_eq_false rfl))).trans ((pw114.2 0 23 (fun q9 => absurd q9.2 (Nat.ne_of_beq_eq_false rfl))).trans fy88)))]); (try rw [ey3]); first | done | exact (Int.le_trans f68 f90) | all_goals omega, by (try rw [(show xi (E116 0) 22 = y87 from vi_e ((pw117.2 0 22 (fun q9 => absurd q9.2 (Nat.ne_of_beq_eq_false rfl))).trans ((pw114.2 0 22 (fun q9 => absurd q9.2 (Nat.ne_of_beq_eq_false rfl))).trans fy87)))]); (try rw [(show xi (E116 0) 23 = y88 from vi_e ((pw117.2 0 23 (fun q9 => absurd q9.2 (Nat.ne_of_beq_eq_false rfl))).trans ((pw114.2 0 23 (fun q9 => absurd q9.2 (Nat.ne_of_beq_eq_false rfl))).trans fy88)))]); (try rw [ey2]); (try rw [ey3]); first | done | exact fun q9 => ((f91 (q9)).trans (f69 (f77))) | all_goals omega, by (try rw [(show xi (E116 0) 22 = y87 from vi_e ((pw117.2 0 22 (fun q9 => absurd q9.2 (Nat.ne_of_beq_eq_false rfl))).trans ((pw114.2 0 22 (fun q9 => absurd q9.2 (Nat.ne_of_beq_eq_false rfl))).trans fy87)))]); (try rw [ey2]); first | done | exact fun q9 => f42 | all_goals omega, clM f12 (ix_lab.mp (by rw [← f28]; omega)) k36 f46 KM.rf (vM_c f56 (by omega) f71 (qmC f81 KM.rf f93 KM.rf)) (k115.tr k118)⟩⟩, by show va_P (dC, dI) vwCl (WX 72 ad E116) t.heap; rw [ht]; exact hP⟩, hS.F ht⟩) hS.2.2 dX13_clause_178
                      · --164 not
                        have t119 : r60.toInt = 0 := ti_eq c110
                        have i120 : 0 ≤ r60.toInt ∧ r60.toInt ≤ 0 := iv_eqi t119 f66 (il_ 0) (by decide)
                        rw [hQ]
                        exact W.vret hx hb hr (fun t ht hW => ⟨⟨E84, rfl, ⟨hI, hKp, ⟨by (try rw [(show xi (E84 0) 21 = y86 from vi_e fy86)]); (try rw [ey1]); first | done | exact (Int.le_trans (Int.le_trans (Int.le_trans (Int.le_trans (Int.le_trans (Int.le_trans f9 (Int.le_trans (Int.le_add_of_nonneg_right (by decide)) (Int.le_of_eq ty32.symm))) f45) f53) f67) f80) f89) | all_goals omega, by (try rw [(show xi (E84 0) 23 = y88 from vi_e fy88)]); (try rw [ey3]); first | done | exact (Int.le_trans f68 f90) | all_goals omega, by (try rw [(show xi (E84 0) 22 = y87 from vi_e fy87)]); (try rw [(show xi (E84 0) 23 = y88 from vi_e fy88)]); (try rw [ey2]); (try rw [ey3]); first | done | exact fun q9 => ((f91 (q9)).trans (f69 (f77))) | all_goals omega, by (try rw [(show xi (E84 0) 22 = y87 from vi_e fy87)]); (try rw [ey2]); first | done | exact fun q9 => f42 | all_goals omega, clM f12 (ix_lab.mp (by rw [← f28]; omega)) k36 f46 KM.rf (vM_c f56 (by omega) f71 (qmC f81 KM.rf f93 KM.rf)) KM.rf⟩⟩, by show va_P (dC, dI) vwCl (WX 72 ad E84) t.heap; rw [ht]; exact hP⟩, hS.F ht⟩) hS.2.2 dX13_clause_167
              · --83 not
                exact absurd c82 (by decide)
            · -- takesX, case 1
              obtain ⟨rfl, f121, f122, f123⟩ := hw
              try rw [(show xi (E61 0) 22 = y64 from vi_e fy64)] at f121
              try rw [(show xi (E73 0) 22 = y76 from vi_e fy76)] at f121
              try rw [(show xi (E61 0) 21 = y63 from vi_e fy63)] at f122
              try rw [(show xi (E73 0) 21 = y75 from vi_e fy75)] at f122
              refine lv_if_ne (tgt := 87) hx hb dX13_clause_83 (by decide) (fun c124 => ?_) (fun c124 => ?_)
              · --83 taken
                exact absurd c124 (by decide)
              · --83 not
                rw [hQ]
                exact W.vret hx hb hr (fun t ht hW => ⟨⟨E73, rfl, ⟨hI, hKp, ⟨by (try rw [(show xi (E73 0) 21 = y75 from vi_e fy75)]); (try rw [ey1]); first | done | exact (Int.le_trans (Int.le_trans (Int.le_trans (Int.le_trans (Int.le_trans f9 (Int.le_trans (Int.le_add_of_nonneg_right (by decide)) (Int.le_of_eq ty32.symm))) f45) f53) f67) f122) | all_goals omega, by (try rw [(show xi (E73 0) 23 = y65 from vi_e ((kq74 0 23 rfl).trans fy65))]); (try rw [ey3]); first | done | exact f68 | all_goals omega, by (try rw [(show xi (E73 0) 22 = y76 from vi_e fy76)]); (try rw [(show xi (E73 0) 23 = y65 from vi_e ((kq74 0 23 rfl).trans fy65))]); (try rw [ey2]); (try rw [ey3]); first | done | exact fun q9 => absurd (q9) f121 | all_goals omega, by (try rw [(show xi (E73 0) 22 = y76 from vi_e fy76)]); (try rw [ey2]); first | done | exact fun q9 => absurd (q9) f121 | all_goals omega, clM f12 (ix_lab.mp (by rw [← f28]; omega)) k36 f46 KM.rf (vM_c f56 (by omega) f71 (qmC f123 KM.rf (RdM.dead (by show ¬ (xi (E73 0) 22).toInt = -1; rw [show xi (E73 0) 22 = y76 from vi_e fy76]; omega)) KM.rf)) KM.rf⟩⟩, by show va_P (dC, dI) vwCl (WX 72 ad E73) t.heap; rw [ht]; exact hP⟩, hS.F ht⟩) hS.2.2 dX13_clause_86
          · --60 not
            have t125 : ¬ r48.toInt = 33 := ti_ne c57
            refine lv_iload hx hb dX13_clause_63 (lv_at hl 0 rfl) ?_
            refine lv_bipush (v := 40) hx hb dX13_clause_65 (by decide) ?_
            refine lv_icmp_ne (tgt := 95) hx hb dX13_clause_67 (by decide) (fun c126 => ?_) (fun c126 => ?_)
            · --67 taken
              have t127 : ¬ r48.toInt = 40 := ti_ne c126
              refine lv_aload_n hx hb dX13_clause_95 rfl (lv_at hl 4 rfl) ?_
              refine th_i (va_runV (As := []) (rest := []) ⟨hx, hb, hml, hown, hts⟩ ((q_groupX l 8).1 dC dI cT ad E49 H.size k nl hI (by exact hh0) (by exact hh1) (by exact hh2) (by exact (hKp 0 18 rfl).trans hh3) (by (try rw [hKp.ei 0 19 rfl]); exact hh4) (by (try rw [(show xi (E49 0) 23 = y3 from vi_e ((kq50 0 23 rfl).trans ((kq39 0 23 rfl).trans ((pw35.2 0 23 (fun q9 => absurd q9.2 (Nat.ne_of_beq_eq_false rfl))).trans ((kq6 0 23 rfl).trans fy3)))))]); omega) (by (try rw [(show xi (E49 0) 22 = y41 from vi_e ((kq50 0 22 rfl).trans fy41))]); omega)) (cwV 0 hts (gi_V (in_26 _ (zs16 (zs0))) (in_26 _ (zs16 (zs1 (zs0)))) (in_26 _ (zs16 (zs1 (zs1 (zs0))))) (in_24 _ (zs4 (zs4 (zs4 (zs1 (zs1 (zs1 (zs0)))))))) (in_26 _ (zs16 (zs4 (zs4 (zs1 (zs1 (zs1 (zs0))))))))) rfl rfl rfl (by decide +kernel) ⟨(show 7 * 8 + 7 + 1 ≤ 68 from Nat.le_of_ble_eq_true rfl), (show 8 + (5 + 11) + 40 * (7 * 8 + 7) ≤ 40 * (68) from Nat.le_of_ble_eq_true rfl)⟩) ⟨HW_bl, va_recv hK hP (ci := 14) (q0 := 0) rfl (hI.ob 0 (Nat.le_of_ble_eq_true rfl) rfl), (HW_wi hP hK (WX_D hD) hS hA hEV)⟩ rfl rfl hl.1 rfl (lv_room (Nat.le_of_ble_eq_true rfl)) dX13_clause_96 ⟨Nat.le_of_ble_eq_true rfl, Nat.le_of_ble_eq_true rfl⟩) (WX_D hD) hS hA (fun r128 E129 H locs hw hP hS => ?_)
              obtain ⟨hI, kq130, hw⟩ := hw
              have hKb := hKp
              have hKp := hKp.tr kq130 (wl_sub rfl rfl)
              obtain ⟨y131, ey131⟩ : ∃ y, xi (E129 0) 21 = y := ⟨_, rfl⟩
              have fy131 : xv (E129 0) 21 = .int y131 := (hI.fi 0 (Nat.le_of_ble_eq_true rfl) rfl (Nat.le_of_ble_eq_true rfl) rfl).trans (congrArg Value.int ey131)
              have iy131 : 0 ≤ y131.toInt ∧ y131.toInt ≤ 201 := by rw [← ey131]; exact hI.iv 0 (Nat.le_of_ble_eq_true rfl) rfl (Nat.le_of_ble_eq_true rfl) rfl
              obtain ⟨y132, ey132⟩ : ∃ y, xi (E129 0) 22 = y := ⟨_, rfl⟩
              have fy132 : xv (E129 0) 22 = .int y132 := (hI.fi 0 (Nat.le_of_ble_eq_true rfl) rfl (Nat.le_of_ble_eq_true rfl) rfl).trans (congrArg Value.int ey132)
              have iy132 : -1 ≤ y132.toInt ∧ y132.toInt ≤ 201 := by rw [← ey132]; exact hI.iv 0 (Nat.le_of_ble_eq_true rfl) rfl (Nat.le_of_ble_eq_true rfl) rfl
              obtain ⟨y133, ey133⟩ : ∃ y, xi (E129 0) 23 = y := ⟨_, rfl⟩
              have fy133 : xv (E129 0) 23 = .int y133 := (hI.fi 0 (Nat.le_of_ble_eq_true rfl) rfl (Nat.le_of_ble_eq_true rfl) rfl).trans (congrArg Value.int ey133)
              have iy133 : 0 ≤ y133.toInt ∧ y133.toInt ≤ 8 := by rw [← ey133]; exact hI.iv 0 (Nat.le_of_ble_eq_true rfl) rfl (Nat.le_of_ble_eq_true rfl) rfl
              obtain ⟨f134, f135, f136, f137, f138⟩ := hw
              try rw [(show xi (E49 0) 21 = y51 from vi_e fy51)] at f134
              try rw [(show xi (E129 0) 21 = y131 from vi_e fy131)] at f134
              try rw [(show xi (E49 0) 23 = y3 from vi_e ((kq50 0 23 rfl).trans ((kq39 0 23 rfl).trans ((pw35.2 0 23 (fun q9 => absurd q9.2 (Nat.ne_of_beq_eq_false rfl))).trans ((kq6 0 23 rfl).trans fy3)))))] at f135
              try rw [(show xi (E129 0) 23 = y133 from vi_e fy133)] at f135
              try rw [(show xi (E49 0) 22 = y41 from vi_e ((kq50 0 22 rfl).trans fy41))] at f136
              try rw [(show xi (E49 0) 23 = y3 from vi_e ((kq50 0 23 rfl).trans ((kq39 0 23 rfl).trans ((pw35.2 0 23 (fun q9 => absurd q9.2 (Nat.ne_of_beq_eq_false rfl))).trans ((kq6 0 23 rfl).trans fy3)))))] at f136
              try rw [(show xi (E129 0) 22 = y132 from vi_e fy132)] at f136
              try rw [(show xi (E129 0) 23 = y133 from vi_e fy133)] at f136
              try rw [(show xi (E49 0) 22 = y41 from vi_e ((kq50 0 22 rfl).trans fy41))] at f137
              try rw [(show xi (E129 0) 22 = y132 from vi_e fy132)] at f137
              refine lv_istore_n (lv' := [(3, .int r128), (4, .int r48), (2, .int 1), (1, .int r4), (0, .ref (ad 0))]) hx hb dX13_clause_99 rfl hl (by decide) rfl (fun ls hl => ?_)
              refine lv_aload_n hx hb dX13_clause_100 rfl (lv_at hl 4 rfl) ?_
              refine th_get (ci := 14) (C := RX13) (T := TX13) (N := 97) (v := .int y132) hx hb hts hinX13 hown hK hP hI 0 (Nat.le_of_ble_eq_true rfl) rfl rfl 22 (Nat.le_of_ble_eq_true rfl) (hts _ (vA_in _ _ (in_25 _ (zs16 (zs16 (zs4 (zs1 (zs1 (zs1 (zs0)))))))))) (fun _ h9 => h9) fy132 dX13_clause_101 ?_
              refine lv_iconst (v := -1) hx hb dX13_clause_104 (by decide) ?_
              refine lv_icmp_ne (tgt := 140) hx hb dX13_clause_105 (by decide) (fun c139 => ?_) (fun c139 => ?_)
              · --105 taken
                have t140 : ¬ y132.toInt = -1 := ti_ne c139
                have i141 : 0 ≤ y132.toInt ∧ y132.toInt ≤ 201 := iv_ne_l t140 iy132 (il_ (-1))
                refine lv_aload_n hx hb dX13_clause_140 rfl (lv_at hl 4 rfl) ?_
                refine th_get (ci := 14) (C := RX13) (T := TX13) (N := 97) (v := .int y132) hx hb hts hinX13 hown hK hP hI 0 (Nat.le_of_ble_eq_true rfl) rfl rfl 22 (Nat.le_of_ble_eq_true rfl) (hts _ (vA_in _ _ (in_25 _ (zs16 (zs16 (zs4 (zs1 (zs1 (zs1 (zs0)))))))))) (fun _ h9 => h9) fy132 dX13_clause_141 ?_
                refine lv_iconst (v := -1) hx hb dX13_clause_144 (by decide) ?_
                refine lv_icmp_ne (tgt := 167) hx hb dX13_clause_145 (by decide) (fun c142 => ?_) (fun c142 => ?_)
                · --145 taken
                  have t143 : ¬ y132.toInt = -1 := ti_ne c142
                  rw [hQ]
                  exact W.vret hx hb hr (fun t ht hW => ⟨⟨E129, rfl, ⟨hI, hKp, ⟨by (try rw [(show xi (E129 0) 21 = y131 from vi_e fy131)]); (try rw [ey1]); first | done | exact (Int.le_trans (Int.le_trans (Int.le_trans (Int.le_trans f9 (Int.le_trans (Int.le_add_of_nonneg_right (by decide)) (Int.le_of_eq ty32.symm))) f45) f53) f134) | all_goals omega, by (try rw [(show xi (E129 0) 23 = y133 from vi_e fy133)]); (try rw [ey3]); first | done | exact f135 | all_goals omega, by (try rw [(show xi (E129 0) 22 = y132 from vi_e fy132)]); (try rw [(show xi (E129 0) 23 = y133 from vi_e fy133)]); (try rw [ey2]); (try rw [ey3]); first | done | exact fun q9 => absurd (q9) t143 | all_goals omega, by (try rw [(show xi (E129 0) 22 = y132 from vi_e fy132)]); (try rw [ey2]); first | done | exact fun q9 => absurd (q9) t143 | all_goals omega, clM f12 (ix_lab.mp (by rw [← f28]; omega)) k36 f46 KM.rf (vM_s f56 (by omega) f138 (RdL.dead (r := 0) (by show ¬ (xi (E129 0) 22).toInt = -1; rw [show xi (E129 0) 22 = y132 from vi_e fy132]; omega)) (by decide)) KM.rf⟩⟩, by show va_P (dC, dI) vwCl (WX 72 ad E129) t.heap; rw [ht]; exact hP⟩, hS.F ht⟩) hS.2.2 dX13_clause_167
                · --145 not
                  have t144 : y132.toInt = -1 := ti_eq c142
                  have i145 : 0 ≤ y132.toInt ∧ y132.toInt ≤ -1 := iv_eqi t144 i141 (il_ (-1)) (by decide)
                  exact iv_no i145 (by decide)
              · --105 not
                have t146 : y132.toInt = -1 := ti_eq c139
                have i147 : -1 ≤ y132.toInt ∧ y132.toInt ≤ -1 := iv_eqi t146 iy132 (il_ (-1)) (by decide)
                refine lv_aload_n hx hb dX13_clause_108 rfl (lv_at hl 4 rfl) ?_
                refine th_i (va_runV (As := []) (rest := []) ⟨hx, hb, hml, hown, hts⟩ (q_lookX l dC dI cT ad E129 H.size k nl hI (by exact hh0) (by exact hh1) (by exact hh2) (by exact (hKp 0 18 rfl).trans hh3) (by (try rw [hKp.ei 0 19 rfl]); exact hh4)) (cwV 0 hts (gi_V (in_26 _ (zs1 (zs1 (zs0)))) (in_26 _ (zs1 (zs1 (zs1 (zs0))))) (in_26 _ (zs4 (zs0))) (in_24 _ (zs4 (zs4 (zs4 (zs1 (zs1 (zs1 (zs0)))))))) (in_26 _ (zs4 (zs1 (zs0))))) rfl rfl rfl ⟨rfl, hz_yX13_look_0⟩ ⟨Nat.le_of_ble_eq_true rfl, Nat.le_of_ble_eq_true rfl⟩) ⟨HW_bl, va_recv hK hP (ci := 14) (q0 := 0) rfl (hI.ob 0 (Nat.le_of_ble_eq_true rfl) rfl), (HW_wi hP hK (WX_D hD) hS hA hEV)⟩ rfl rfl hl.1 rfl (lv_room (Nat.le_of_ble_eq_true rfl)) dX13_clause_109 ⟨Nat.le_of_ble_eq_true rfl, Nat.le_of_ble_eq_true rfl⟩) (WX_D hD) hS hA (fun r148 E149 H locs hw hP hS => ?_)
                obtain ⟨hI, kq150, hw⟩ := hw
                have hKb := hKp
                have hKp := hKp.tr kq150 (wl_sub rfl rfl)
                obtain ⟨y151, ey151⟩ : ∃ y, xi (E149 0) 21 = y := ⟨_, rfl⟩
                have fy151 : xv (E149 0) 21 = .int y151 := (hI.fi 0 (Nat.le_of_ble_eq_true rfl) rfl (Nat.le_of_ble_eq_true rfl) rfl).trans (congrArg Value.int ey151)
                have iy151 : 0 ≤ y151.toInt ∧ y151.toInt ≤ 201 := by rw [← ey151]; exact hI.iv 0 (Nat.le_of_ble_eq_true rfl) rfl (Nat.le_of_ble_eq_true rfl) rfl
                obtain ⟨f152, f153, f154, f155, f156⟩ := hw
                try rw [(show xi (E129 0) 21 = y131 from vi_e fy131)] at f153
                try rw [(show xi (E149 0) 21 = y151 from vi_e fy151)] at f153
                try rw [(show xi (E129 0) 21 = y131 from vi_e fy131)] at f154
                try rw [hKb.ei 0 20 rfl] at f154
                try rw [(show xi (E149 0) 21 = y151 from vi_e fy151)] at f154
                try rw [(show xi (E129 0) 21 = y131 from vi_e fy131)] at f155
                try rw [hKb.ei 0 20 rfl] at f155
                try rw [(show xi (E149 0) 21 = y151 from vi_e fy151)] at f155
                refine th_pi (va_runS (As := [.int r148]) (rest := []) ⟨hx, hb, hml, hown, hts⟩ (q_isSignX l r148) (va_cwS 1 hts (gi_S (in_29 _ (zs16 (zs4 (zs4 (zs4 (zs1 (zs1 (zs0)))))))) (in_29 _ (zs16 (zs4 (zs4 (zs4 (zs1 (zs1 (zs1 (zs0))))))))) (in_24 _ (zs4 (zs4 (zs4 (zs1 (zs1 (zs1 (zs0)))))))) (in_29 _ (zs16 (zs16 (zs0))))) rfl rfl rfl hz_yX13_isSign_1 ⟨Nat.le_of_ble_eq_true rfl, Nat.le_of_ble_eq_true rfl⟩) ⟨fun _ _ _ _ q => q, fun _ _ _ => ⟨rfl, trivial⟩⟩ rfl rfl hl.1 rfl (lv_room (Nat.le_of_ble_eq_true rfl)) dX13_clause_112 ⟨Nat.le_of_ble_eq_true rfl, Nat.le_of_ble_eq_true rfl⟩) hS (fun r157 H1 locs1 hw hk1 hS => ?_)
                have hP := ub_keep hP hk1
                generalize H1 = H at hP hS ⊢
                generalize locs1 = locs at hS ⊢
                rcases hw with hw | hw
                · -- isSignX, case 0
                  obtain ⟨rfl, f158⟩ := hw
                  refine lv_if_eq (tgt := 140) hx hb dX13_clause_115 (by decide) (fun c159 => ?_) (fun c159 => ?_)
                  · --115 taken
                    exact absurd c159 (by decide)
                  · --115 not
                    refine lv_aload_n hx hb dX13_clause_118 rfl (lv_at hl 4 rfl) ?_
                    refine lv_iconst (v := 1) hx hb dX13_clause_119 (by decide) ?_
                    refine lv_iload_n hx hb dX13_clause_120 rfl (lv_at hl 0 rfl) ?_
                    have z1 := ln_1
                    refine th_i (va_runV (As := [.int 1, .int r128]) (rest := []) ⟨hx, hb, hml, hown, hts⟩ ((q_groupX l 8).2.2 dC dI cT ad E149 H.size (1 : Int32) r128 k nl hI (by exact hh0) (by exact hh1) (by exact hh2) (by exact (hKp 0 18 rfl).trans hh3) (by (try rw [hKp.ei 0 19 rfl]); exact hh4) (by (try rw [(show xi (E149 0) 23 = y133 from vi_e ((kq150 0 23 rfl).trans fy133))]); omega) (by (try rw [(show xi (E149 0) 22 = y132 from vi_e ((kq150 0 22 rfl).trans fy132))]); omega) (iv_w ln_1 (by decide))) (cwV 2 hts (gi_V (in_29 _ (zs16 (zs1 (zs1 (zs0))))) (in_29 _ (zs16 (zs1 (zs1 (zs1 (zs0)))))) (in_29 _ (zs16 (zs4 (zs0)))) (in_24 _ (zs4 (zs4 (zs4 (zs1 (zs1 (zs1 (zs0)))))))) (in_29 _ (zs16 (zs4 (zs1 (zs0)))))) rfl rfl rfl (by decide +kernel) ⟨(show 7 * 8 + 11 + 1 ≤ 68 from Nat.le_of_ble_eq_true rfl), (show 8 + (5 + 11) + 40 * (7 * 8 + 11) ≤ 40 * (68) from Nat.le_of_ble_eq_true rfl)⟩) ⟨HW_bl, va_recv hK hP (ci := 14) (q0 := 0) rfl (hI.ob 0 (Nat.le_of_ble_eq_true rfl) rfl), (HW_wi hP hK (WX_D hD) hS hA hEV)⟩ rfl rfl hl.1 rfl (lv_room (Nat.le_of_ble_eq_true rfl)) dX13_clause_121 ⟨Nat.le_of_ble_eq_true rfl, Nat.le_of_ble_eq_true rfl⟩) (WX_D hD) hS hA (fun r160 E161 H locs hw hP hS => ?_)
                    obtain ⟨hI, kq162, hw⟩ := hw
                    have hKb := hKp
                    have hKp := hKp.tr kq162 (wl_sub rfl rfl)
                    obtain ⟨y163, ey163⟩ : ∃ y, xi (E161 0) 21 = y := ⟨_, rfl⟩
                    have fy163 : xv (E161 0) 21 = .int y163 := (hI.fi 0 (Nat.le_of_ble_eq_true rfl) rfl (Nat.le_of_ble_eq_true rfl) rfl).trans (congrArg Value.int ey163)
                    have iy163 : 0 ≤ y163.toInt ∧ y163.toInt ≤ 201 := by rw [← ey163]; exact hI.iv 0 (Nat.le_of_ble_eq_true rfl) rfl (Nat.le_of_ble_eq_true rfl) rfl
                    obtain ⟨y164, ey164⟩ : ∃ y, xi (E161 0) 22 = y := ⟨_, rfl⟩
                    have fy164 : xv (E161 0) 22 = .int y164 := (hI.fi 0 (Nat.le_of_ble_eq_true rfl) rfl (Nat.le_of_ble_eq_true rfl) rfl).trans (congrArg Value.int ey164)
                    have iy164 : -1 ≤ y164.toInt ∧ y164.toInt ≤ 201 := by rw [← ey164]; exact hI.iv 0 (Nat.le_of_ble_eq_true rfl) rfl (Nat.le_of_ble_eq_true rfl) rfl
                    obtain ⟨y165, ey165⟩ : ∃ y, xi (E161 0) 23 = y := ⟨_, rfl⟩
                    have fy165 : xv (E161 0) 23 = .int y165 := (hI.fi 0 (Nat.le_of_ble_eq_true rfl) rfl (Nat.le_of_ble_eq_true rfl) rfl).trans (congrArg Value.int ey165)
                    have iy165 : 0 ≤ y165.toInt ∧ y165.toInt ≤ 8 := by rw [← ey165]; exact hI.iv 0 (Nat.le_of_ble_eq_true rfl) rfl (Nat.le_of_ble_eq_true rfl) rfl
                    obtain ⟨f166, f167, f168, f169, f170, f171⟩ := hw
                    try rw [(show xi (E149 0) 21 = y151 from vi_e fy151)] at f167
                    try rw [(show xi (E161 0) 21 = y163 from vi_e fy163)] at f167
                    try rw [(show xi (E149 0) 23 = y133 from vi_e ((kq150 0 23 rfl).trans fy133))] at f168
                    try rw [(show xi (E161 0) 23 = y165 from vi_e fy165)] at f168
                    try rw [(show xi (E149 0) 22 = y132 from vi_e ((kq150 0 22 rfl).trans fy132))] at f169
                    try rw [(show xi (E149 0) 23 = y133 from vi_e ((kq150 0 23 rfl).trans fy133))] at f169
                    try rw [(show xi (E161 0) 22 = y164 from vi_e fy164)] at f169
                    try rw [(show xi (E161 0) 23 = y165 from vi_e fy165)] at f169
                    try rw [(show xi (E149 0) 22 = y132 from vi_e ((kq150 0 22 rfl).trans fy132))] at f170
                    try rw [(show xi (E161 0) 22 = y164 from vi_e fy164)] at f170
                    refine lv_istore_n (lv' := [(2, .int r160), (3, .int r128), (4, .int r48), (1, .int r4), (0, .ref (ad 0))]) hx hb dX13_clause_124 rfl hl (by decide) rfl (fun ls hl => ?_)
                    refine lv_aload_n hx hb dX13_clause_125 rfl (lv_at hl 4 rfl) ?_
                    refine lv_bipush (v := 63) hx hb dX13_clause_126 (by decide) ?_
                    have z63 := ln_63
                    refine th_i (va_runV (As := [.int 63]) (rest := []) ⟨hx, hb, hml, hown, hts⟩ (q_takesX l dC dI cT ad E161 H.size (63 : Int32) k nl hI (by exact hh0) (by exact hh1) (by exact hh2) (by exact (hKp 0 18 rfl).trans hh3) (by (try rw [hKp.ei 0 19 rfl]); exact hh4) (iv_w ln_63 (by decide))) (cwV 1 hts (gi_V (in_26 _ (zs16 (zs1 (zs1 (zs1 (zs0)))))) (in_26 _ (zs16 (zs4 (zs0)))) (in_26 _ (zs16 (zs4 (zs1 (zs0))))) (in_24 _ (zs4 (zs4 (zs4 (zs1 (zs1 (zs1 (zs0)))))))) (in_26 _ (zs16 (zs4 (zs1 (zs1 (zs0))))))) rfl rfl rfl ⟨rfl, hz_yX13_takes_1⟩ ⟨Nat.le_of_ble_eq_true rfl, Nat.le_of_ble_eq_true rfl⟩) ⟨HW_bl, va_recv hK hP (ci := 14) (q0 := 0) rfl (hI.ob 0 (Nat.le_of_ble_eq_true rfl) rfl), (HW_wi hP hK (WX_D hD) hS hA hEV)⟩ rfl rfl hl.1 rfl (lv_room (Nat.le_of_ble_eq_true rfl)) dX13_clause_128 ⟨Nat.le_of_ble_eq_true rfl, Nat.le_of_ble_eq_true rfl⟩) (WX_D hD) hS hA (fun r172 E173 H locs hw hP hS => ?_)
                    obtain ⟨hI, kq174, hw⟩ := hw
                    have hKb := hKp
                    have hKp := hKp.tr kq174 (wl_sub rfl rfl)
                    obtain ⟨y175, ey175⟩ : ∃ y, xi (E173 0) 21 = y := ⟨_, rfl⟩
                    have fy175 : xv (E173 0) 21 = .int y175 := (hI.fi 0 (Nat.le_of_ble_eq_true rfl) rfl (Nat.le_of_ble_eq_true rfl) rfl).trans (congrArg Value.int ey175)
                    have iy175 : 0 ≤ y175.toInt ∧ y175.toInt ≤ 201 := by rw [← ey175]; exact hI.iv 0 (Nat.le_of_ble_eq_true rfl) rfl (Nat.le_of_ble_eq_true rfl) rfl
                    obtain ⟨y176, ey176⟩ : ∃ y, xi (E173 0) 22 = y := ⟨_, rfl⟩
                    have fy176 : xv (E173 0) 22 = .int y176 := (hI.fi 0 (Nat.le_of_ble_eq_true rfl) rfl (Nat.le_of_ble_eq_true rfl) rfl).trans (congrArg Value.int ey176)
                    have iy176 : -1 ≤ y176.toInt ∧ y176.toInt ≤ 201 := by rw [← ey176]; exact hI.iv 0 (Nat.le_of_ble_eq_true rfl) rfl (Nat.le_of_ble_eq_true rfl) rfl
                    rcases hw with hw | hw
                    · -- takesX, case 0
                      obtain ⟨rfl, f177, f178, f179, f180, f181⟩ := hw
                      try rw [(show xi (E161 0) 22 = y164 from vi_e fy164)] at f177
                      try rw [(show xi (E173 0) 22 = y176 from vi_e fy176)] at f177
                      try rw [(show xi (E161 0) 22 = y164 from vi_e fy164)] at f178
                      try rw [(show xi (E173 0) 22 = y176 from vi_e fy176)] at f178
                      try rw [(show xi (E161 0) 21 = y163 from vi_e fy163)] at f179
                      try rw [(show xi (E173 0) 21 = y175 from vi_e fy175)] at f179
                      try rw [(show xi (E161 0) 21 = y163 from vi_e fy163)] at f180
                      try rw [(show xi (E173 0) 21 = y175 from vi_e fy175)] at f180
                      refine lv_if_ne (tgt := 135) hx hb dX13_clause_131 (by decide) (fun c182 => ?_) (fun c182 => ?_)
                      · --131 taken
                        refine lv_aload_n hx hb dX13_clause_135 rfl (lv_at hl 4 rfl) ?_
                        refine th_i (va_runV (As := []) (rest := []) ⟨hx, hb, hml, hown, hts⟩ ((q_groupX l 8).1 dC dI cT ad E173 H.size k nl hI (by exact hh0) (by exact hh1) (by exact hh2) (by exact (hKp 0 18 rfl).trans hh3) (by (try rw [hKp.ei 0 19 rfl]); exact hh4) (by (try rw [(show xi (E173 0) 23 = y165 from vi_e ((kq174 0 23 rfl).trans fy165))]); omega) (by (try rw [(show xi (E173 0) 22 = y176 from vi_e fy176)]); omega)) (cwV 0 hts (gi_V (in_26 _ (zs16 (zs0))) (in_26 _ (zs16 (zs1 (zs0)))) (in_26 _ (zs16 (zs1 (zs1 (zs0))))) (in_24 _ (zs4 (zs4 (zs4 (zs1 (zs1 (zs1 (zs0)))))))) (in_26 _ (zs16 (zs4 (zs4 (zs1 (zs1 (zs1 (zs0))))))))) rfl rfl rfl (by decide +kernel) ⟨(show 7 * 8 + 7 + 1 ≤ 68 from Nat.le_of_ble_eq_true rfl), (show 8 + (5 + 11) + 40 * (7 * 8 + 7) ≤ 40 * (68) from Nat.le_of_ble_eq_true rfl)⟩) ⟨HW_bl, va_recv hK hP (ci := 14) (q0 := 0) rfl (hI.ob 0 (Nat.le_of_ble_eq_true rfl) rfl), (HW_wi hP hK (WX_D hD) hS hA hEV)⟩ rfl rfl hl.1 rfl (lv_room (Nat.le_of_ble_eq_true rfl)) dX13_clause_136 ⟨Nat.le_of_ble_eq_true rfl, Nat.le_of_ble_eq_true rfl⟩) (WX_D hD) hS hA (fun r183 E184 H locs hw hP hS => ?_)
                        obtain ⟨hI, kq185, hw⟩ := hw
                        have hKb := hKp
                        have hKp := hKp.tr kq185 (wl_sub rfl rfl)
                        obtain ⟨y186, ey186⟩ : ∃ y, xi (E184 0) 21 = y := ⟨_, rfl⟩
                        have fy186 : xv (E184 0) 21 = .int y186 := (hI.fi 0 (Nat.le_of_ble_eq_true rfl) rfl (Nat.le_of_ble_eq_true rfl) rfl).trans (congrArg Value.int ey186)
                        have iy186 : 0 ≤ y186.toInt ∧ y186.toInt ≤ 201 := by rw [← ey186]; exact hI.iv 0 (Nat.le_of_ble_eq_true rfl) rfl (Nat.le_of_ble_eq_true rfl) rfl
                        obtain ⟨y187, ey187⟩ : ∃ y, xi (E184 0) 22 = y := ⟨_, rfl⟩
                        have fy187 : xv (E184 0) 22 = .int y187 := (hI.fi 0 (Nat.le_of_ble_eq_true rfl) rfl (Nat.le_of_ble_eq_true rfl) rfl).trans (congrArg Value.int ey187)
                        have iy187 : -1 ≤ y187.toInt ∧ y187.toInt ≤ 201 := by rw [← ey187]; exact hI.iv 0 (Nat.le_of_ble_eq_true rfl) rfl (Nat.le_of_ble_eq_true rfl) rfl
                        obtain ⟨y188, ey188⟩ : ∃ y, xi (E184 0) 23 = y := ⟨_, rfl⟩
                        have fy188 : xv (E184 0) 23 = .int y188 := (hI.fi 0 (Nat.le_of_ble_eq_true rfl) rfl (Nat.le_of_ble_eq_true rfl) rfl).trans (congrArg Value.int ey188)
                        have iy188 : 0 ≤ y188.toInt ∧ y188.toInt ≤ 8 := by rw [← ey188]; exact hI.iv 0 (Nat.le_of_ble_eq_true rfl) rfl (Nat.le_of_ble_eq_true rfl) rfl
                        obtain ⟨f189, f190, f191, f192, f193⟩ := hw
                        try rw [(show xi (E173 0) 21 = y175 from vi_e fy175)] at f189
                        try rw [(show xi (E184 0) 21 = y186 from vi_e fy186)] at f189
                        try rw [(show xi (E173 0) 23 = y165 from vi_e ((kq174 0 23 rfl).trans fy165))] at f190
                        try rw [(show xi (E184 0) 23 = y188 from vi_e fy188)] at f190
                        try rw [(show xi (E173 0) 22 = y176 from vi_e fy176)] at f191
                        try rw [(show xi (E173 0) 23 = y165 from vi_e ((kq174 0 23 rfl).trans fy165))] at f191
                        try rw [(show xi (E184 0) 22 = y187 from vi_e fy187)] at f191
                        try rw [(show xi (E184 0) 23 = y188 from vi_e fy188)] at f191
                        try rw [(show xi (E173 0) 22 = y176 from vi_e fy176)] at f192
                        try rw [(show xi (E184 0) 22 = y187 from vi_e fy187)] at f192
                        refine lv_istore_n (lv' := [(3, .int r183), (2, .int r160), (4, .int r48), (1, .int r4), (0, .ref (ad 0))]) hx hb dX13_clause_139 rfl hl (by decide) rfl (fun ls hl => ?_)
                        refine lv_aload_n hx hb dX13_clause_140 rfl (lv_at hl 4 rfl) ?_
                        refine th_get (ci := 14) (C := RX13) (T := TX13) (N := 97) (v := .int y187) hx hb hts hinX13 hown hK hP hI 0 (Nat.le_of_ble_eq_true rfl) rfl rfl 22 (Nat.le_of_ble_eq_true rfl) (hts _ (vA_in _ _ (in_25 _ (zs16 (zs16 (zs4 (zs1 (zs1 (zs1 (zs0)))))))))) (fun _ h9 => h9) fy187 dX13_clause_141 ?_
                        refine lv_iconst (v := -1) hx hb dX13_clause_144 (by decide) ?_
                        refine lv_icmp_ne (tgt := 167) hx hb dX13_clause_145 (by decide) (fun c194 => ?_) (fun c194 => ?_)
                        · --145 taken
                          have t195 : ¬ y187.toInt = -1 := ti_ne c194
                          have i196 : 0 ≤ y187.toInt ∧ y187.toInt ≤ 201 := iv_ne_l t195 iy187 (il_ (-1))
                          rw [hQ]
                          exact W.vret hx hb hr (fun t ht hW => ⟨⟨E184, rfl, ⟨hI, hKp, ⟨by (try rw [(show xi (E184 0) 21 = y186 from vi_e fy186)]); (try rw [ey1]); first | done | exact (Int.le_trans (Int.le_trans (Int.le_trans (Int.le_trans (Int.le_trans (Int.le_trans (Int.le_trans (Int.le_trans f9 (Int.le_trans (Int.le_add_of_nonneg_right (by decide)) (Int.le_of_eq ty32.symm))) f45) f53) f134) f153) f167) f180) f189) | all_goals omega, by (try rw [(show xi (E184 0) 23 = y188 from vi_e fy188)]); (try rw [ey3]); first | done | exact (Int.le_trans (Int.le_trans f135 f168) f190) | all_goals omega, by (try rw [(show xi (E184 0) 22 = y187 from vi_e fy187)]); (try rw [(show xi (E184 0) 23 = y188 from vi_e fy188)]); (try rw [ey2]); (try rw [ey3]); first | done | exact fun q9 => absurd (q9) t195 | all_goals omega, by (try rw [(show xi (E184 0) 22 = y187 from vi_e fy187)]); (try rw [ey2]); first | done | exact fun q9 => absurd (q9) t195 | all_goals omega, clM f12 (ix_lab.mp (by rw [← f28]; omega)) k36 f46 KM.rf (vM_b f56 (by omega) f138 f156 (is_cmp.mpr (by omega)) f171 (qmC f181 KM.rf f193 KM.rf)) KM.rf⟩⟩, by show va_P (dC, dI) vwCl (WX 72 ad E184) t.heap; rw [ht]; exact hP⟩, hS.F ht⟩) hS.2.2 dX13_clause_167
                        · --145 not
                          have t197 : y187.toInt = -1 := ti_eq c194
                          have i198 : -1 ≤ y187.toInt ∧ y187.toInt ≤ -1 := iv_eqi t197 iy187 (il_ (-1)) (by decide)
                          refine lv_aload_n hx hb dX13_clause_148 rfl (lv_at hl 4 rfl) ?_
                          obtain ⟨y199, ey199⟩ : ∃ y, xi (E184 0) 26 = y := ⟨_, rfl⟩
                          have fy199 : xv (E184 0) 26 = .int y199 := (hI.fi 0 (Nat.le_of_ble_eq_true rfl) rfl (Nat.le_of_ble_eq_true rfl) rfl).trans (congrArg Value.int ey199)
                          have iy199 : 0 ≤ y199.toInt ∧ y199.toInt ≤ 1 := by rw [← ey199]; exact hI.iv 0 (Nat.le_of_ble_eq_true rfl) rfl (Nat.le_of_ble_eq_true rfl) rfl
                          refine th_get (ci := 14) (C := RX13) (T := TX13) (N := 97) (v := .int y199) hx hb hts hinX13 hown hK hP hI 0 (Nat.le_of_ble_eq_true rfl) rfl rfl 26 (Nat.le_of_ble_eq_true rfl) (hts _ (vA_in _ _ (in_29 _ (zs4 (zs4 (zs4 (zs1 (zs0)))))))) (fun _ h9 => h9) fy199 dX13_clause_149 ?_
                          refine lv_if_ne (tgt := 167) hx hb dX13_clause_152 (by decide) (fun c200 => ?_) (fun c200 => ?_)
                          · --152 taken
                            have t201 : ¬ y199.toInt = 0 := ti_ne c200
                            have i202 : 1 ≤ y199.toInt ∧ y199.toInt ≤ 1 := iv_ne_l t201 iy199 (il_ 0)
                            rw [hQ]
                            exact W.vret hx hb hr (fun t ht hW => ⟨⟨E184, rfl, ⟨hI, hKp, ⟨by (try rw [(show xi (E184 0) 21 = y186 from vi_e fy186)]); (try rw [ey1]); first | done | exact (Int.le_trans (Int.le_trans (Int.le_trans (Int.le_trans (Int.le_trans (Int.le_trans (Int.le_trans (Int.le_trans f9 (Int.le_trans (Int.le_add_of_nonneg_right (by decide)) (Int.le_of_eq ty32.symm))) f45) f53) f134) f153) f167) f180) f189) | all_goals omega, by (try rw [(show xi (E184 0) 23 = y188 from vi_e fy188)]); (try rw [ey3]); first | done | exact (Int.le_trans (Int.le_trans f135 f168) f190) | all_goals omega, by (try rw [(show xi (E184 0) 22 = y187 from vi_e fy187)]); (try rw [(show xi (E184 0) 23 = y188 from vi_e fy188)]); (try rw [ey2]); (try rw [ey3]); first | done | exact fun q9 => ((f191 (q9)).trans ((f169 (f177)).trans (f136 (f170 (f177))))) | all_goals omega, by (try rw [(show xi (E184 0) 22 = y187 from vi_e fy187)]); (try rw [ey2]); first | done | exact fun q9 => f42 | all_goals omega, clM f12 (ix_lab.mp (by rw [← f28]; omega)) k36 f46 KM.rf (vM_b f56 (by omega) f138 f156 (is_cmp.mpr (by omega)) f171 (qmC f181 KM.rf f193 KM.rf)) KM.rf⟩⟩, by show va_P (dC, dI) vwCl (WX 72 ad E184) t.heap; rw [ht]; exact hP⟩, hS.F ht⟩) hS.2.2 dX13_clause_167
                          · --152 not
                            have t203 : y199.toInt = 0 := ti_eq c200
                            have i204 : 0 ≤ y199.toInt ∧ y199.toInt ≤ 0 := iv_eqi t203 iy199 (il_ 0) (by decide)
                            refine lv_iload_n hx hb dX13_clause_155 rfl (lv_at hl 3 rfl) ?_
                            refine lv_aload_n hx hb dX13_clause_156 rfl (lv_at hl 4 rfl) ?_
                            have i205 : 0 ≤ (xi (E 0) 24).toInt ∧ (xi (E 0) 24).toInt ≤ 127 := hI0.iv 0 (Nat.le_of_ble_eq_true rfl) rfl (Nat.le_of_ble_eq_true rfl) rfl
                            refine th_get (ci := 14) (C := RX13) (T := TX13) (N := 97) (v := .int (xi (E 0) 24)) hx hb hts hinX13 hown hK hP hI 0 (Nat.le_of_ble_eq_true rfl) rfl rfl 24 (Nat.le_of_ble_eq_true rfl) (hts _ (vA_in _ _ (in_29 _ (zs4 (zs4 (zs4 (zs0))))))) (fun _ h9 => h9) (th_v0 hKp hI0 0 (Nat.le_of_ble_eq_true rfl) rfl (Nat.le_of_ble_eq_true rfl) rfl rfl) dX13_clause_157 ?_
                            refine lv_icmp_ne (tgt := 167) hx hb dX13_clause_160 (by decide) (fun c206 => ?_) (fun c206 => ?_)
                            · --160 taken
                              have t207 : ¬ r4.toInt = (xi (E 0) 24).toInt := ti_ne c206
                              rw [hQ]
                              exact W.vret hx hb hr (fun t ht hW => ⟨⟨E184, rfl, ⟨hI, hKp, ⟨by (try rw [(show xi (E184 0) 21 = y186 from vi_e fy186)]); (try rw [ey1]); first | done | exact (Int.le_trans (Int.le_trans (Int.le_trans (Int.le_trans (Int.le_trans (Int.le_trans (Int.le_trans (Int.le_trans f9 (Int.le_trans (Int.le_add_of_nonneg_right (by decide)) (Int.le_of_eq ty32.symm))) f45) f53) f134) f153) f167) f180) f189) | all_goals omega, by (try rw [(show xi (E184 0) 23 = y188 from vi_e fy188)]); (try rw [ey3]); first | done | exact (Int.le_trans (Int.le_trans f135 f168) f190) | all_goals omega, by (try rw [(show xi (E184 0) 22 = y187 from vi_e fy187)]); (try rw [(show xi (E184 0) 23 = y188 from vi_e fy188)]); (try rw [ey2]); (try rw [ey3]); first | done | exact fun q9 => ((f191 (q9)).trans ((f169 (f177)).trans (f136 (f170 (f177))))) | all_goals omega, by (try rw [(show xi (E184 0) 22 = y187 from vi_e fy187)]); (try rw [ey2]); first | done | exact fun q9 => f42 | all_goals omega, clM f12 (ix_lab.mp (by rw [← f28]; omega)) k36 f46 KM.rf (vM_b f56 (by omega) f138 f156 (is_cmp.mpr (by omega)) f171 (qmC f181 KM.rf f193 KM.rf)) KM.rf⟩⟩, by show va_P (dC, dI) vwCl (WX 72 ad E184) t.heap; rw [ht]; exact hP⟩, hS.F ht⟩) hS.2.2 dX13_clause_167
                            · --160 not
                              have t208 : r4.toInt = (xi (E 0) 24).toInt := ti_eq c206
                              have i209 : 0 ≤ r4.toInt ∧ r4.toInt ≤ 127 := iv_eqi t208 i25 i205 (by decide)
                              refine lv_iload_n hx hb dX13_clause_163 rfl (lv_at hl 1 rfl) ?_
                              refine lv_if_ne (tgt := 168) hx hb dX13_clause_164 (by decide) (fun c210 => ?_) (fun c210 => ?_)
                              · --164 taken
                                have t211 : ¬ r160.toInt = 0 := ti_ne c210
                                have i212 : 1 ≤ r160.toInt ∧ r160.toInt ≤ 1 := iv_ne_l t211 f166 (il_ 0)
                                refine lv_aload_n hx hb dX13_clause_168 rfl (lv_at hl 4 rfl) ?_
                                refine lv_iconst (v := 1) hx hb dX13_clause_169 (by decide) ?_
                                refine th_put (ci := 14) (C := RX13) (T := TX13) (N := 97) (v := .int 1) (ty := .boolean) hx hb hts hinX13 tyX13 tyX13_ok nmX13 hown hK hP (WX_D hD) hS hI 0 (Nat.le_of_ble_eq_true rfl) rfl rfl 26 (Nat.le_of_ble_eq_true rfl) (hts _ (vA_in _ _ (in_29 _ (zs4 (zs4 (zs4 (zs1 (zs0)))))))) (fun _ h9 => h9) rfl (by decide +kernel) rfl rfl (okI rfl (iv_w ln_1 (by decide))) dX13_clause_170 (fun H locs E213 pw214 hI hP hS => ?_)
                                have hKp := hKp.pw pw214 rfl
                                have k215 : KM k E184 E213 := KM.pw pw214.2 hk0 (by decide)
                                refine lv_aload_n hx hb dX13_clause_173 rfl (lv_at hl 4 rfl) ?_
                                refine lv_iload_n hx hb dX13_clause_174 rfl (lv_at hl 0 rfl) ?_
                                refine th_put (ci := 14) (C := RX13) (T := TX13) (N := 97) (v := .int r183) (ty := .int) hx hb hts hinX13 tyX13 tyX13_ok nmX13 hown hK hP (WX_D hD) hS hI 0 (Nat.le_of_ble_eq_true rfl) rfl rfl 25 (Nat.le_of_ble_eq_true rfl) (hts _ (vA_in _ _ (in_29 _ zs0))) (fun _ h9 => h9) rfl (by decide +kernel) rfl rfl (okI rfl (iv_all _)) dX13_clause_175 (fun H locs E216 pw217 hI hP hS => ?_)
                                have hKp := hKp.pw pw217 rfl
                                have k218 : KM k E213 E216 := KM.pw pw217.2 hk0 (by decide)
                                rw [hQ]
                                exact W.vret hx hb hr (fun t ht hW => ⟨⟨E216, rfl, ⟨hI, hKp, ⟨by (try rw [(show xi (E216 0) 21 = y186 from vi_e ((pw217.2 0 21 (fun q9 => absurd q9.2 (Nat.ne_of_beq_eq_false rfl))).trans ((pw214.2 0 21 (fun q9 => absurd q9.2 (Nat.ne_of_beq_eq_false rfl))).trans fy186)))]); (try rw [ey1]); first | done | exact (Int.le_trans (Int.le_trans (Int.le_trans (Int.le_trans (Int.le_trans (Int.le_trans (Int.le_trans (Int.le_trans f9 (Int.le_trans (Int.le_add_of_nonneg_right (by decide)) (Int.le_of_eq ty32.symm))) f45) f53) f134) f153) f167) f180) f189) | all_goals omega, by (try rw [(show xi (E216 0) 23 = y188 from vi_e ((pw217.2 0 23 (fun q9 => absurd q9.2 (Nat.ne_of_beq_eq_false rfl))).trans ((pw214.2 0 23 (fun q9 => absurd q9.2 (Nat.ne_of_beq_eq_false rfl))).trans fy188)))]); (try rw [ey3]); first | done | exact (Int.le_trans (Int.le_trans f135 f168) f190) | all_goals omega, by (try rw [(show xi (E216 0) 22 = y187 from vi_e ((pw217.2 0 22 (fun q9 => absurd q9.2 (Nat.ne_of_beq_eq_false rfl))).trans ((pw214.2 0 22 (fun q9 => absurd q9.2 (Nat.ne_of_beq_eq_false rfl))).trans fy187)))]); (try rw [(show xi (E216 0) 23 = y188 from vi_e ((pw217.2 0 23 (fun q9 => absurd q9.2 (Nat.ne_of_beq_eq_false rfl))).trans ((pw214.2 0 23 (fun q9 => absurd q9.2 (Nat.ne_of_beq_eq_false rfl))).trans fy188)))]); (try rw [ey2]); (try rw [ey3]); first | done | exact fun q9 => ((f191 (q9)).trans ((f169 (f177)).trans (f136 (f170 (f177))))) | all_goals omega, by (try rw [(show xi (E216 0) 22 = y187 from vi_e ((pw217.2 0 22 (fun q9 => absurd q9.2 (Nat.ne_of_beq_eq_false rfl))).trans ((pw214.2 0 22 (fun q9 => absurd q9.2 (Nat.ne_of_beq_eq_false rfl))).trans fy187)))]); (try rw [ey2]); first | done | exact fun q9 => f42 | all_goals omega, clM f12 (ix_lab.mp (by rw [← f28]; omega)) k36 f46 KM.rf (vM_b f56 (by omega) f138 f156 (is_cmp.mpr (by omega)) f171 (qmC f181 KM.rf f193 KM.rf)) (k215.tr k218)⟩⟩, by show va_P (dC, dI) vwCl (WX 72 ad E216) t.heap; rw [ht]; exact hP⟩, hS.F ht⟩) hS.2.2 dX13_clause_178
                              · --164 not
                                have t219 : r160.toInt = 0 := ti_eq c210
                                have i220 : 0 ≤ r160.toInt ∧ r160.toInt ≤ 0 := iv_eqi t219 f166 (il_ 0) (by decide)
                                rw [hQ]
                                exact W.vret hx hb hr (fun t ht hW => ⟨⟨E184, rfl, ⟨hI, hKp, ⟨by (try rw [(show xi (E184 0) 21 = y186 from vi_e fy186)]); (try rw [ey1]); first | done | exact (Int.le_trans (Int.le_trans (Int.le_trans (Int.le_trans (Int.le_trans (Int.le_trans (Int.le_trans (Int.le_trans f9 (Int.le_trans (Int.le_add_of_nonneg_right (by decide)) (Int.le_of_eq ty32.symm))) f45) f53) f134) f153) f167) f180) f189) | all_goals omega, by (try rw [(show xi (E184 0) 23 = y188 from vi_e fy188)]); (try rw [ey3]); first | done | exact (Int.le_trans (Int.le_trans f135 f168) f190) | all_goals omega, by (try rw [(show xi (E184 0) 22 = y187 from vi_e fy187)]); (try rw [(show xi (E184 0) 23 = y188 from vi_e fy188)]); (try rw [ey2]); (try rw [ey3]); first | done | exact fun q9 => ((f191 (q9)).trans ((f169 (f177)).trans (f136 (f170 (f177))))) | all_goals omega, by (try rw [(show xi (E184 0) 22 = y187 from vi_e fy187)]); (try rw [ey2]); first | done | exact fun q9 => f42 | all_goals omega, clM f12 (ix_lab.mp (by rw [← f28]; omega)) k36 f46 KM.rf (vM_b f56 (by omega) f138 f156 (is_cmp.mpr (by omega)) f171 (qmC f181 KM.rf f193 KM.rf)) KM.rf⟩⟩, by show va_P (dC, dI) vwCl (WX 72 ad E184) t.heap; rw [ht]; exact hP⟩, hS.F ht⟩) hS.2.2 dX13_clause_167
                      · --131 not
                        exact absurd c182 (by decide)
                    · -- takesX, case 1
                      obtain ⟨rfl, f221, f222, f223⟩ := hw
                      try rw [(show xi (E161 0) 22 = y164 from vi_e fy164)] at f221
                      try rw [(show xi (E173 0) 22 = y176 from vi_e fy176)] at f221
                      try rw [(show xi (E161 0) 21 = y163 from vi_e fy163)] at f222
                      try rw [(show xi (E173 0) 21 = y175 from vi_e fy175)] at f222
                      refine lv_if_ne (tgt := 135) hx hb dX13_clause_131 (by decide) (fun c224 => ?_) (fun c224 => ?_)
                      · --131 taken
                        exact absurd c224 (by decide)
                      · --131 not
                        rw [hQ]
                        exact W.vret hx hb hr (fun t ht hW => ⟨⟨E173, rfl, ⟨hI, hKp, ⟨by (try rw [(show xi (E173 0) 21 = y175 from vi_e fy175)]); (try rw [ey1]); first | done | exact (Int.le_trans (Int.le_trans (Int.le_trans (Int.le_trans (Int.le_trans (Int.le_trans (Int.le_trans f9 (Int.le_trans (Int.le_add_of_nonneg_right (by decide)) (Int.le_of_eq ty32.symm))) f45) f53) f134) f153) f167) f222) | all_goals omega, by (try rw [(show xi (E173 0) 23 = y165 from vi_e ((kq174 0 23 rfl).trans fy165))]); (try rw [ey3]); first | done | exact (Int.le_trans f135 f168) | all_goals omega, by (try rw [(show xi (E173 0) 22 = y176 from vi_e fy176)]); (try rw [(show xi (E173 0) 23 = y165 from vi_e ((kq174 0 23 rfl).trans fy165))]); (try rw [ey2]); (try rw [ey3]); first | done | exact fun q9 => absurd (q9) f221 | all_goals omega, by (try rw [(show xi (E173 0) 22 = y176 from vi_e fy176)]); (try rw [ey2]); first | done | exact fun q9 => absurd (q9) f221 | all_goals omega, clM f12 (ix_lab.mp (by rw [← f28]; omega)) k36 f46 KM.rf (vM_b f56 (by omega) f138 f156 (is_cmp.mpr (by omega)) f171 (qmC f223 KM.rf (RdM.dead (by show ¬ (xi (E173 0) 22).toInt = -1; rw [show xi (E173 0) 22 = y176 from vi_e fy176]; omega)) KM.rf)) KM.rf⟩⟩, by show va_P (dC, dI) vwCl (WX 72 ad E173) t.heap; rw [ht]; exact hP⟩, hS.F ht⟩) hS.2.2 dX13_clause_134
                · -- isSignX, case 1
                  obtain ⟨rfl, f225⟩ := hw
                  refine lv_if_eq (tgt := 140) hx hb dX13_clause_115 (by decide) (fun c226 => ?_) (fun c226 => ?_)
                  · --115 taken
                    refine lv_aload_n hx hb dX13_clause_140 rfl (lv_at hl 4 rfl) ?_
                    refine th_get (ci := 14) (C := RX13) (T := TX13) (N := 97) (v := .int y132) hx hb hts hinX13 hown hK hP hI 0 (Nat.le_of_ble_eq_true rfl) rfl rfl 22 (Nat.le_of_ble_eq_true rfl) (hts _ (vA_in _ _ (in_25 _ (zs16 (zs16 (zs4 (zs1 (zs1 (zs1 (zs0)))))))))) (fun _ h9 => h9) ((kq150 0 22 rfl).trans fy132) dX13_clause_141 ?_
                    refine lv_iconst (v := -1) hx hb dX13_clause_144 (by decide) ?_
                    refine lv_icmp_ne (tgt := 167) hx hb dX13_clause_145 (by decide) (fun c227 => ?_) (fun c227 => ?_)
                    · --145 taken
                      have t228 : ¬ y132.toInt = -1 := ti_ne c227
                      have i229 : 0 ≤ y132.toInt ∧ y132.toInt ≤ -1 := iv_ne_l t228 i147 (il_ (-1))
                      exact iv_no i229 (by decide)
                    · --145 not
                      have t230 : y132.toInt = -1 := ti_eq c227
                      refine lv_aload_n hx hb dX13_clause_148 rfl (lv_at hl 4 rfl) ?_
                      obtain ⟨y231, ey231⟩ : ∃ y, xi (E149 0) 26 = y := ⟨_, rfl⟩
                      have fy231 : xv (E149 0) 26 = .int y231 := (hI.fi 0 (Nat.le_of_ble_eq_true rfl) rfl (Nat.le_of_ble_eq_true rfl) rfl).trans (congrArg Value.int ey231)
                      have iy231 : 0 ≤ y231.toInt ∧ y231.toInt ≤ 1 := by rw [← ey231]; exact hI.iv 0 (Nat.le_of_ble_eq_true rfl) rfl (Nat.le_of_ble_eq_true rfl) rfl
                      refine th_get (ci := 14) (C := RX13) (T := TX13) (N := 97) (v := .int y231) hx hb hts hinX13 hown hK hP hI 0 (Nat.le_of_ble_eq_true rfl) rfl rfl 26 (Nat.le_of_ble_eq_true rfl) (hts _ (vA_in _ _ (in_29 _ (zs4 (zs4 (zs4 (zs1 (zs0)))))))) (fun _ h9 => h9) fy231 dX13_clause_149 ?_
                      refine lv_if_ne (tgt := 167) hx hb dX13_clause_152 (by decide) (fun c232 => ?_) (fun c232 => ?_)
                      · --152 taken
                        have t233 : ¬ y231.toInt = 0 := ti_ne c232
                        have i234 : 1 ≤ y231.toInt ∧ y231.toInt ≤ 1 := iv_ne_l t233 iy231 (il_ 0)
                        rw [hQ]
                        exact W.vret hx hb hr (fun t ht hW => ⟨⟨E149, rfl, ⟨hI, hKp, ⟨by (try rw [(show xi (E149 0) 21 = y151 from vi_e fy151)]); (try rw [ey1]); first | done | exact (Int.le_trans (Int.le_trans (Int.le_trans (Int.le_trans (Int.le_trans f9 (Int.le_trans (Int.le_add_of_nonneg_right (by decide)) (Int.le_of_eq ty32.symm))) f45) f53) f134) f153) | all_goals omega, by (try rw [(show xi (E149 0) 23 = y133 from vi_e ((kq150 0 23 rfl).trans fy133))]); (try rw [ey3]); first | done | exact f135 | all_goals omega, by (try rw [(show xi (E149 0) 22 = y132 from vi_e ((kq150 0 22 rfl).trans fy132))]); (try rw [(show xi (E149 0) 23 = y133 from vi_e ((kq150 0 23 rfl).trans fy133))]); (try rw [ey2]); (try rw [ey3]); first | done | exact fun q9 => (f136 (q9)) | all_goals omega, by (try rw [(show xi (E149 0) 22 = y132 from vi_e ((kq150 0 22 rfl).trans fy132))]); (try rw [ey2]); first | done | exact fun q9 => f42 | all_goals omega, clM f12 (ix_lab.mp (by rw [← f28]; omega)) k36 f46 KM.rf (vM_s f56 (by omega) f138 f156 (fun q9 => by have q8 := is_cmp.mp q9; omega)) KM.rf⟩⟩, by show va_P (dC, dI) vwCl (WX 72 ad E149) t.heap; rw [ht]; exact hP⟩, hS.F ht⟩) hS.2.2 dX13_clause_167
                      · --152 not
                        have t235 : y231.toInt = 0 := ti_eq c232
                        have i236 : 0 ≤ y231.toInt ∧ y231.toInt ≤ 0 := iv_eqi t235 iy231 (il_ 0) (by decide)
                        refine lv_iload_n hx hb dX13_clause_155 rfl (lv_at hl 3 rfl) ?_
                        refine lv_aload_n hx hb dX13_clause_156 rfl (lv_at hl 4 rfl) ?_
                        have i237 : 0 ≤ (xi (E 0) 24).toInt ∧ (xi (E 0) 24).toInt ≤ 127 := hI0.iv 0 (Nat.le_of_ble_eq_true rfl) rfl (Nat.le_of_ble_eq_true rfl) rfl
                        refine th_get (ci := 14) (C := RX13) (T := TX13) (N := 97) (v := .int (xi (E 0) 24)) hx hb hts hinX13 hown hK hP hI 0 (Nat.le_of_ble_eq_true rfl) rfl rfl 24 (Nat.le_of_ble_eq_true rfl) (hts _ (vA_in _ _ (in_29 _ (zs4 (zs4 (zs4 (zs0))))))) (fun _ h9 => h9) (th_v0 hKp hI0 0 (Nat.le_of_ble_eq_true rfl) rfl (Nat.le_of_ble_eq_true rfl) rfl rfl) dX13_clause_157 ?_
                        refine lv_icmp_ne (tgt := 167) hx hb dX13_clause_160 (by decide) (fun c238 => ?_) (fun c238 => ?_)
                        · --160 taken
                          have t239 : ¬ r4.toInt = (xi (E 0) 24).toInt := ti_ne c238
                          rw [hQ]
                          exact W.vret hx hb hr (fun t ht hW => ⟨⟨E149, rfl, ⟨hI, hKp, ⟨by (try rw [(show xi (E149 0) 21 = y151 from vi_e fy151)]); (try rw [ey1]); first | done | exact (Int.le_trans (Int.le_trans (Int.le_trans (Int.le_trans (Int.le_trans f9 (Int.le_trans (Int.le_add_of_nonneg_right (by decide)) (Int.le_of_eq ty32.symm))) f45) f53) f134) f153) | all_goals omega, by (try rw [(show xi (E149 0) 23 = y133 from vi_e ((kq150 0 23 rfl).trans fy133))]); (try rw [ey3]); first | done | exact f135 | all_goals omega, by (try rw [(show xi (E149 0) 22 = y132 from vi_e ((kq150 0 22 rfl).trans fy132))]); (try rw [(show xi (E149 0) 23 = y133 from vi_e ((kq150 0 23 rfl).trans fy133))]); (try rw [ey2]); (try rw [ey3]); first | done | exact fun q9 => (f136 (q9)) | all_goals omega, by (try rw [(show xi (E149 0) 22 = y132 from vi_e ((kq150 0 22 rfl).trans fy132))]); (try rw [ey2]); first | done | exact fun q9 => f42 | all_goals omega, clM f12 (ix_lab.mp (by rw [← f28]; omega)) k36 f46 KM.rf (vM_s f56 (by omega) f138 f156 (fun q9 => by have q8 := is_cmp.mp q9; omega)) KM.rf⟩⟩, by show va_P (dC, dI) vwCl (WX 72 ad E149) t.heap; rw [ht]; exact hP⟩, hS.F ht⟩) hS.2.2 dX13_clause_167
                        · --160 not
                          have t240 : r4.toInt = (xi (E 0) 24).toInt := ti_eq c238
                          have i241 : 0 ≤ r4.toInt ∧ r4.toInt ≤ 127 := iv_eqi t240 i25 i237 (by decide)
                          refine lv_iload_n hx hb dX13_clause_163 rfl (lv_at hl 2 rfl) ?_
                          refine lv_if_ne (tgt := 168) hx hb dX13_clause_164 (by decide) (fun c242 => ?_) (fun c242 => ?_)
                          · --164 taken
                            refine lv_aload_n hx hb dX13_clause_168 rfl (lv_at hl 4 rfl) ?_
                            refine lv_iconst (v := 1) hx hb dX13_clause_169 (by decide) ?_
                            refine th_put (ci := 14) (C := RX13) (T := TX13) (N := 97) (v := .int 1) (ty := .boolean) hx hb hts hinX13 tyX13 tyX13_ok nmX13 hown hK hP (WX_D hD) hS hI 0 (Nat.le_of_ble_eq_true rfl) rfl rfl 26 (Nat.le_of_ble_eq_true rfl) (hts _ (vA_in _ _ (in_29 _ (zs4 (zs4 (zs4 (zs1 (zs0)))))))) (fun _ h9 => h9) rfl (by decide +kernel) rfl rfl (okI rfl (iv_w ln_1 (by decide))) dX13_clause_170 (fun H locs E243 pw244 hI hP hS => ?_)
                            have hKp := hKp.pw pw244 rfl
                            have k245 : KM k E149 E243 := KM.pw pw244.2 hk0 (by decide)
                            refine lv_aload_n hx hb dX13_clause_173 rfl (lv_at hl 4 rfl) ?_
                            refine lv_iload_n hx hb dX13_clause_174 rfl (lv_at hl 0 rfl) ?_
                            refine th_put (ci := 14) (C := RX13) (T := TX13) (N := 97) (v := .int r128) (ty := .int) hx hb hts hinX13 tyX13 tyX13_ok nmX13 hown hK hP (WX_D hD) hS hI 0 (Nat.le_of_ble_eq_true rfl) rfl rfl 25 (Nat.le_of_ble_eq_true rfl) (hts _ (vA_in _ _ (in_29 _ zs0))) (fun _ h9 => h9) rfl (by decide +kernel) rfl rfl (okI rfl (iv_all _)) dX13_clause_175 (fun H locs E246 pw247 hI hP hS => ?_)
                            have hKp := hKp.pw pw247 rfl
                            have k248 : KM k E243 E246 := KM.pw pw247.2 hk0 (by decide)
                            rw [hQ]
                            exact W.vret hx hb hr (fun t ht hW => ⟨⟨E246, rfl, ⟨hI, hKp, ⟨by (try rw [(show xi (E246 0) 21 = y151 from vi_e ((pw247.2 0 21 (fun q9 => absurd q9.2 (Nat.ne_of_beq_eq_false rfl))).trans ((pw244.2 0 21 (fun q9 => absurd q9.2 (Nat.ne_of_beq_eq_false rfl))).trans fy151)))]); (try rw [ey1]); first | done | exact (Int.le_trans (Int.le_trans (Int.le_trans (Int.le_trans (Int.le_trans f9 (Int.le_trans (Int.le_add_of_nonneg_right (by decide)) (Int.le_of_eq ty32.symm))) f45) f53) f134) f153) | all_goals omega, by (try rw [(show xi (E246 0) 23 = y133 from vi_e ((pw247.2 0 23 (fun q9 => absurd q9.2 (Nat.ne_of_beq_eq_false rfl))).trans ((pw244.2 0 23 (fun q9 => absurd q9.2 (Nat.ne_of_beq_eq_false rfl))).trans ((kq150 0 23 rfl).trans fy133))))]); (try rw [ey3]); first | done | exact f135 | all_goals omega, by (try rw [(show xi (E246 0) 22 = y132 from vi_e ((pw247.2 0 22 (fun q9 => absurd q9.2 (Nat.ne_of_beq_eq_false rfl))).trans ((pw244.2 0 22 (fun q9 => absurd q9.2 (Nat.ne_of_beq_eq_false rfl))).trans ((kq150 0 22 rfl).trans fy132))))]); (try rw [(show xi (E246 0) 23 = y133 from vi_e ((pw247.2 0 23 (fun q9 => absurd q9.2 (Nat.ne_of_beq_eq_false rfl))).trans ((pw244.2 0 23 (fun q9 => absurd q9.2 (Nat.ne_of_beq_eq_false rfl))).trans ((kq150 0 23 rfl).trans fy133))))]); (try rw [ey2]); (try rw [ey3]); first | done | exact fun q9 => (f136 (q9)) | all_goals omega, by (try rw [(show xi (E246 0) 22 = y132 from vi_e ((pw247.2 0 22 (fun q9 => absurd q9.2 (Nat.ne_of_beq_eq_false rfl))).trans ((pw244.2 0 22 (fun q9 => absurd q9.2 (Nat.ne_of_beq_eq_false rfl))).trans ((kq150 0 22 rfl).trans fy132))))]); (try rw [ey2]); first | done | exact fun q9 => f42 | all_goals omega, clM f12 (ix_lab.mp (by rw [← f28]; omega)) k36 f46 KM.rf (vM_s f56 (by omega) f138 f156 (fun q9 => by have q8 := is_cmp.mp q9; omega)) (k245.tr k248)⟩⟩, by show va_P (dC, dI) vwCl (WX 72 ad E246) t.heap; rw [ht]; exact hP⟩, hS.F ht⟩) hS.2.2 dX13_clause_178
                          · --164 not
                            exact absurd c242 (by decide)
                  · --115 not
                    exact absurd c226 (by decide)
            · --67 not
              have t249 : r48.toInt = 40 := ti_eq c126
              have i250 : 40 ≤ r48.toInt ∧ r48.toInt ≤ 40 := iv_eqi t249 f52 (il_ 40) (by decide)
              refine lv_aload_n hx hb dX13_clause_70 rfl (lv_at hl 4 rfl) ?_
              refine lv_iconst (v := 0) hx hb dX13_clause_71 (by decide) ?_
              refine lv_iconst (v := 0) hx hb dX13_clause_72 (by decide) ?_
              have z0 := ln_0
              refine th_i (va_runV (As := [.int 0, .int 0]) (rest := []) ⟨hx, hb, hml, hown, hts⟩ ((q_groupX l 8).2.2 dC dI cT ad E49 H.size (0 : Int32) (0 : Int32) k nl hI (by exact hh0) (by exact hh1) (by exact hh2) (by exact (hKp 0 18 rfl).trans hh3) (by (try rw [hKp.ei 0 19 rfl]); exact hh4) (by (try rw [(show xi (E49 0) 23 = y3 from vi_e ((kq50 0 23 rfl).trans ((kq39 0 23 rfl).trans ((pw35.2 0 23 (fun q9 => absurd q9.2 (Nat.ne_of_beq_eq_false rfl))).trans ((kq6 0 23 rfl).trans fy3)))))]); omega) (by (try rw [(show xi (E49 0) 22 = y41 from vi_e ((kq50 0 22 rfl).trans fy41))]); omega) (iv_w ln_0 (by decide))) (cwV 2 hts (gi_V (in_29 _ (zs16 (zs1 (zs1 (zs0))))) (in_29 _ (zs16 (zs1 (zs1 (zs1 (zs0)))))) (in_29 _ (zs16 (zs4 (zs0)))) (in_24 _ (zs4 (zs4 (zs4 (zs1 (zs1 (zs1 (zs0)))))))) (in_29 _ (zs16 (zs4 (zs1 (zs0)))))) rfl rfl rfl (by decide +kernel) ⟨(show 7 * 8 + 11 + 1 ≤ 68 from Nat.le_of_ble_eq_true rfl), (show 8 + (5 + 11) + 40 * (7 * 8 + 11) ≤ 40 * (68) from Nat.le_of_ble_eq_true rfl)⟩) ⟨HW_bl, va_recv hK hP (ci := 14) (q0 := 0) rfl (hI.ob 0 (Nat.le_of_ble_eq_true rfl) rfl), (HW_wi hP hK (WX_D hD) hS hA hEV)⟩ rfl rfl hl.1 rfl (lv_room (Nat.le_of_ble_eq_true rfl)) dX13_clause_73 ⟨Nat.le_of_ble_eq_true rfl, Nat.le_of_ble_eq_true rfl⟩) (WX_D hD) hS hA (fun r251 E252 H locs hw hP hS => ?_)
              obtain ⟨hI, kq253, hw⟩ := hw
              have hKb := hKp
              have hKp := hKp.tr kq253 (wl_sub rfl rfl)
              obtain ⟨y254, ey254⟩ : ∃ y, xi (E252 0) 21 = y := ⟨_, rfl⟩
              have fy254 : xv (E252 0) 21 = .int y254 := (hI.fi 0 (Nat.le_of_ble_eq_true rfl) rfl (Nat.le_of_ble_eq_true rfl) rfl).trans (congrArg Value.int ey254)
              have iy254 : 0 ≤ y254.toInt ∧ y254.toInt ≤ 201 := by rw [← ey254]; exact hI.iv 0 (Nat.le_of_ble_eq_true rfl) rfl (Nat.le_of_ble_eq_true rfl) rfl
              obtain ⟨y255, ey255⟩ : ∃ y, xi (E252 0) 22 = y := ⟨_, rfl⟩
              have fy255 : xv (E252 0) 22 = .int y255 := (hI.fi 0 (Nat.le_of_ble_eq_true rfl) rfl (Nat.le_of_ble_eq_true rfl) rfl).trans (congrArg Value.int ey255)
              have iy255 : -1 ≤ y255.toInt ∧ y255.toInt ≤ 201 := by rw [← ey255]; exact hI.iv 0 (Nat.le_of_ble_eq_true rfl) rfl (Nat.le_of_ble_eq_true rfl) rfl
              obtain ⟨y256, ey256⟩ : ∃ y, xi (E252 0) 23 = y := ⟨_, rfl⟩
              have fy256 : xv (E252 0) 23 = .int y256 := (hI.fi 0 (Nat.le_of_ble_eq_true rfl) rfl (Nat.le_of_ble_eq_true rfl) rfl).trans (congrArg Value.int ey256)
              have iy256 : 0 ≤ y256.toInt ∧ y256.toInt ≤ 8 := by rw [← ey256]; exact hI.iv 0 (Nat.le_of_ble_eq_true rfl) rfl (Nat.le_of_ble_eq_true rfl) rfl
              obtain ⟨f257, f258, f259, f260, f261, f262⟩ := hw
              try rw [(show xi (E49 0) 21 = y51 from vi_e fy51)] at f258
              try rw [(show xi (E252 0) 21 = y254 from vi_e fy254)] at f258
              try rw [(show xi (E49 0) 23 = y3 from vi_e ((kq50 0 23 rfl).trans ((kq39 0 23 rfl).trans ((pw35.2 0 23 (fun q9 => absurd q9.2 (Nat.ne_of_beq_eq_false rfl))).trans ((kq6 0 23 rfl).trans fy3)))))] at f259
              try rw [(show xi (E252 0) 23 = y256 from vi_e fy256)] at f259
              try rw [(show xi (E49 0) 22 = y41 from vi_e ((kq50 0 22 rfl).trans fy41))] at f260
              try rw [(show xi (E49 0) 23 = y3 from vi_e ((kq50 0 23 rfl).trans ((kq39 0 23 rfl).trans ((pw35.2 0 23 (fun q9 => absurd q9.2 (Nat.ne_of_beq_eq_false rfl))).trans ((kq6 0 23 rfl).trans fy3)))))] at f260
              try rw [(show xi (E252 0) 22 = y255 from vi_e fy255)] at f260
              try rw [(show xi (E252 0) 23 = y256 from vi_e fy256)] at f260
              try rw [(show xi (E49 0) 22 = y41 from vi_e ((kq50 0 22 rfl).trans fy41))] at f261
              try rw [(show xi (E252 0) 22 = y255 from vi_e fy255)] at f261
              refine lv_istore_n (lv' := [(2, .int r251), (4, .int r48), (3, .int 0), (1, .int r4), (0, .ref (ad 0))]) hx hb dX13_clause_76 rfl hl (by decide) rfl (fun ls hl => ?_)
              refine lv_aload_n hx hb dX13_clause_77 rfl (lv_at hl 4 rfl) ?_
              refine lv_bipush (v := 63) hx hb dX13_clause_78 (by decide) ?_
              have z63 := ln_63
              refine th_i (va_runV (As := [.int 63]) (rest := []) ⟨hx, hb, hml, hown, hts⟩ (q_takesX l dC dI cT ad E252 H.size (63 : Int32) k nl hI (by exact hh0) (by exact hh1) (by exact hh2) (by exact (hKp 0 18 rfl).trans hh3) (by (try rw [hKp.ei 0 19 rfl]); exact hh4) (iv_w ln_63 (by decide))) (cwV 1 hts (gi_V (in_26 _ (zs16 (zs1 (zs1 (zs1 (zs0)))))) (in_26 _ (zs16 (zs4 (zs0)))) (in_26 _ (zs16 (zs4 (zs1 (zs0))))) (in_24 _ (zs4 (zs4 (zs4 (zs1 (zs1 (zs1 (zs0)))))))) (in_26 _ (zs16 (zs4 (zs1 (zs1 (zs0))))))) rfl rfl rfl ⟨rfl, hz_yX13_takes_1⟩ ⟨Nat.le_of_ble_eq_true rfl, Nat.le_of_ble_eq_true rfl⟩) ⟨HW_bl, va_recv hK hP (ci := 14) (q0 := 0) rfl (hI.ob 0 (Nat.le_of_ble_eq_true rfl) rfl), (HW_wi hP hK (WX_D hD) hS hA hEV)⟩ rfl rfl hl.1 rfl (lv_room (Nat.le_of_ble_eq_true rfl)) dX13_clause_80 ⟨Nat.le_of_ble_eq_true rfl, Nat.le_of_ble_eq_true rfl⟩) (WX_D hD) hS hA (fun r263 E264 H locs hw hP hS => ?_)
              obtain ⟨hI, kq265, hw⟩ := hw
              have hKb := hKp
              have hKp := hKp.tr kq265 (wl_sub rfl rfl)
              obtain ⟨y266, ey266⟩ : ∃ y, xi (E264 0) 21 = y := ⟨_, rfl⟩
              have fy266 : xv (E264 0) 21 = .int y266 := (hI.fi 0 (Nat.le_of_ble_eq_true rfl) rfl (Nat.le_of_ble_eq_true rfl) rfl).trans (congrArg Value.int ey266)
              have iy266 : 0 ≤ y266.toInt ∧ y266.toInt ≤ 201 := by rw [← ey266]; exact hI.iv 0 (Nat.le_of_ble_eq_true rfl) rfl (Nat.le_of_ble_eq_true rfl) rfl
              obtain ⟨y267, ey267⟩ : ∃ y, xi (E264 0) 22 = y := ⟨_, rfl⟩
              have fy267 : xv (E264 0) 22 = .int y267 := (hI.fi 0 (Nat.le_of_ble_eq_true rfl) rfl (Nat.le_of_ble_eq_true rfl) rfl).trans (congrArg Value.int ey267)
              have iy267 : -1 ≤ y267.toInt ∧ y267.toInt ≤ 201 := by rw [← ey267]; exact hI.iv 0 (Nat.le_of_ble_eq_true rfl) rfl (Nat.le_of_ble_eq_true rfl) rfl
              rcases hw with hw | hw
              · -- takesX, case 0
                obtain ⟨rfl, f268, f269, f270, f271, f272⟩ := hw
                try rw [(show xi (E252 0) 22 = y255 from vi_e fy255)] at f268
                try rw [(show xi (E264 0) 22 = y267 from vi_e fy267)] at f268
                try rw [(show xi (E252 0) 22 = y255 from vi_e fy255)] at f269
                try rw [(show xi (E264 0) 22 = y267 from vi_e fy267)] at f269
                try rw [(show xi (E252 0) 21 = y254 from vi_e fy254)] at f270
                try rw [(show xi (E264 0) 21 = y266 from vi_e fy266)] at f270
                try rw [(show xi (E252 0) 21 = y254 from vi_e fy254)] at f271
                try rw [(show xi (E264 0) 21 = y266 from vi_e fy266)] at f271
                refine lv_if_ne (tgt := 87) hx hb dX13_clause_83 (by decide) (fun c273 => ?_) (fun c273 => ?_)
                · --83 taken
                  refine lv_aload_n hx hb dX13_clause_87 rfl (lv_at hl 4 rfl) ?_
                  refine th_i (va_runV (As := []) (rest := []) ⟨hx, hb, hml, hown, hts⟩ ((q_groupX l 8).1 dC dI cT ad E264 H.size k nl hI (by exact hh0) (by exact hh1) (by exact hh2) (by exact (hKp 0 18 rfl).trans hh3) (by (try rw [hKp.ei 0 19 rfl]); exact hh4) (by (try rw [(show xi (E264 0) 23 = y256 from vi_e ((kq265 0 23 rfl).trans fy256))]); omega) (by (try rw [(show xi (E264 0) 22 = y267 from vi_e fy267)]); omega)) (cwV 0 hts (gi_V (in_26 _ (zs16 (zs0))) (in_26 _ (zs16 (zs1 (zs0)))) (in_26 _ (zs16 (zs1 (zs1 (zs0))))) (in_24 _ (zs4 (zs4 (zs4 (zs1 (zs1 (zs1 (zs0)))))))) (in_26 _ (zs16 (zs4 (zs4 (zs1 (zs1 (zs1 (zs0))))))))) rfl rfl rfl (by decide +kernel) ⟨(show 7 * 8 + 7 + 1 ≤ 68 from Nat.le_of_ble_eq_true rfl), (show 8 + (5 + 11) + 40 * (7 * 8 + 7) ≤ 40 * (68) from Nat.le_of_ble_eq_true rfl)⟩) ⟨HW_bl, va_recv hK hP (ci := 14) (q0 := 0) rfl (hI.ob 0 (Nat.le_of_ble_eq_true rfl) rfl), (HW_wi hP hK (WX_D hD) hS hA hEV)⟩ rfl rfl hl.1 rfl (lv_room (Nat.le_of_ble_eq_true rfl)) dX13_clause_88 ⟨Nat.le_of_ble_eq_true rfl, Nat.le_of_ble_eq_true rfl⟩) (WX_D hD) hS hA (fun r274 E275 H locs hw hP hS => ?_)
                  obtain ⟨hI, kq276, hw⟩ := hw
                  have hKb := hKp
                  have hKp := hKp.tr kq276 (wl_sub rfl rfl)
                  obtain ⟨y277, ey277⟩ : ∃ y, xi (E275 0) 21 = y := ⟨_, rfl⟩
                  have fy277 : xv (E275 0) 21 = .int y277 := (hI.fi 0 (Nat.le_of_ble_eq_true rfl) rfl (Nat.le_of_ble_eq_true rfl) rfl).trans (congrArg Value.int ey277)
                  have iy277 : 0 ≤ y277.toInt ∧ y277.toInt ≤ 201 := by rw [← ey277]; exact hI.iv 0 (Nat.le_of_ble_eq_true rfl) rfl (Nat.le_of_ble_eq_true rfl) rfl
                  obtain ⟨y278, ey278⟩ : ∃ y, xi (E275 0) 22 = y := ⟨_, rfl⟩
                  have fy278 : xv (E275 0) 22 = .int y278 := (hI.fi 0 (Nat.le_of_ble_eq_true rfl) rfl (Nat.le_of_ble_eq_true rfl) rfl).trans (congrArg Value.int ey278)
                  have iy278 : -1 ≤ y278.toInt ∧ y278.toInt ≤ 201 := by rw [← ey278]; exact hI.iv 0 (Nat.le_of_ble_eq_true rfl) rfl (Nat.le_of_ble_eq_true rfl) rfl
                  obtain ⟨y279, ey279⟩ : ∃ y, xi (E275 0) 23 = y := ⟨_, rfl⟩
                  have fy279 : xv (E275 0) 23 = .int y279 := (hI.fi 0 (Nat.le_of_ble_eq_true rfl) rfl (Nat.le_of_ble_eq_true rfl) rfl).trans (congrArg Value.int ey279)
                  have iy279 : 0 ≤ y279.toInt ∧ y279.toInt ≤ 8 := by rw [← ey279]; exact hI.iv 0 (Nat.le_of_ble_eq_true rfl) rfl (Nat.le_of_ble_eq_true rfl) rfl
                  obtain ⟨f280, f281, f282, f283, f284⟩ := hw
                  try rw [(show xi (E264 0) 21 = y266 from vi_e fy266)] at f280
                  try rw [(show xi (E275 0) 21 = y277 from vi_e fy277)] at f280
                  try rw [(show xi (E264 0) 23 = y256 from vi_e ((kq265 0 23 rfl).trans fy256))] at f281
                  try rw [(show xi (E275 0) 23 = y279 from vi_e fy279)] at f281
                  try rw [(show xi (E264 0) 22 = y267 from vi_e fy267)] at f282
                  try rw [(show xi (E264 0) 23 = y256 from vi_e ((kq265 0 23 rfl).trans fy256))] at f282
                  try rw [(show xi (E275 0) 22 = y278 from vi_e fy278)] at f282
                  try rw [(show xi (E275 0) 23 = y279 from vi_e fy279)] at f282
                  try rw [(show xi (E264 0) 22 = y267 from vi_e fy267)] at f283
                  try rw [(show xi (E275 0) 22 = y278 from vi_e fy278)] at f283
                  refine lv_istore_n (lv' := [(3, .int r274), (2, .int r251), (4, .int r48), (1, .int r4), (0, .ref (ad 0))]) hx hb dX13_clause_91 rfl hl (by decide) rfl (fun ls hl => ?_)
                  refine lv_goto (tgt := 140) hx hb dX13_clause_92 (by decide) ?_
                  refine lv_aload_n hx hb dX13_clause_140 rfl (lv_at hl 4 rfl) ?_
                  refine th_get (ci := 14) (C := RX13) (T := TX13) (N := 97) (v := .int y278) hx hb hts hinX13 hown hK hP hI 0 (Nat.le_of_ble_eq_true rfl) rfl rfl 22 (Nat.le_of_ble_eq_true rfl) (hts _ (vA_in _ _ (in_25 _ (zs16 (zs16 (zs4 (zs1 (zs1 (zs1 (zs0)))))))))) (fun _ h9 => h9) fy278 dX13_clause_141 ?_
                  refine lv_iconst (v := -1) hx hb dX13_clause_144 (by decide) ?_
                  refine lv_icmp_ne (tgt := 167) hx hb dX13_clause_145 (by decide) (fun c285 => ?_) (fun c285 => ?_)
                  · --145 taken
                    have t286 : ¬ y278.toInt = -1 := ti_ne c285
                    have i287 : 0 ≤ y278.toInt ∧ y278.toInt ≤ 201 := iv_ne_l t286 iy278 (il_ (-1))
                    rw [hQ]
                    exact W.vret hx hb hr (fun t ht hW => ⟨⟨E275, rfl, ⟨hI, hKp, ⟨by (try rw [(show xi (E275 0) 21 = y277 from vi_e fy277)]); (try rw [ey1]); first | done | exact (Int.le_trans (Int.le_trans (Int.le_trans (Int.le_trans (Int.le_trans (Int.le_trans f9 (Int.le_trans (Int.le_add_of_nonneg_right (by decide)) (Int.le_of_eq ty32.symm))) f45) f53) f258) f271) f280) | all_goals omega, by (try rw [(show xi (E275 0) 23 = y279 from vi_e fy279)]); (try rw [ey3]); first | done | exact (Int.le_trans f259 f281) | all_goals omega, by (try rw [(show xi (E275 0) 22 = y278 from vi_e fy278)]); (try rw [(show xi (E275 0) 23 = y279 from vi_e fy279)]); (try rw [ey2]); (try rw [ey3]); first | done | exact fun q9 => absurd (q9) t286 | all_goals omega, by (try rw [(show xi (E275 0) 22 = y278 from vi_e fy278)]); (try rw [ey2]); first | done | exact fun q9 => absurd (q9) t286 | all_goals omega, clM f12 (ix_lab.mp (by rw [← f28]; omega)) k36 f46 KM.rf (vM_c f56 (by omega) f262 (qmC f272 KM.rf f284 KM.rf)) KM.rf⟩⟩, by show va_P (dC, dI) vwCl (WX 72 ad E275) t.heap; rw [ht]; exact hP⟩, hS.F ht⟩) hS.2.2 dX13_clause_167
                  · --145 not
                    have t288 : y278.toInt = -1 := ti_eq c285
                    have i289 : -1 ≤ y278.toInt ∧ y278.toInt ≤ -1 := iv_eqi t288 iy278 (il_ (-1)) (by decide)
                    refine lv_aload_n hx hb dX13_clause_148 rfl (lv_at hl 4 rfl) ?_
                    obtain ⟨y290, ey290⟩ : ∃ y, xi (E275 0) 26 = y := ⟨_, rfl⟩
                    have fy290 : xv (E275 0) 26 = .int y290 := (hI.fi 0 (Nat.le_of_ble_eq_true rfl) rfl (Nat.le_of_ble_eq_true rfl) rfl).trans (congrArg Value.int ey290)
                    have iy290 : 0 ≤ y290.toInt ∧ y290.toInt ≤ 1 := by rw [← ey290]; exact hI.iv 0 (Nat.le_of_ble_eq_true rfl) rfl (Nat.le_of_ble_eq_true rfl) rfl
                    refine th_get (ci := 14) (C := RX13) (T := TX13) (N := 97) (v := .int y290) hx hb hts hinX13 hown hK hP hI 0 (Nat.le_of_ble_eq_true rfl) rfl rfl 26 (Nat.le_of_ble_eq_true rfl) (hts _ (vA_in _ _ (in_29 _ (zs4 (zs4 (zs4 (zs1 (zs0)))))))) (fun _ h9 => h9) fy290 dX13_clause_149 ?_
                    refine lv_if_ne (tgt := 167) hx hb dX13_clause_152 (by decide) (fun c291 => ?_) (fun c291 => ?_)
                    · --152 taken
                      have t292 : ¬ y290.toInt = 0 := ti_ne c291
                      have i293 : 1 ≤ y290.toInt ∧ y290.toInt ≤ 1 := iv_ne_l t292 iy290 (il_ 0)
                      rw [hQ]
                      exact W.vret hx hb hr (fun t ht hW => ⟨⟨E275, rfl, ⟨hI, hKp, ⟨by (try rw [(show xi (E275 0) 21 = y277 from vi_e fy277)]); (try rw [ey1]); first | done | exact (Int.le_trans (Int.le_trans (Int.le_trans (Int.le_trans (Int.le_trans (Int.le_trans f9 (Int.le_trans (Int.le_add_of_nonneg_right (by decide)) (Int.le_of_eq ty32.symm))) f45) f53) f258) f271) f280) | all_goals omega, by (try rw [(show xi (E275 0) 23 = y279 from vi_e fy279)]); (try rw [ey3]); first | done | exact (Int.le_trans f259 f281) | all_goals omega, by (try rw [(show xi (E275 0) 22 = y278 from vi_e fy278)]); (try rw [(show xi (E275 0) 23 = y279 from vi_e fy279)]); (try rw [ey2]); (try rw [ey3]); first | done | exact fun q9 => ((f282 (q9)).trans (f260 (f268))) | all_goals omega, by (try rw [(show xi (E275 0) 22 = y278 from vi_e fy278)]); (try rw [ey2]); first | done | exact fun q9 => f42 | all_goals omega, clM f12 (ix_lab.mp (by rw [← f28]; omega)) k36 f46 KM.rf (vM_c f56 (by omega) f262 (qmC f272 KM.rf f284 KM.rf)) KM.rf⟩⟩, by show va_P (dC, dI) vwCl (WX 72 ad E275) t.heap; rw [ht]; exact hP⟩, hS.F ht⟩) hS.2.2 dX13_clause_167
                    · --152 not
                      have t294 : y290.toInt = 0 := ti_eq c291
                      have i295 : 0 ≤ y290.toInt ∧ y290.toInt ≤ 0 := iv_eqi t294 iy290 (il_ 0) (by decide)
                      refine lv_iload_n hx hb dX13_clause_155 rfl (lv_at hl 3 rfl) ?_
                      refine lv_aload_n hx hb dX13_clause_156 rfl (lv_at hl 4 rfl) ?_
                      have i296 : 0 ≤ (xi (E 0) 24).toInt ∧ (xi (E 0) 24).toInt ≤ 127 := hI0.iv 0 (Nat.le_of_ble_eq_true rfl) rfl (Nat.le_of_ble_eq_true rfl) rfl
                      refine th_get (ci := 14) (C := RX13) (T := TX13) (N := 97) (v := .int (xi (E 0) 24)) hx hb hts hinX13 hown hK hP hI 0 (Nat.le_of_ble_eq_true rfl) rfl rfl 24 (Nat.le_of_ble_eq_true rfl) (hts _ (vA_in _ _ (in_29 _ (zs4 (zs4 (zs4 (zs0))))))) (fun _ h9 => h9) (th_v0 hKp hI0 0 (Nat.le_of_ble_eq_true rfl) rfl (Nat.le_of_ble_eq_true rfl) rfl rfl) dX13_clause_157 ?_
                      refine lv_icmp_ne (tgt := 167) hx hb dX13_clause_160 (by decide) (fun c297 => ?_) (fun c297 => ?_)
                      · --160 taken
                        have t298 : ¬ r4.toInt = (xi (E 0) 24).toInt := ti_ne c297
                        rw [hQ]
                        exact W.vret hx hb hr (fun t ht hW => ⟨⟨E275, rfl, ⟨hI, hKp, ⟨by (try rw [(show xi (E275 0) 21 = y277 from vi_e fy277)]); (try rw [ey1]); first | done | exact (Int.le_trans (Int.le_trans (Int.le_trans (Int.le_trans (Int.le_trans (Int.le_trans f9 (Int.le_trans (Int.le_add_of_nonneg_right (by decide)) (Int.le_of_eq ty32.symm))) f45) f53) f258) f271) f280) | all_goals omega, by (try rw [(show xi (E275 0) 23 = y279 from vi_e fy279)]); (try rw [ey3]); first | done | exact (Int.le_trans f259 f281) | all_goals omega, by (try rw [(show xi (E275 0) 22 = y278 from vi_e fy278)]); (try rw [(show xi (E275 0) 23 = y279 from vi_e fy279)]); (try rw [ey2]); (try rw [ey3]); first | done | exact fun q9 => ((f282 (q9)).trans (f260 (f268))) | all_goals omega, by (try rw [(show xi (E275 0) 22 = y278 from vi_e fy278)]); (try rw [ey2]); first | done | exact fun q9 => f42 | all_goals omega, clM f12 (ix_lab.mp (by rw [← f28]; omega)) k36 f46 KM.rf (vM_c f56 (by omega) f262 (qmC f272 KM.rf f284 KM.rf)) KM.rf⟩⟩, by show va_P (dC, dI) vwCl (WX 72 ad E275) t.heap; rw [ht]; exact hP⟩, hS.F ht⟩) hS.2.2 dX13_clause_167
                      · --160 not
                        have t299 : r4.toInt = (xi (E 0) 24).toInt := ti_eq c297
                        have i300 : 0 ≤ r4.toInt ∧ r4.toInt ≤ 127 := iv_eqi t299 i25 i296 (by decide)
                        refine lv_iload_n hx hb dX13_clause_163 rfl (lv_at hl 1 rfl) ?_
                        refine lv_if_ne (tgt := 168) hx hb dX13_clause_164 (by decide) (fun c301 => ?_) (fun c301 => ?_)
                        · --164 taken
                          have t302 : ¬ r251.toInt = 0 := ti_ne c301
                          have i303 : 1 ≤ r251.toInt ∧ r251.toInt ≤ 1 := iv_ne_l t302 f257 (il_ 0)
                          refine lv_aload_n hx hb dX13_clause_168 rfl (lv_at hl 4 rfl) ?_
                          refine lv_iconst (v := 1) hx hb dX13_clause_169 (by decide) ?_
                          refine th_put (ci := 14) (C := RX13) (T := TX13) (N := 97) (v := .int 1) (ty := .boolean) hx hb hts hinX13 tyX13 tyX13_ok nmX13 hown hK hP (WX_D hD) hS hI 0 (Nat.le_of_ble_eq_true rfl) rfl rfl 26 (Nat.le_of_ble_eq_true rfl) (hts _ (vA_in _ _ (in_29 _ (zs4 (zs4 (zs4 (zs1 (zs0)))))))) (fun _ h9 => h9) rfl (by decide +kernel) rfl rfl (okI rfl (iv_w ln_1 (by decide))) dX13_clause_170 (fun H locs E304 pw305 hI hP hS => ?_)
                          have hKp := hKp.pw pw305 rfl
                          have k306 : KM k E275 E304 := KM.pw pw305.2 hk0 (by decide)
                          refine lv_aload_n hx hb dX13_clause_173 rfl (lv_at hl 4 rfl) ?_
                          refine lv_iload_n hx hb dX13_clause_174 rfl (lv_at hl 0 rfl) ?_
                          refine th_put (ci := 14) (C := RX13) (T := TX13) (N := 97) (v := .int r274) (ty := .int) hx hb hts hinX13 tyX13 tyX13_ok nmX13 hown hK hP (WX_D hD) hS hI 0 (Nat.le_of_ble_eq_true rfl) rfl rfl 25 (Nat.le_of_ble_eq_true rfl) (hts _ (vA_in _ _ (in_29 _ zs0))) (fun _ h9 => h9) rfl (by decide +kernel) rfl rfl (okI rfl (iv_all _)) dX13_clause_175 (fun H locs E307 pw308 hI hP hS => ?_)
                          have hKp := hKp.pw pw308 rfl
                          have k309 : KM k E304 E307 := KM.pw pw308.2 hk0 (by decide)
                          rw [hQ]
                          exact W.vret hx hb hr (fun t ht hW => ⟨⟨E307, rfl, ⟨hI, hKp, ⟨by (try rw [(show xi (E307 0) 21 = y277 from vi_e ((pw308.2 0 21 (fun q9 => absurd q9.2 (Nat.ne_of_beq_eq_false rfl))).trans ((pw305.2 0 21 (fun q9 => absurd q9.2 (Nat.ne_of_beq_eq_false rfl))).trans fy277)))]); (try rw [ey1]); first | done | exact (Int.le_trans (Int.le_trans (Int.le_trans (Int.le_trans (Int.le_trans (Int.le_trans f9 (Int.le_trans (Int.le_add_of_nonneg_right (by decide)) (Int.le_of_eq ty32.symm))) f45) f53) f258) f271) f280) | all_goals omega, by (try rw [(show xi (E307 0) 23 = y279 from vi_e ((pw308.2 0 23 (fun q9 => absurd q9.2 (Nat.ne_of_beq_eq_false rfl))).trans ((pw305.2 0 23 (fun q9 => absurd q9.2 (Nat.ne_of_beq_eq_false rfl))).trans fy279)))]); (try rw [ey3]); first | done | exact (Int.le_trans f259 f281) | all_goals omega, by (try rw [(show xi (E307 0) 22 = y278 from vi_e ((pw308.2 0 22 (fun q9 => absurd q9.2 (Nat.ne_of_beq_eq_false rfl))).trans ((pw305.2 0 22 (fun q9 => absurd q9.2 (Nat.ne_of_beq_eq_false rfl))).trans fy278)))]); (try rw [(show xi (E307 0) 23 = y279 from vi_e ((pw308.2 0 23 (fun q9 => absurd q9.2 (Nat.ne_of_beq_eq_false rfl))).trans ((pw305.2 0 23 (fun q9 => absurd q9.2 (Nat.ne_of_beq_eq_false rfl))).trans fy279)))]); (try rw [ey2]); (try rw [ey3]); first | done | exact fun q9 => ((f282 (q9)).trans (f260 (f268))) | all_goals omega, by (try rw [(show xi (E307 0) 22 = y278 from vi_e ((pw308.2 0 22 (fun q9 => absurd q9.2 (Nat.ne_of_beq_eq_false rfl))).trans ((pw305.2 0 22 (fun q9 => absurd q9.2 (Nat.ne_of_beq_eq_false rfl))).trans fy278)))]); (try rw [ey2]); first | done | exact fun q9 => f42 | all_goals omega, clM f12 (ix_lab.mp (by rw [← f28]; omega)) k36 f46 KM.rf (vM_c f56 (by omega) f262 (qmC f272 KM.rf f284 KM.rf)) (k306.tr k309)⟩⟩, by show va_P (dC, dI) vwCl (WX 72 ad E307) t.heap; rw [ht]; exact hP⟩, hS.F ht⟩) hS.2.2 dX13_clause_178
                        · --164 not
                          have t310 : r251.toInt = 0 := ti_eq c301
                          have i311 : 0 ≤ r251.toInt ∧ r251.toInt ≤ 0 := iv_eqi t310 f257 (il_ 0) (by decide)
                          rw [hQ]
                          exact W.vret hx hb hr (fun t ht hW => ⟨⟨E275, rfl, ⟨hI, hKp, ⟨by (try rw [(show xi (E275 0) 21 = y277 from vi_e fy277)]); (try rw [ey1]); first | done | exact (Int.le_trans (Int.le_trans (Int.le_trans (Int.le_trans (Int.le_trans (Int.le_trans f9 (Int.le_trans (Int.le_add_of_nonneg_right (by decide)) (Int.le_of_eq ty32.symm))) f45) f53) f258) f271) f280) | all_goals omega, by (try rw [(show xi (E275 0) 23 = y279 from vi_e fy279)]); (try rw [ey3]); first | done | exact (Int.le_trans f259 f281) | all_goals omega, by (try rw [(show xi (E275 0) 22 = y278 from vi_e fy278)]); (try rw [(show xi (E275 0) 23 = y279 from vi_e fy279)]); (try rw [ey2]); (try rw [ey3]); first | done | exact fun q9 => ((f282 (q9)).trans (f260 (f268))) | all_goals omega, by (try rw [(show xi (E275 0) 22 = y278 from vi_e fy278)]); (try rw [ey2]); first | done | exact fun q9 => f42 | all_goals omega, clM f12 (ix_lab.mp (by rw [← f28]; omega)) k36 f46 KM.rf (vM_c f56 (by omega) f262 (qmC f272 KM.rf f284 KM.rf)) KM.rf⟩⟩, by show va_P (dC, dI) vwCl (WX 72 ad E275) t.heap; rw [ht]; exact hP⟩, hS.F ht⟩) hS.2.2 dX13_clause_167
                · --83 not
                  exact absurd c273 (by decide)
              · -- takesX, case 1
                obtain ⟨rfl, f312, f313, f314⟩ := hw
                try rw [(show xi (E252 0) 22 = y255 from vi_e fy255)] at f312
                try rw [(show xi (E264 0) 22 = y267 from vi_e fy267)] at f312
                try rw [(show xi (E252 0) 21 = y254 from vi_e fy254)] at f313
                try rw [(show xi (E264 0) 21 = y266 from vi_e fy266)] at f313
                refine lv_if_ne (tgt := 87) hx hb dX13_clause_83 (by decide) (fun c315 => ?_) (fun c315 => ?_)
                · --83 taken
                  exact absurd c315 (by decide)
                · --83 not
                  rw [hQ]
                  exact W.vret hx hb hr (fun t ht hW => ⟨⟨E264, rfl, ⟨hI, hKp, ⟨by (try rw [(show xi (E264 0) 21 = y266 from vi_e fy266)]); (try rw [ey1]); first | done | exact (Int.le_trans (Int.le_trans (Int.le_trans (Int.le_trans (Int.le_trans f9 (Int.le_trans (Int.le_add_of_nonneg_right (by decide)) (Int.le_of_eq ty32.symm))) f45) f53) f258) f313) | all_goals omega, by (try rw [(show xi (E264 0) 23 = y256 from vi_e ((kq265 0 23 rfl).trans fy256))]); (try rw [ey3]); first | done | exact f259 | all_goals omega, by (try rw [(show xi (E264 0) 22 = y267 from vi_e fy267)]); (try rw [(show xi (E264 0) 23 = y256 from vi_e ((kq265 0 23 rfl).trans fy256))]); (try rw [ey2]); (try rw [ey3]); first | done | exact fun q9 => absurd (q9) f312 | all_goals omega, by (try rw [(show xi (E264 0) 22 = y267 from vi_e fy267)]); (try rw [ey2]); first | done | exact fun q9 => absurd (q9) f312 | all_goals omega, clM f12 (ix_lab.mp (by rw [← f28]; omega)) k36 f46 KM.rf (vM_c f56 (by omega) f262 (qmC f314 KM.rf (RdM.dead (by show ¬ (xi (E264 0) 22).toInt = -1; rw [show xi (E264 0) 22 = y267 from vi_e fy267]; omega)) KM.rf)) KM.rf⟩⟩, by show va_P (dC, dI) vwCl (WX 72 ad E264) t.heap; rw [ht]; exact hP⟩, hS.F ht⟩) hS.2.2 dX13_clause_86
        · --42 not
          exact absurd c47 (by decide)
      · -- takesX, case 1
        obtain ⟨rfl, f316, f317, f318⟩ := hw
        try rw [(show xi (E34 0) 22 = y2 from vi_e ((pw35.2 0 22 (fun q9 => absurd q9.2 (Nat.ne_of_beq_eq_false rfl))).trans ((kq6 0 22 rfl).trans fy2)))] at f316
        try rw [(show xi (E38 0) 22 = y41 from vi_e fy41)] at f316
        try rw [(show xi (E34 0) 21 = y32 from vi_e pw35.1)] at f317
        try rw [(show xi (E38 0) 21 = y40 from vi_e fy40)] at f317
        refine lv_if_ne (tgt := 46) hx hb dX13_clause_42 (by decide) (fun c319 => ?_) (fun c319 => ?_)
        · --42 taken
          exact absurd c319 (by decide)
        · --42 not
          rw [hQ]
          exact W.vret hx hb hr (fun t ht hW => ⟨⟨E38, rfl, ⟨hI, hKp, ⟨by (try rw [(show xi (E38 0) 21 = y40 from vi_e fy40)]); (try rw [ey1]); first | done | exact (Int.le_trans (Int.le_trans f9 (Int.le_trans (Int.le_add_of_nonneg_right (by decide)) (Int.le_of_eq ty32.symm))) f317) | all_goals omega, by (try rw [(show xi (E38 0) 23 = y3 from vi_e ((kq39 0 23 rfl).trans ((pw35.2 0 23 (fun q9 => absurd q9.2 (Nat.ne_of_beq_eq_false rfl))).trans ((kq6 0 23 rfl).trans fy3))))]); (try rw [ey3]); first | done | exact Int.le_refl _ | all_goals omega, by (try rw [(show xi (E38 0) 22 = y41 from vi_e fy41)]); (try rw [(show xi (E38 0) 23 = y3 from vi_e ((kq39 0 23 rfl).trans ((pw35.2 0 23 (fun q9 => absurd q9.2 (Nat.ne_of_beq_eq_false rfl))).trans ((kq6 0 23 rfl).trans fy3))))]); (try rw [ey2]); (try rw [ey3]); first | done | exact fun q9 => absurd (q9) f316 | all_goals omega, by (try rw [(show xi (E38 0) 22 = y41 from vi_e fy41)]); (try rw [ey2]); first | done | exact fun q9 => absurd (q9) f316 | all_goals omega, clM f12 (ix_lab.mp (by rw [← f28]; omega)) k36 f318 KM.rf (RdM.dead (by show ¬ (xi (E38 0) 22).toInt = -1; rw [show xi (E38 0) 22 = y41 from vi_e fy41]; omega)) KM.rf⟩⟩, by show va_P (dC, dI) vwCl (WX 72 ad E38) t.heap; rw [ht]; exact hP⟩, hS.F ht⟩) hS.2.2 dX13_clause_45
    · --17 not
      have t320 : r26.toInt < 0 := ti_nle c29
      have i321 : -1 ≤ r26.toInt ∧ r26.toInt ≤ -1 := iv_lt_l t320 f27 (il_ 0) (by decide)
      refine lv_aload_n hx hb dX13_clause_20 rfl (lv_at hl 1 rfl) ?_
      refine th_i (va_runV (As := []) (rest := []) ⟨hx, hb, hml, hown, hts⟩ (q_stopX l dC dI cT ad E5 H.size k nl hI (by exact hh0) (by exact hh1) (by exact hh2) (by exact (hKp 0 18 rfl).trans hh3) (by (try rw [hKp.ei 0 19 rfl]); exact hh4)) (cwV 0 hts (gi_V (in_26 _ (zs4 (zs4 (zs4 (zs0))))) (in_26 _ (zs4 (zs4 (zs4 (zs1 (zs0)))))) (in_26 _ (zs4 (zs4 (zs4 (zs1 (zs1 (zs0))))))) (in_24 _ (zs4 (zs4 (zs4 (zs1 (zs1 (zs1 (zs0)))))))) (in_26 _ (zs4 (zs4 (zs4 (zs1 (zs1 (zs1 (zs0))))))))) rfl rfl rfl ⟨rfl, hz_yX13_stop_0⟩ ⟨Nat.le_of_ble_eq_true rfl, Nat.le_of_ble_eq_true rfl⟩) ⟨HW_bl, va_recv hK hP (ci := 14) (q0 := 0) rfl (hI.ob 0 (Nat.le_of_ble_eq_true rfl) rfl), (HW_wi hP hK (WX_D hD) hS hA hEV)⟩ rfl rfl hl.1 rfl (lv_room (Nat.le_of_ble_eq_true rfl)) dX13_clause_21 ⟨Nat.le_of_ble_eq_true rfl, Nat.le_of_ble_eq_true rfl⟩) (WX_D hD) hS hA (fun r322 E323 H locs hw hP hS => ?_)
      obtain ⟨hI, kq324, hw⟩ := hw
      have hKb := hKp
      have hKp := hKp.tr kq324 (wl_sub rfl rfl)
      obtain ⟨y325, ey325⟩ : ∃ y, xi (E323 0) 22 = y := ⟨_, rfl⟩
      have fy325 : xv (E323 0) 22 = .int y325 := (hI.fi 0 (Nat.le_of_ble_eq_true rfl) rfl (Nat.le_of_ble_eq_true rfl) rfl).trans (congrArg Value.int ey325)
      have iy325 : -1 ≤ y325.toInt ∧ y325.toInt ≤ 201 := by rw [← ey325]; exact hI.iv 0 (Nat.le_of_ble_eq_true rfl) rfl (Nat.le_of_ble_eq_true rfl) rfl
      obtain ⟨rfl, f326, f327⟩ := hw
      try rw [(show xi (E5 0) 22 = y2 from vi_e ((kq6 0 22 rfl).trans fy2))] at f326
      try rw [(show xi (E323 0) 22 = y325 from vi_e fy325)] at f326
      refine lv_pop hx hb dX13_clause_24 rfl ?_
      rw [hQ]
      exact W.vret hx hb hr (fun t ht hW => ⟨⟨E323, rfl, ⟨hI, hKp, ⟨by (try rw [(show xi (E323 0) 21 = y7 from vi_e ((kq324 0 21 rfl).trans fy7))]); (try rw [ey1]); first | done | exact f9 | all_goals omega, by (try rw [(show xi (E323 0) 23 = y3 from vi_e ((kq324 0 23 rfl).trans ((kq6 0 23 rfl).trans fy3)))]); (try rw [ey3]); first | done | exact Int.le_refl _ | all_goals omega, by (try rw [(show xi (E323 0) 22 = y325 from vi_e fy325)]); (try rw [(show xi (E323 0) 23 = y3 from vi_e ((kq324 0 23 rfl).trans ((kq6 0 23 rfl).trans fy3)))]); (try rw [ey2]); (try rw [ey3]); first | done | exact fun q9 => absurd (q9) f326 | all_goals omega, by (try rw [(show xi (E323 0) 22 = y325 from vi_e fy325)]); (try rw [ey2]); first | done | exact fun q9 => absurd (q9) f326 | all_goals omega, clM_no f12 (fun q9 => by have q8 := ix_lab.mpr q9; rw [← f28] at q8; omega) f327⟩⟩, by show va_P (dC, dI) vwCl (WX 72 ad E323) t.heap; rw [ht]; exact hP⟩, hS.F ht⟩) hS.2.2 dX13_clause_25
def v_goThroughTX : List Cond := .code yX13_goThrough cX13_goThrough 5 none :: vA
abbrev rm_goThroughTX : Room := { frames := 69, cells := 0, slots := 0, locals := 2760 }
def w_goThroughTX : Nat → Nat → Bool := wl [] [(0, 18), (0, 19), (0, 20), (0, 21), (0, 22), (0, 23), (0, 24), (0, 25), (0, 26)]
set_option maxHeartbeats 4000000 in
set_option maxRecDepth 100000 in
theorem q_goThroughTX (l : Launch) (dC : Nat → ClassId) (dI : Nat → Nat → Nat) (cT : Nat → ClassId) (ad : Nat → Nat) (E : Nat → va_E) (sz : Nat) (a2 : Int32) (a3 : Int32) (hI0 : IX cT shM spM 72 ad E) (hh0 : 0 ≤ a2.toInt ∧ a2.toInt ≤ 200) (hh1 : 0 ≤ a3.toInt ∧ a3.toInt ≤ 127) : Met l yX13_goThrough v_goThroughTX rm_goThroughTX (va_Pc [.ref (ad 0), .ref (ad 7), .int 0, .int a2, .int a3] (HW dC dI (TYM cT) 72 ad E sz)) (va_Qv (S := Nat → va_E) (fun u => IX cT shM spM 72 ad u ∧ Kp w_goThroughTX E u ∧ ((mFa u = (textS true (mB (xi (E 7)) (0 : Int32)) a2.toNatClampNeg).flt))) (HB dC dI 72 ad) (va_A (WX 72 ad E) sz)) 0 0 (va_A (WX 72 ad E) sz) := by
  refine Met.ofW (cc := cX13_goThrough) (maxL := 5) (ret := none) (by decide) rfl ?_
  intro p e s m args below meth c s₁ B hml hv
  obtain ⟨hargs, hsz, hP, hK, hD0, hEV⟩ := hv
  subst hsz
  have hx := B.exec
  have hb := B.bytes
  have hr := B.returns
  have hts := atoms_spec (ws := v_goThroughTX) B.pre
  have hown : s.vm.findClass RX13 = some m.cls := findClass_of_methodNamed B.named
  have hlocks := B.notSynchronized
  have hinX13 : ∀ w ∈ u_ws RX13 TX13 97, w ∈ v_goThroughTX := fun w h => vA_in _ w (in_X13 w h)
  generalize hAe : va_A (WX 72 ad E) s.heap.size = A at hEV ⊢
  have hA : ∀ q : Nat, s.heap.size ≤ q → A q := fun q h => by rw [← hAe]; exact Or.inr h
  have hD : va_D A (WX 72 ad E) := by rw [← hAe]; exact hD0.self
  have hS : va_S A s.heap s.heap [] := va_S.rf
  have hI := hI0
  have hKp : Kp w_goThroughTX E E := Kp.rf
  have hl := lv_entry ([.ref (ad 0), .ref (ad 7), .int 0, .int a2, .int a3]) (n := 5) (Nat.le_of_ble_eq_true rfl)
  obtain ⟨Q, hQ⟩ : ∃ Q, Q = MQ below (va_Qv (S := Nat → va_E) (fun u => IX cT shM spM 72 ad u ∧ Kp w_goThroughTX E u ∧ ((mFa u = (textS true (mB (xi (E 7)) (0 : Int32)) a2.toNatClampNeg).flt))) (HB dC dI 72 ad) (A)) args s 0 0 (A) := ⟨_, rfl⟩
  rw [← hQ, show entryFrame m args 5 = _ from (congrArg (fun z => entryFrame m z 5) hargs).trans (lg_entry_eq _ _ _)]
  generalize (lg_sl ([.ref (ad 0), .ref (ad 7), .int 0, .int a2, .int a3]) ++ List.replicate (5 - (lg_sl ([.ref (ad 0), .ref (ad 7), .int 0, .int a2, .int a3])).length) Slot.unset).toArray = ls at hl ⊢
  have hl : lv_has ls 5 [(0, .ref (ad 0)), (1, .ref (ad 7)), (2, .int 0), (3, .int a2), (4, .int a3)] := hl
  refine lv_aload_n hx hb dX13_goThrough_0 rfl (lv_at hl 0 rfl) ?_
  refine lv_aload_n hx hb dX13_goThrough_1 rfl (lv_at hl 1 rfl) ?_
  refine th_put (ci := 14) (C := RX13) (T := TX13) (N := 97) (v := .ref (ad 7)) (ty := .array .byte) hx hb hts hinX13 tyX13 tyX13_ok nmX13 hown hK hP (WX_D hD) hS hI 0 (Nat.le_of_ble_eq_true rfl) rfl rfl 18 (Nat.le_of_ble_eq_true rfl) (hts _ (vA_in _ _ (in_26 _ zs0))) (fun _ h9 => h9) rfl (by decide +kernel) rfl rfl (Or.inl rfl) dX13_goThrough_2 (fun H locs E1 pw2 hI hP hS => ?_)
  have hKp := hKp.pw pw2 rfl
  refine lv_aload_n hx hb dX13_goThrough_5 rfl (lv_at hl 0 rfl) ?_
  refine lv_iload_n hx hb dX13_goThrough_6 rfl (lv_at hl 2 rfl) ?_
  refine th_put (ci := 14) (C := RX13) (T := TX13) (N := 97) (v := .int 0) (ty := .int) hx hb hts hinX13 tyX13 tyX13_ok nmX13 hown hK hP (WX_D hD) hS hI 0 (Nat.le_of_ble_eq_true rfl) rfl rfl 19 (Nat.le_of_ble_eq_true rfl) (hts _ (vA_in _ _ (in_26 _ (zs1 (zs0))))) (fun _ h9 => h9) rfl (by decide +kernel) rfl rfl (okI rfl (iv_w ln_0 (by decide))) dX13_goThrough_7 (fun H locs E3 pw4 hI hP hS => ?_)
  have hKp := hKp.pw pw4 rfl
  refine lv_aload_n hx hb dX13_goThrough_10 rfl (lv_at hl 0 rfl) ?_
  refine lv_iload_n hx hb dX13_goThrough_11 rfl (lv_at hl 3 rfl) ?_
  refine th_put (ci := 14) (C := RX13) (T := TX13) (N := 97) (v := .int a2) (ty := .int) hx hb hts hinX13 tyX13 tyX13_ok nmX13 hown hK hP (WX_D hD) hS hI 0 (Nat.le_of_ble_eq_true rfl) rfl rfl 20 (Nat.le_of_ble_eq_true rfl) (hts _ (vA_in _ _ (in_26 _ (zs4 (zs1 (zs1 (zs0))))))) (fun _ h9 => h9) rfl (by decide +kernel) rfl rfl (okI rfl hh0) dX13_goThrough_12 (fun H locs E5 pw6 hI hP hS => ?_)
  have hKp := hKp.pw pw6 rfl
  refine lv_aload_n hx hb dX13_goThrough_15 rfl (lv_at hl 0 rfl) ?_
  refine lv_iload hx hb dX13_goThrough_16 (lv_at hl 4 rfl) ?_
  refine th_put (ci := 14) (C := RX13) (T := TX13) (N := 97) (v := .int a3) (ty := .int) hx hb hts hinX13 tyX13 tyX13_ok nmX13 hown hK hP (WX_D hD) hS hI 0 (Nat.le_of_ble_eq_true rfl) rfl rfl 24 (Nat.le_of_ble_eq_true rfl) (hts _ (vA_in _ _ (in_29 _ (zs4 (zs4 (zs4 (zs0))))))) (fun _ h9 => h9) rfl (by decide +kernel) rfl rfl (okI rfl hh1) dX13_goThrough_18 (fun H locs E7 pw8 hI hP hS => ?_)
  have hKp := hKp.pw pw8 rfl
  refine lv_aload_n hx hb dX13_goThrough_21 rfl (lv_at hl 0 rfl) ?_
  refine lv_iconst (v := 0) hx hb dX13_goThrough_22 (by decide) ?_
  refine th_put (ci := 14) (C := RX13) (T := TX13) (N := 97) (v := .int 0) (ty := .int) hx hb hts hinX13 tyX13 tyX13_ok nmX13 hown hK hP (WX_D hD) hS hI 0 (Nat.le_of_ble_eq_true rfl) rfl rfl 21 (Nat.le_of_ble_eq_true rfl) (hts _ (vA_in _ _ (in_25 _ (zs16 (zs16 (zs4 (zs0))))))) (fun _ h9 => h9) rfl (by decide +kernel) rfl rfl (okI rfl (iv_w ln_0 (by decide))) dX13_goThrough_23 (fun H locs E9 pw10 hI hP hS => ?_)
  have hKp := hKp.pw pw10 rfl
  refine lv_aload_n hx hb dX13_goThrough_26 rfl (lv_at hl 0 rfl) ?_
  refine lv_iconst (v := -1) hx hb dX13_goThrough_27 (by decide) ?_
  refine th_put (ci := 14) (C := RX13) (T := TX13) (N := 97) (v := .int (-1)) (ty := .int) hx hb hts hinX13 tyX13 tyX13_ok nmX13 hown hK hP (WX_D hD) hS hI 0 (Nat.le_of_ble_eq_true rfl) rfl rfl 22 (Nat.le_of_ble_eq_true rfl) (hts _ (vA_in _ _ (in_25 _ (zs16 (zs16 (zs4 (zs1 (zs1 (zs1 (zs0)))))))))) (fun _ h9 => h9) rfl (by decide +kernel) rfl rfl (okI rfl (iv_w ln_m1 (by decide))) dX13_goThrough_28 (fun H locs E11 pw12 hI hP hS => ?_)
  have hKp := hKp.pw pw12 rfl
  refine lv_aload_n hx hb dX13_goThrough_31 rfl (lv_at hl 0 rfl) ?_
  refine lv_iconst (v := 0) hx hb dX13_goThrough_32 (by decide) ?_
  refine th_put (ci := 14) (C := RX13) (T := TX13) (N := 97) (v := .int 0) (ty := .int) hx hb hts hinX13 tyX13 tyX13_ok nmX13 hown hK hP (WX_D hD) hS hI 0 (Nat.le_of_ble_eq_true rfl) rfl rfl 23 (Nat.le_of_ble_eq_true rfl) (hts _ (vA_in _ _ (in_25 _ (zs16 (zs16 (zs4 (zs1 (zs1 (zs0))))))))) (fun _ h9 => h9) rfl (by decide +kernel) rfl rfl (okI rfl (iv_w ln_0 (by decide))) dX13_goThrough_33 (fun H locs E13 pw14 hI hP hS => ?_)
  have hKp := hKp.pw pw14 rfl
  refine lv_aload_n hx hb dX13_goThrough_36 rfl (lv_at hl 0 rfl) ?_
  refine lv_iconst (v := 0) hx hb dX13_goThrough_37 (by decide) ?_
  refine th_put (ci := 14) (C := RX13) (T := TX13) (N := 97) (v := .int 0) (ty := .boolean) hx hb hts hinX13 tyX13 tyX13_ok nmX13 hown hK hP (WX_D hD) hS hI 0 (Nat.le_of_ble_eq_true rfl) rfl rfl 26 (Nat.le_of_ble_eq_true rfl) (hts _ (vA_in _ _ (in_29 _ (zs4 (zs4 (zs4 (zs1 (zs0)))))))) (fun _ h9 => h9) rfl (by decide +kernel) rfl rfl (okI rfl (iv_w ln_0 (by decide))) dX13_goThrough_38 (fun H locs E15 pw16 hI hP hS => ?_)
  have hKp := hKp.pw pw16 rfl
  refine lv_aload_n hx hb dX13_goThrough_41 rfl (lv_at hl 0 rfl) ?_
  refine lv_iload hx hb dX13_goThrough_42 (lv_at hl 4 rfl) ?_
  refine lv_bipush (v := 110) hx hb dX13_goThrough_44 (by decide) ?_
  refine lv_icmp_ne (tgt := 55) hx hb dX13_goThrough_46 (by decide) (fun c17 => ?_) (fun c17 => ?_)
  · --46 taken
    have t18 : ¬ a3.toInt = 110 := ti_ne c17
    refine lv_iconst (v := 0) hx hb dX13_goThrough_55 (by decide) ?_
    refine th_put (ci := 14) (C := RX13) (T := TX13) (N := 97) (v := .int 0) (ty := .int) hx hb hts hinX13 tyX13 tyX13_ok nmX13 hown hK hP (WX_D hD) hS hI 0 (Nat.le_of_ble_eq_true rfl) rfl rfl 25 (Nat.le_of_ble_eq_true rfl) (hts _ (vA_in _ _ (in_29 _ zs0))) (fun _ h9 => h9) rfl (by decide +kernel) rfl rfl (okI rfl (iv_w ln_0 (by decide))) dX13_goThrough_56 (fun H locs E19 pw20 hI hP hS => ?_)
    have hKp := hKp.pw pw20 rfl
    have hk0 : ¬ 7 = 0 := by decide
    have kmt : mT 7 E19 = mB (xi (E 7)) (0 : Int32) := by show mB (xi (E19 7)) (xi (E19 0) 19) = _; rw [hKp.ef 7 (fun _ => rfl), show xi (E19 0) 19 = (0 : Int32) from vi_e ((pw20.2 0 19 (fun q9 => absurd q9.2 (Nat.ne_of_beq_eq_false rfl))).trans ((pw16.2 0 19 (fun q9 => absurd q9.2 (Nat.ne_of_beq_eq_false rfl))).trans ((pw14.2 0 19 (fun q9 => absurd q9.2 (Nat.ne_of_beq_eq_false rfl))).trans ((pw12.2 0 19 (fun q9 => absurd q9.2 (Nat.ne_of_beq_eq_false rfl))).trans ((pw10.2 0 19 (fun q9 => absurd q9.2 (Nat.ne_of_beq_eq_false rfl))).trans ((pw8.2 0 19 (fun q9 => absurd q9.2 (Nat.ne_of_beq_eq_false rfl))).trans ((pw6.2 0 19 (fun q9 => absurd q9.2 (Nat.ne_of_beq_eq_false rfl))).trans pw4.1)))))))]
    have kmn : mN E19 = a2.toNatClampNeg := by show (xi (E19 0) 20).toNatClampNeg = _; rw [show xi (E19 0) 20 = a2 from vi_e ((pw20.2 0 20 (fun q9 => absurd q9.2 (Nat.ne_of_beq_eq_false rfl))).trans ((pw16.2 0 20 (fun q9 => absurd q9.2 (Nat.ne_of_beq_eq_false rfl))).trans ((pw14.2 0 20 (fun q9 => absurd q9.2 (Nat.ne_of_beq_eq_false rfl))).trans ((pw12.2 0 20 (fun q9 => absurd q9.2 (Nat.ne_of_beq_eq_false rfl))).trans ((pw10.2 0 20 (fun q9 => absurd q9.2 (Nat.ne_of_beq_eq_false rfl))).trans ((pw8.2 0 20 (fun q9 => absurd q9.2 (Nat.ne_of_beq_eq_false rfl))).trans pw6.1))))))]
    have kf0 : mFa E19 = -1 := by show (xi (E19 0) 22).toInt = -1; rw [show xi (E19 0) 22 = (-1 : Int32) from vi_e ((pw20.2 0 22 (fun q9 => absurd q9.2 (Nat.ne_of_beq_eq_false rfl))).trans ((pw16.2 0 22 (fun q9 => absurd q9.2 (Nat.ne_of_beq_eq_false rfl))).trans ((pw14.2 0 22 (fun q9 => absurd q9.2 (Nat.ne_of_beq_eq_false rfl))).trans pw12.1)))]; rfl
    have ka0 : mA E19 = 0 := by show (xi (E19 0) 21).toNatClampNeg = 0; rw [show xi (E19 0) 21 = (0 : Int32) from vi_e ((pw20.2 0 21 (fun q9 => absurd q9.2 (Nat.ne_of_beq_eq_false rfl))).trans ((pw16.2 0 21 (fun q9 => absurd q9.2 (Nat.ne_of_beq_eq_false rfl))).trans ((pw14.2 0 21 (fun q9 => absurd q9.2 (Nat.ne_of_beq_eq_false rfl))).trans ((pw12.2 0 21 (fun q9 => absurd q9.2 (Nat.ne_of_beq_eq_false rfl))).trans pw10.1))))]; rfl
    refine lv_aload_n hx hb dX13_goThrough_59 rfl (lv_at hl 0 rfl) ?_
    have z0 := ln_0
    have zm1 := ln_m1
    refine th_v (va_runV (As := []) (rest := []) ⟨hx, hb, hml, hown, hts⟩ (q_clauseX l dC dI cT ad E19 H.size 7 200 hI (by decide) (by rfl) (by exact fun _ => rfl) (by exact ((pw20.2 0 18 (fun q9 => absurd q9.2 (Nat.ne_of_beq_eq_false rfl))).trans ((pw16.2 0 18 (fun q9 => absurd q9.2 (Nat.ne_of_beq_eq_false rfl))).trans ((pw14.2 0 18 (fun q9 => absurd q9.2 (Nat.ne_of_beq_eq_false rfl))).trans ((pw12.2 0 18 (fun q9 => absurd q9.2 (Nat.ne_of_beq_eq_false rfl))).trans ((pw10.2 0 18 (fun q9 => absurd q9.2 (Nat.ne_of_beq_eq_false rfl))).trans ((pw8.2 0 18 (fun q9 => absurd q9.2 (Nat.ne_of_beq_eq_false rfl))).trans ((pw6.2 0 18 (fun q9 => absurd q9.2 (Nat.ne_of_beq_eq_false rfl))).trans ((pw4.2 0 18 (fun q9 => absurd q9.2 (Nat.ne_of_beq_eq_false rfl))).trans pw2.1))))))))) (by (try rw [(show xi (E19 0) 19 = (0 : Int32) from vi_e ((pw20.2 0 19 (fun q9 => absurd q9.2 (Nat.ne_of_beq_eq_false rfl))).trans ((pw16.2 0 19 (fun q9 => absurd q9.2 (Nat.ne_of_beq_eq_false rfl))).trans ((pw14.2 0 19 (fun q9 => absurd q9.2 (Nat.ne_of_beq_eq_false rfl))).trans ((pw12.2 0 19 (fun q9 => absurd q9.2 (Nat.ne_of_beq_eq_false rfl))).trans ((pw10.2 0 19 (fun q9 => absurd q9.2 (Nat.ne_of_beq_eq_false rfl))).trans ((pw8.2 0 19 (fun q9 => absurd q9.2 (Nat.ne_of_beq_eq_false rfl))).trans ((pw6.2 0 19 (fun q9 => absurd q9.2 (Nat.ne_of_beq_eq_false rfl))).trans pw4.1))))))))]); have h8 := ln_0; have h9 := ln_0; omega) (by (try rw [(show xi (E19 0) 23 = (0 : Int32) from vi_e ((pw20.2 0 23 (fun q9 => absurd q9.2 (Nat.ne_of_beq_eq_false rfl))).trans ((pw16.2 0 23 (fun q9 => absurd q9.2 (Nat.ne_of_beq_eq_false rfl))).trans pw14.1)))]); omega) (by (try rw [(show xi (E19 0) 22 = (-1 : Int32) from vi_e ((pw20.2 0 22 (fun q9 => absurd q9.2 (Nat.ne_of_beq_eq_false rfl))).trans ((pw16.2 0 22 (fun q9 => absurd q9.2 (Nat.ne_of_beq_eq_false rfl))).trans ((pw14.2 0 22 (fun q9 => absurd q9.2 (Nat.ne_of_beq_eq_false rfl))).trans pw12.1))))]); omega)) (cwV 0 hts (gi_V (in_29 _ (zs4 (zs4 (zs4 (zs1 (zs1 (zs0))))))) (in_29 _ (zs4 (zs4 (zs4 (zs1 (zs1 (zs1 (zs0)))))))) (in_29 _ (zs16 (zs0))) (in_24 _ (zs4 (zs4 (zs4 (zs1 (zs1 (zs1 (zs0)))))))) (in_29 _ (zs16 (zs1 (zs0))))) rfl rfl rfl ⟨rfl, hz_yX13_clause_0⟩ ⟨Nat.le_of_ble_eq_true rfl, Nat.le_of_ble_eq_true rfl⟩) ⟨HW_bl, va_recv hK hP (ci := 14) (q0 := 0) rfl (hI.ob 0 (Nat.le_of_ble_eq_true rfl) rfl), (HW_wi hP hK (WX_D hD) hS hA hEV)⟩ rfl rfl hl.1 rfl (lv_room (Nat.le_of_ble_eq_true rfl)) dX13_goThrough_60 ⟨Nat.le_of_ble_eq_true rfl, Nat.le_of_ble_eq_true rfl⟩) (WX_D hD) hS hA (fun E22 H locs hw hP hS => ?_)
    obtain ⟨hI, kq23, hw⟩ := hw
    have hKb := hKp
    have hKp := hKp.tr kq23 (wl_sub rfl rfl)
    obtain ⟨y24, ey24⟩ : ∃ y, xi (E22 0) 21 = y := ⟨_, rfl⟩
    have fy24 : xv (E22 0) 21 = .int y24 := (hI.fi 0 (Nat.le_of_ble_eq_true rfl) rfl (Nat.le_of_ble_eq_true rfl) rfl).trans (congrArg Value.int ey24)
    have iy24 : 0 ≤ y24.toInt ∧ y24.toInt ≤ 201 := by rw [← ey24]; exact hI.iv 0 (Nat.le_of_ble_eq_true rfl) rfl (Nat.le_of_ble_eq_true rfl) rfl
    obtain ⟨y25, ey25⟩ : ∃ y, xi (E22 0) 22 = y := ⟨_, rfl⟩
    have fy25 : xv (E22 0) 22 = .int y25 := (hI.fi 0 (Nat.le_of_ble_eq_true rfl) rfl (Nat.le_of_ble_eq_true rfl) rfl).trans (congrArg Value.int ey25)
    have iy25 : -1 ≤ y25.toInt ∧ y25.toInt ≤ 201 := by rw [← ey25]; exact hI.iv 0 (Nat.le_of_ble_eq_true rfl) rfl (Nat.le_of_ble_eq_true rfl) rfl
    obtain ⟨y26, ey26⟩ : ∃ y, xi (E22 0) 23 = y := ⟨_, rfl⟩
    have fy26 : xv (E22 0) 23 = .int y26 := (hI.fi 0 (Nat.le_of_ble_eq_true rfl) rfl (Nat.le_of_ble_eq_true rfl) rfl).trans (congrArg Value.int ey26)
    have iy26 : 0 ≤ y26.toInt ∧ y26.toInt ≤ 8 := by rw [← ey26]; exact hI.iv 0 (Nat.le_of_ble_eq_true rfl) rfl (Nat.le_of_ble_eq_true rfl) rfl
    obtain ⟨f27, f28, f29, f30, f31⟩ := hw
    try rw [(show xi (E19 0) 21 = (0 : Int32) from vi_e ((pw20.2 0 21 (fun q9 => absurd q9.2 (Nat.ne_of_beq_eq_false rfl))).trans ((pw16.2 0 21 (fun q9 => absurd q9.2 (Nat.ne_of_beq_eq_false rfl))).trans ((pw14.2 0 21 (fun q9 => absurd q9.2 (Nat.ne_of_beq_eq_false rfl))).trans ((pw12.2 0 21 (fun q9 => absurd q9.2 (Nat.ne_of_beq_eq_false rfl))).trans pw10.1)))))] at f27
    try rw [(show xi (E22 0) 21 = y24 from vi_e fy24)] at f27
    try rw [(show xi (E19 0) 23 = (0 : Int32) from vi_e ((pw20.2 0 23 (fun q9 => absurd q9.2 (Nat.ne_of_beq_eq_false rfl))).trans ((pw16.2 0 23 (fun q9 => absurd q9.2 (Nat.ne_of_beq_eq_false rfl))).trans pw14.1)))] at f28
    try rw [(show xi (E22 0) 23 = y26 from vi_e fy26)] at f28
    try rw [(show xi (E19 0) 22 = (-1 : Int32) from vi_e ((pw20.2 0 22 (fun q9 => absurd q9.2 (Nat.ne_of_beq_eq_false rfl))).trans ((pw16.2 0 22 (fun q9 => absurd q9.2 (Nat.ne_of_beq_eq_false rfl))).trans ((pw14.2 0 22 (fun q9 => absurd q9.2 (Nat.ne_of_beq_eq_false rfl))).trans pw12.1))))] at f29
    try rw [(show xi (E19 0) 23 = (0 : Int32) from vi_e ((pw20.2 0 23 (fun q9 => absurd q9.2 (Nat.ne_of_beq_eq_false rfl))).trans ((pw16.2 0 23 (fun q9 => absurd q9.2 (Nat.ne_of_beq_eq_false rfl))).trans pw14.1)))] at f29
    try rw [(show xi (E22 0) 22 = y25 from vi_e fy25)] at f29
    try rw [(show xi (E22 0) 23 = y26 from vi_e fy26)] at f29
    try rw [(show xi (E19 0) 22 = (-1 : Int32) from vi_e ((pw20.2 0 22 (fun q9 => absurd q9.2 (Nat.ne_of_beq_eq_false rfl))).trans ((pw16.2 0 22 (fun q9 => absurd q9.2 (Nat.ne_of_beq_eq_false rfl))).trans ((pw14.2 0 22 (fun q9 => absurd q9.2 (Nat.ne_of_beq_eq_false rfl))).trans pw12.1))))] at f30
    try rw [(show xi (E22 0) 22 = y25 from vi_e fy25)] at f30
    have hL63 : ∀ d : Nat, ∀ (w63_0_21 : Int32) (w63_0_22 : Int32) (w63_0_23 : Int32) (E63_ : Nat → va_E) (H : Heap) (locs : List Loc) (ls : Array Slot), 0 ≤ w63_0_21.toInt ∧ w63_0_21.toInt ≤ 201 → -1 ≤ w63_0_22.toInt ∧ w63_0_22.toInt ≤ 201 → 0 ≤ w63_0_23.toInt ∧ w63_0_23.toInt ≤ 8 → (w63_0_22.toInt = -1 → w63_0_23.toInt = 0) → LpM 7 (fun t m a => textL true t m a) (fun t m => opL t m isSem cbC (clauseS true t m)) 0 E19 E63_ → 201 - w63_0_21.toInt < (d : Int) → IX cT shM spM 72 ad E63_ → Kp w_goThroughTX E E63_ → xv (E63_ 0) 21 = .int w63_0_21 → xv (E63_ 0) 22 = .int w63_0_22 → xv (E63_ 0) 23 = .int w63_0_23 → xv (E63_ 0) 18 = .ref (ad 7) → xv (E63_ 0) 19 = .int 0 → xv (E63_ 0) 20 = .int a2 → xv (E63_ 0) 24 = .int a3 → va_P (dC, dI) vwCl (WX 72 ad E63_) H → va_S A s.heap H locs → lv_has ls 5 [(0, .ref (ad 0)), (1, .ref (ad 7)), (2, .int 0), (3, .int a2), (4, .int a3)] → W p l e (headSpec v_goThroughTX rm_goThroughTX).room s m args below meth c H locs 0 0 Q (F0 m 63 ls []) := by
      intro d
      induction d with
      | zero =>
        intro w63_0_21 w63_0_22 w63_0_23 E63_ H locs ls hw63_0_21 hw63_0_22 hw63_0_23 hx63_0 hx63_1 hx63_2 hI hKp hs63_0_21 hs63_0_22 hs63_0_23 hs63_0_18 hs63_0_19 hs63_0_20 hs63_0_24 hP hS hl
        exact absurd hx63_2 (by omega)
      | succ d ih63 =>
        intro w63_0_21 w63_0_22 w63_0_23 E63_ H locs ls hw63_0_21 hw63_0_22 hw63_0_23 hx63_0 hx63_1 hx63_2 hI hKp hs63_0_21 hs63_0_22 hs63_0_23 hs63_0_18 hs63_0_19 hs63_0_20 hs63_0_24 hP hS hl
        refine lv_aload_n hx hb dX13_goThrough_63 rfl (lv_at hl 0 rfl) ?_
        refine th_get (ci := 14) (C := RX13) (T := TX13) (N := 97) (v := .int w63_0_22) hx hb hts hinX13 hown hK hP hI 0 (Nat.le_of_ble_eq_true rfl) rfl rfl 22 (Nat.le_of_ble_eq_true rfl) (hts _ (vA_in _ _ (in_25 _ (zs16 (zs16 (zs4 (zs1 (zs1 (zs1 (zs0)))))))))) (fun _ h9 => h9) hs63_0_22 dX13_goThrough_64 ?_
        refine lv_iconst (v := -1) hx hb dX13_goThrough_67 (by decide) ?_
        refine lv_icmp_ne (tgt := 97) hx hb dX13_goThrough_68 (by decide) (fun c32 => ?_) (fun c32 => ?_)
        · --68 taken
          have t33 : ¬ w63_0_22.toInt = -1 := ti_ne c32
          have i34 : 0 ≤ w63_0_22.toInt ∧ w63_0_22.toInt ≤ 201 := iv_ne_l t33 hw63_0_22 (il_ (-1))
          have k35 : RdM 7 (fun t m a => textL true t m a) E19 E63_ := LpM.exF hx63_1 (by show ¬ (xi (E63_ 0) 22).toInt = -1; rw [show xi (E63_ 0) 22 = w63_0_22 from vi_e hs63_0_22]; omega)
          refine lv_aload_n hx hb dX13_goThrough_97 rfl (lv_at hl 0 rfl) ?_
          refine th_get (ci := 14) (C := RX13) (T := TX13) (N := 97) (v := .int w63_0_22) hx hb hts hinX13 hown hK hP hI 0 (Nat.le_of_ble_eq_true rfl) rfl rfl 22 (Nat.le_of_ble_eq_true rfl) (hts _ (vA_in _ _ (in_25 _ (zs16 (zs16 (zs4 (zs1 (zs1 (zs1 (zs0)))))))))) (fun _ h9 => h9) hs63_0_22 dX13_goThrough_98 ?_
          refine lv_iconst (v := -1) hx hb dX13_goThrough_101 (by decide) ?_
          refine lv_icmp_ne (tgt := 118) hx hb dX13_goThrough_102 (by decide) (fun c36 => ?_) (fun c36 => ?_)
          · --102 taken
            have t37 : ¬ w63_0_22.toInt = -1 := ti_ne c36
            rw [hQ]
            exact W.vret hx hb hr (fun t ht hW => ⟨⟨E63_, rfl, ⟨hI, hKp, ((fltM_f TM.rf kf0 ka0 k35 (by show ¬ (xi (E63_ 0) 22).toInt = -1; rw [show xi (E63_ 0) 22 = w63_0_22 from vi_e hs63_0_22]; omega)).2.trans (by rw [kmt, kmn]))⟩, by show va_P (dC, dI) vwCl (WX 72 ad E63_) t.heap; rw [ht]; exact hP⟩, hS.F ht⟩) hS.2.2 dX13_goThrough_118
          · --102 not
            have t38 : w63_0_22.toInt = -1 := ti_eq c36
            have i39 : 0 ≤ w63_0_22.toInt ∧ w63_0_22.toInt ≤ -1 := iv_eqi t38 i34 (il_ (-1)) (by decide)
            exact iv_no i39 (by decide)
        · --68 not
          have t40 : w63_0_22.toInt = -1 := ti_eq c32
          have i41 : -1 ≤ w63_0_22.toInt ∧ w63_0_22.toInt ≤ -1 := iv_eqi t40 hw63_0_22 (il_ (-1)) (by decide)
          refine lv_aload_n hx hb dX13_goThrough_71 rfl (lv_at hl 0 rfl) ?_
          refine th_i (va_runV (As := []) (rest := []) ⟨hx, hb, hml, hown, hts⟩ (q_lookX l dC dI cT ad E63_ H.size 7 200 hI (by decide) (by rfl) (by exact fun _ => rfl) (by exact hs63_0_18) (by (try rw [(show xi (E63_ 0) 19 = (0 : Int32) from vi_e hs63_0_19)]); have h8 := ln_0; have h9 := ln_0; omega)) (cwV 0 hts (gi_V (in_26 _ (zs1 (zs1 (zs0)))) (in_26 _ (zs1 (zs1 (zs1 (zs0))))) (in_26 _ (zs4 (zs0))) (in_24 _ (zs4 (zs4 (zs4 (zs1 (zs1 (zs1 (zs0)))))))) (in_26 _ (zs4 (zs1 (zs0))))) rfl rfl rfl ⟨rfl, hz_yX13_look_0⟩ ⟨Nat.le_of_ble_eq_true rfl, Nat.le_of_ble_eq_true rfl⟩) ⟨HW_bl, va_recv hK hP (ci := 14) (q0 := 0) rfl (hI.ob 0 (Nat.le_of_ble_eq_true rfl) rfl), (HW_wi hP hK (WX_D hD) hS hA hEV)⟩ rfl rfl hl.1 rfl (lv_room (Nat.le_of_ble_eq_true rfl)) dX13_goThrough_72 ⟨Nat.le_of_ble_eq_true rfl, Nat.le_of_ble_eq_true rfl⟩) (WX_D hD) hS hA (fun r42 E43 H locs hw hP hS => ?_)
          obtain ⟨hI, kq44, hw⟩ := hw
          have hKb := hKp
          have hKp := hKp.tr kq44 (wl_sub rfl rfl)
          obtain ⟨y45, ey45⟩ : ∃ y, xi (E43 0) 21 = y := ⟨_, rfl⟩
          have fy45 : xv (E43 0) 21 = .int y45 := (hI.fi 0 (Nat.le_of_ble_eq_true rfl) rfl (Nat.le_of_ble_eq_true rfl) rfl).trans (congrArg Value.int ey45)
          have iy45 : 0 ≤ y45.toInt ∧ y45.toInt ≤ 201 := by rw [← ey45]; exact hI.iv 0 (Nat.le_of_ble_eq_true rfl) rfl (Nat.le_of_ble_eq_true rfl) rfl
          obtain ⟨f46, f47, f48, f49, f50⟩ := hw
          try rw [(show xi (E63_ 0) 21 = w63_0_21 from vi_e hs63_0_21)] at f47
          try rw [(show xi (E43 0) 21 = y45 from vi_e fy45)] at f47
          try rw [(show xi (E63_ 0) 21 = w63_0_21 from vi_e hs63_0_21)] at f48
          try rw [(show xi (E63_ 0) 20 = a2 from vi_e hs63_0_20)] at f48
          try rw [(show xi (E43 0) 21 = y45 from vi_e fy45)] at f48
          try rw [(show xi (E63_ 0) 21 = w63_0_21 from vi_e hs63_0_21)] at f49
          try rw [(show xi (E63_ 0) 20 = a2 from vi_e hs63_0_20)] at f49
          try rw [(show xi (E43 0) 21 = y45 from vi_e fy45)] at f49
          refine lv_bipush (v := 59) hx hb dX13_goThrough_75 (by decide) ?_
          refine lv_icmp_ne (tgt := 97) hx hb dX13_goThrough_77 (by decide) (fun c51 => ?_) (fun c51 => ?_)
          · --77 taken
            have t52 : ¬ r42.toInt = 59 := ti_ne c51
            have k53 : RdM 7 (fun t m a => textL true t m a) E19 E43 := LpM.exit (op := isSem) hx63_1 f50 (fun q9 => by have q8 := is_sem.mp q9; omega) (fun t m a c h => opL_0 h)
            refine lv_aload_n hx hb dX13_goThrough_97 rfl (lv_at hl 0 rfl) ?_
            refine th_get (ci := 14) (C := RX13) (T := TX13) (N := 97) (v := .int w63_0_22) hx hb hts hinX13 hown hK hP hI 0 (Nat.le_of_ble_eq_true rfl) rfl rfl 22 (Nat.le_of_ble_eq_true rfl) (hts _ (vA_in _ _ (in_25 _ (zs16 (zs16 (zs4 (zs1 (zs1 (zs1 (zs0)))))))))) (fun _ h9 => h9) ((kq44 0 22 rfl).trans hs63_0_22) dX13_goThrough_98 ?_
            refine lv_iconst (v := -1) hx hb dX13_goThrough_101 (by decide) ?_
            refine lv_icmp_ne (tgt := 118) hx hb dX13_goThrough_102 (by decide) (fun c54 => ?_) (fun c54 => ?_)
            · --102 taken
              have t55 : ¬ w63_0_22.toInt = -1 := ti_ne c54
              have i56 : 0 ≤ w63_0_22.toInt ∧ w63_0_22.toInt ≤ -1 := iv_ne_l t55 i41 (il_ (-1))
              exact iv_no i56 (by decide)
            · --102 not
              have t57 : w63_0_22.toInt = -1 := ti_eq c54
              refine lv_aload_n hx hb dX13_goThrough_105 rfl (lv_at hl 0 rfl) ?_
              refine th_i (va_runV (As := []) (rest := []) ⟨hx, hb, hml, hown, hts⟩ (q_lookX l dC dI cT ad E43 H.size 7 200 hI (by decide) (by rfl) (by exact fun _ => rfl) (by exact ((kq44 0 18 rfl).trans hs63_0_18)) (by (try rw [(show xi (E43 0) 19 = (0 : Int32) from vi_e ((kq44 0 19 rfl).trans hs63_0_19))]); have h8 := ln_0; have h9 := ln_0; omega)) (cwV 0 hts (gi_V (in_26 _ (zs1 (zs1 (zs0)))) (in_26 _ (zs1 (zs1 (zs1 (zs0))))) (in_26 _ (zs4 (zs0))) (in_24 _ (zs4 (zs4 (zs4 (zs1 (zs1 (zs1 (zs0)))))))) (in_26 _ (zs4 (zs1 (zs0))))) rfl rfl rfl ⟨rfl, hz_yX13_look_0⟩ ⟨Nat.le_of_ble_eq_true rfl, Nat.le_of_ble_eq_true rfl⟩) ⟨HW_bl, va_recv hK hP (ci := 14) (q0 := 0) rfl (hI.ob 0 (Nat.le_of_ble_eq_true rfl) rfl), (HW_wi hP hK (WX_D hD) hS hA hEV)⟩ rfl rfl hl.1 rfl (lv_room (Nat.le_of_ble_eq_true rfl)) dX13_goThrough_106 ⟨Nat.le_of_ble_eq_true rfl, Nat.le_of_ble_eq_true rfl⟩) (WX_D hD) hS hA (fun r58 E59 H locs hw hP hS => ?_)
              obtain ⟨hI, kq60, hw⟩ := hw
              have hKb := hKp
              have hKp := hKp.tr kq60 (wl_sub rfl rfl)
              obtain ⟨y61, ey61⟩ : ∃ y, xi (E59 0) 21 = y := ⟨_, rfl⟩
              have fy61 : xv (E59 0) 21 = .int y61 := (hI.fi 0 (Nat.le_of_ble_eq_true rfl) rfl (Nat.le_of_ble_eq_true rfl) rfl).trans (congrArg Value.int ey61)
              have iy61 : 0 ≤ y61.toInt ∧ y61.toInt ≤ 201 := by rw [← ey61]; exact hI.iv 0 (Nat.le_of_ble_eq_true rfl) rfl (Nat.le_of_ble_eq_true rfl) rfl
              obtain ⟨f62, f63, f64, f65, f66⟩ := hw
              try rw [(show xi (E43 0) 21 = y45 from vi_e fy45)] at f63
              try rw [(show xi (E59 0) 21 = y61 from vi_e fy61)] at f63
              try rw [(show xi (E43 0) 21 = y45 from vi_e fy45)] at f64
              try rw [(show xi (E43 0) 20 = a2 from vi_e ((kq44 0 20 rfl).trans hs63_0_20))] at f64
              try rw [(show xi (E59 0) 21 = y61 from vi_e fy61)] at f64
              try rw [(show xi (E43 0) 21 = y45 from vi_e fy45)] at f65
              try rw [(show xi (E43 0) 20 = a2 from vi_e ((kq44 0 20 rfl).trans hs63_0_20))] at f65
              try rw [(show xi (E59 0) 21 = y61 from vi_e fy61)] at f65
              refine lv_iconst (v := -1) hx hb dX13_goThrough_109 (by decide) ?_
              refine lv_icmp_eq (tgt := 118) hx hb dX13_goThrough_110 (by decide) (fun c67 => ?_) (fun c67 => ?_)
              · --110 taken
                have t68 : r58.toInt = -1 := ti_eq c67
                have i69 : -1 ≤ r58.toInt ∧ r58.toInt ≤ -1 := iv_eqi t68 f62 (il_ (-1)) (by decide)
                rw [hQ]
                exact W.vret hx hb hr (fun t ht hW => ⟨⟨E59, rfl, ⟨hI, hKp, ((fltM_ok TM.rf kf0 ka0 k53 (by show (xi (E43 0) 22).toInt = -1; rw [show xi (E43 0) 22 = w63_0_22 from vi_e ((kq44 0 22 rfl).trans hs63_0_22)]; first | exact t57 | omega) f66 (by omega)).2.trans (by rw [kmt, kmn]))⟩, by show va_P (dC, dI) vwCl (WX 72 ad E59) t.heap; rw [ht]; exact hP⟩, hS.F ht⟩) hS.2.2 dX13_goThrough_118
              · --110 not
                have t70 : ¬ r58.toInt = -1 := ti_ne c67
                have i71 : 0 ≤ r58.toInt ∧ r58.toInt ≤ 255 := iv_ne_l t70 f62 (il_ (-1))
                refine lv_aload_n hx hb dX13_goThrough_113 rfl (lv_at hl 0 rfl) ?_
                refine th_i (va_runV (As := []) (rest := []) ⟨hx, hb, hml, hown, hts⟩ (q_stopX l dC dI cT ad E59 H.size 7 200 hI (by decide) (by rfl) (by exact fun _ => rfl) (by exact ((kq60 0 18 rfl).trans ((kq44 0 18 rfl).trans hs63_0_18))) (by (try rw [(show xi (E59 0) 19 = (0 : Int32) from vi_e ((kq60 0 19 rfl).trans ((kq44 0 19 rfl).trans hs63_0_19)))]); have h8 := ln_0; have h9 := ln_0; omega)) (cwV 0 hts (gi_V (in_26 _ (zs4 (zs4 (zs4 (zs0))))) (in_26 _ (zs4 (zs4 (zs4 (zs1 (zs0)))))) (in_26 _ (zs4 (zs4 (zs4 (zs1 (zs1 (zs0))))))) (in_24 _ (zs4 (zs4 (zs4 (zs1 (zs1 (zs1 (zs0)))))))) (in_26 _ (zs4 (zs4 (zs4 (zs1 (zs1 (zs1 (zs0))))))))) rfl rfl rfl ⟨rfl, hz_yX13_stop_0⟩ ⟨Nat.le_of_ble_eq_true rfl, Nat.le_of_ble_eq_true rfl⟩) ⟨HW_bl, va_recv hK hP (ci := 14) (q0 := 0) rfl (hI.ob 0 (Nat.le_of_ble_eq_true rfl) rfl), (HW_wi hP hK (WX_D hD) hS hA hEV)⟩ rfl rfl hl.1 rfl (lv_room (Nat.le_of_ble_eq_true rfl)) dX13_goThrough_114 ⟨Nat.le_of_ble_eq_true rfl, Nat.le_of_ble_eq_true rfl⟩) (WX_D hD) hS hA (fun r72 E73 H locs hw hP hS => ?_)
                obtain ⟨hI, kq74, hw⟩ := hw
                have hKb := hKp
                have hKp := hKp.tr kq74 (wl_sub rfl rfl)
                obtain ⟨y75, ey75⟩ : ∃ y, xi (E73 0) 22 = y := ⟨_, rfl⟩
                have fy75 : xv (E73 0) 22 = .int y75 := (hI.fi 0 (Nat.le_of_ble_eq_true rfl) rfl (Nat.le_of_ble_eq_true rfl) rfl).trans (congrArg Value.int ey75)
                have iy75 : -1 ≤ y75.toInt ∧ y75.toInt ≤ 201 := by rw [← ey75]; exact hI.iv 0 (Nat.le_of_ble_eq_true rfl) rfl (Nat.le_of_ble_eq_true rfl) rfl
                obtain ⟨rfl, f76, f77⟩ := hw
                try rw [(show xi (E59 0) 22 = w63_0_22 from vi_e ((kq60 0 22 rfl).trans ((kq44 0 22 rfl).trans hs63_0_22)))] at f76
                try rw [(show xi (E73 0) 22 = y75 from vi_e fy75)] at f76
                refine lv_pop hx hb dX13_goThrough_117 rfl ?_
                rw [hQ]
                exact W.vret hx hb hr (fun t ht hW => ⟨⟨E73, rfl, ⟨hI, hKp, ((fltM_no TM.rf kf0 ka0 k53 f66 (by omega) f77).2.trans (by rw [kmt, kmn]))⟩, by show va_P (dC, dI) vwCl (WX 72 ad E73) t.heap; rw [ht]; exact hP⟩, hS.F ht⟩) hS.2.2 dX13_goThrough_118
          · --77 not
            have t78 : r42.toInt = 59 := ti_eq c51
            have i79 : 59 ≤ r42.toInt ∧ r42.toInt ≤ 59 := iv_eqi t78 f46 (il_ 59) (by decide)
            refine lv_aload_n hx hb dX13_goThrough_80 rfl (lv_at hl 0 rfl) ?_
            refine lv_dup hx hb dX13_goThrough_81 rfl ?_
            refine th_get (ci := 14) (C := RX13) (T := TX13) (N := 97) (v := .int y45) hx hb hts hinX13 hown hK hP hI 0 (Nat.le_of_ble_eq_true rfl) rfl rfl 21 (Nat.le_of_ble_eq_true rfl) (hts _ (vA_in _ _ (in_25 _ (zs16 (zs16 (zs4 (zs0))))))) (fun _ h9 => h9) fy45 dX13_goThrough_82 ?_
            refine lv_iconst (v := 1) hx hb dX13_goThrough_85 (by decide) ?_
            refine lv_iadd hx hb dX13_goThrough_86 ?_
            refine lv_topi (fun y80 ey80 => ?_)
            obtain ⟨ty80, iy80⟩ := ti_add (e := 1) (f := 202) iy45 ln_1 ey80 (by decide)
            have ty80 : y80.toInt = y45.toInt + 1 := ty80
            have iy80 : 1 ≤ y80.toInt ∧ y80.toInt ≤ 202 := iy80
            have i81 : 1 ≤ y80.toInt ∧ y80.toInt ≤ 201 := by omega
            refine th_put (ci := 14) (C := RX13) (T := TX13) (N := 97) (v := .int y80) (ty := .int) hx hb hts hinX13 tyX13 tyX13_ok nmX13 hown hK hP (WX_D hD) hS hI 0 (Nat.le_of_ble_eq_true rfl) rfl rfl 21 (Nat.le_of_ble_eq_true rfl) (hts _ (vA_in _ _ (in_25 _ (zs16 (zs16 (zs4 (zs0))))))) (fun _ h9 => h9) rfl (by decide +kernel) rfl rfl (okI rfl (iv_w i81 (by decide))) dX13_goThrough_87 (fun H locs E82 pw83 hI hP hS => ?_)
            have hKp := hKp.pw pw83 rfl
            have k84 : AtM 7 E43 E82 := AtM.pw pw83.2 hk0 (vi_e fy45) (vi_e pw83.1) ty80 (by omega)
            refine lv_aload_n hx hb dX13_goThrough_90 rfl (lv_at hl 0 rfl) ?_
            refine th_v (va_runV (As := []) (rest := []) ⟨hx, hb, hml, hown, hts⟩ (q_clauseX l dC dI cT ad E82 H.size 7 200 hI (by decide) (by rfl) (by exact fun _ => rfl) (by exact ((pw83.2 0 18 (fun q9 => absurd q9.2 (Nat.ne_of_beq_eq_false rfl))).trans ((kq44 0 18 rfl).trans hs63_0_18))) (by (try rw [(show xi (E82 0) 19 = (0 : Int32) from vi_e ((pw83.2 0 19 (fun q9 => absurd q9.2 (Nat.ne_of_beq_eq_false rfl))).trans ((kq44 0 19 rfl).trans hs63_0_19)))]); have h8 := ln_0; have h9 := ln_0; omega) (by (try rw [(show xi (E82 0) 23 = w63_0_23 from vi_e ((pw83.2 0 23 (fun q9 => absurd q9.2 (Nat.ne_of_beq_eq_false rfl))).trans ((kq44 0 23 rfl).trans hs63_0_23)))]); omega) (by (try rw [(show xi (E82 0) 22 = w63_0_22 from vi_e ((pw83.2 0 22 (fun q9 => absurd q9.2 (Nat.ne_of_beq_eq_false rfl))).trans ((kq44 0 22 rfl).trans hs63_0_22)))]); omega)) (cwV 0 hts (gi_V (in_29 _ (zs4 (zs4 (zs4 (zs1 (zs1 (zs0))))))) (in_29 _ (zs4 (zs4 (zs4 (zs1 (zs1 (zs1 (zs0)))))))) (in_29 _ (zs16 (zs0))) (in_24 _ (zs4 (zs4 (zs4 (zs1 (zs1 (zs1 (zs0)))))))) (in_29 _ (zs16 (zs1 (zs0))))) rfl rfl rfl ⟨rfl, hz_yX13_clause_0⟩ ⟨Nat.le_of_ble_eq_true rfl, Nat.le_of_ble_eq_true rfl⟩) ⟨HW_bl, va_recv hK hP (ci := 14) (q0 := 0) rfl (hI.ob 0 (Nat.le_of_ble_eq_true rfl) rfl), (HW_wi hP hK (WX_D hD) hS hA hEV)⟩ rfl rfl hl.1 rfl (lv_room (Nat.le_of_ble_eq_true rfl)) dX13_goThrough_91 ⟨Nat.le_of_ble_eq_true rfl, Nat.le_of_ble_eq_true rfl⟩) (WX_D hD) hS hA (fun E86 H locs hw hP hS => ?_)
            obtain ⟨hI, kq87, hw⟩ := hw
            have hKb := hKp
            have hKp := hKp.tr kq87 (wl_sub rfl rfl)
            obtain ⟨y88, ey88⟩ : ∃ y, xi (E86 0) 21 = y := ⟨_, rfl⟩
            have fy88 : xv (E86 0) 21 = .int y88 := (hI.fi 0 (Nat.le_of_ble_eq_true rfl) rfl (Nat.le_of_ble_eq_true rfl) rfl).trans (congrArg Value.int ey88)
            have iy88 : 0 ≤ y88.toInt ∧ y88.toInt ≤ 201 := by rw [← ey88]; exact hI.iv 0 (Nat.le_of_ble_eq_true rfl) rfl (Nat.le_of_ble_eq_true rfl) rfl
            obtain ⟨y89, ey89⟩ : ∃ y, xi (E86 0) 22 = y := ⟨_, rfl⟩
            have fy89 : xv (E86 0) 22 = .int y89 := (hI.fi 0 (Nat.le_of_ble_eq_true rfl) rfl (Nat.le_of_ble_eq_true rfl) rfl).trans (congrArg Value.int ey89)
            have iy89 : -1 ≤ y89.toInt ∧ y89.toInt ≤ 201 := by rw [← ey89]; exact hI.iv 0 (Nat.le_of_ble_eq_true rfl) rfl (Nat.le_of_ble_eq_true rfl) rfl
            obtain ⟨y90, ey90⟩ : ∃ y, xi (E86 0) 23 = y := ⟨_, rfl⟩
            have fy90 : xv (E86 0) 23 = .int y90 := (hI.fi 0 (Nat.le_of_ble_eq_true rfl) rfl (Nat.le_of_ble_eq_true rfl) rfl).trans (congrArg Value.int ey90)
            have iy90 : 0 ≤ y90.toInt ∧ y90.toInt ≤ 8 := by rw [← ey90]; exact hI.iv 0 (Nat.le_of_ble_eq_true rfl) rfl (Nat.le_of_ble_eq_true rfl) rfl
            obtain ⟨f91, f92, f93, f94, f95⟩ := hw
            try rw [(show xi (E82 0) 21 = y80 from vi_e pw83.1)] at f91
            try rw [(show xi (E86 0) 21 = y88 from vi_e fy88)] at f91
            try rw [(show xi (E82 0) 23 = w63_0_23 from vi_e ((pw83.2 0 23 (fun q9 => absurd q9.2 (Nat.ne_of_beq_eq_false rfl))).trans ((kq44 0 23 rfl).trans hs63_0_23)))] at f92
            try rw [(show xi (E86 0) 23 = y90 from vi_e fy90)] at f92
            try rw [(show xi (E82 0) 22 = w63_0_22 from vi_e ((pw83.2 0 22 (fun q9 => absurd q9.2 (Nat.ne_of_beq_eq_false rfl))).trans ((kq44 0 22 rfl).trans hs63_0_22)))] at f93
            try rw [(show xi (E82 0) 23 = w63_0_23 from vi_e ((pw83.2 0 23 (fun q9 => absurd q9.2 (Nat.ne_of_beq_eq_false rfl))).trans ((kq44 0 23 rfl).trans hs63_0_23)))] at f93
            try rw [(show xi (E86 0) 22 = y89 from vi_e fy89)] at f93
            try rw [(show xi (E86 0) 23 = y90 from vi_e fy90)] at f93
            try rw [(show xi (E82 0) 22 = w63_0_22 from vi_e ((pw83.2 0 22 (fun q9 => absurd q9.2 (Nat.ne_of_beq_eq_false rfl))).trans ((kq44 0 22 rfl).trans hs63_0_22)))] at f94
            try rw [(show xi (E86 0) 22 = y89 from vi_e fy89)] at f94
            refine lv_goto (tgt := 63) hx hb dX13_goThrough_94 (by decide) ?_
            exact ih63 y88 y89 y90 E86 _ _ _ iy88 iy89 iy90 (by have h90 := iy88; have h91 := iy89; have h92 := iy90; omega) (LpM.step (op := isSem) (cb := cbC) hx63_1 f50 (is_sem.mpr (by omega)) (by show (xi (E63_ 0) 22).toInt = -1; rw [show xi (E63_ 0) 22 = w63_0_22 from vi_e hs63_0_22]; first | exact t57 | omega) k84 f95 KM.rf (by decide) (fun t m => clauseS_mono true t m) (fun t m a c h => opL_1 (clauseS_mono true t m) rfl h)) (by omega) hI hKp fy88 fy89 fy90 ((kq87 0 18 rfl).trans ((pw83.2 0 18 (fun q9 => absurd q9.2 (Nat.ne_of_beq_eq_false rfl))).trans ((kq44 0 18 rfl).trans hs63_0_18))) ((kq87 0 19 rfl).trans ((pw83.2 0 19 (fun q9 => absurd q9.2 (Nat.ne_of_beq_eq_false rfl))).trans ((kq44 0 19 rfl).trans hs63_0_19))) ((kq87 0 20 rfl).trans ((pw83.2 0 20 (fun q9 => absurd q9.2 (Nat.ne_of_beq_eq_false rfl))).trans ((kq44 0 20 rfl).trans hs63_0_20))) ((kq87 0 24 rfl).trans ((pw83.2 0 24 (fun q9 => absurd q9.2 (Nat.ne_of_beq_eq_false rfl))).trans ((kq44 0 24 rfl).trans hs63_0_24))) hP hS (lv_sub hl [0, 1, 2, 3, 4] rfl)
    exact hL63 (202) y24 y25 y26 E22 _ _ _ iy24 iy25 iy26 (by have h90 := iy24; have h91 := iy25; have h92 := iy26; omega) (LpM.start f31 lmX (Int.le_refl _)) (by have h9 := iy24; omega) hI hKp fy24 fy25 fy26 ((kq23 0 18 rfl).trans ((pw20.2 0 18 (fun q9 => absurd q9.2 (Nat.ne_of_beq_eq_false rfl))).trans ((pw16.2 0 18 (fun q9 => absurd q9.2 (Nat.ne_of_beq_eq_false rfl))).trans ((pw14.2 0 18 (fun q9 => absurd q9.2 (Nat.ne_of_beq_eq_false rfl))).trans ((pw12.2 0 18 (fun q9 => absurd q9.2 (Nat.ne_of_beq_eq_false rfl))).trans ((pw10.2 0 18 (fun q9 => absurd q9.2 (Nat.ne_of_beq_eq_false rfl))).trans ((pw8.2 0 18 (fun q9 => absurd q9.2 (Nat.ne_of_beq_eq_false rfl))).trans ((pw6.2 0 18 (fun q9 => absurd q9.2 (Nat.ne_of_beq_eq_false rfl))).trans ((pw4.2 0 18 (fun q9 => absurd q9.2 (Nat.ne_of_beq_eq_false rfl))).trans pw2.1))))))))) ((kq23 0 19 rfl).trans ((pw20.2 0 19 (fun q9 => absurd q9.2 (Nat.ne_of_beq_eq_false rfl))).trans ((pw16.2 0 19 (fun q9 => absurd q9.2 (Nat.ne_of_beq_eq_false rfl))).trans ((pw14.2 0 19 (fun q9 => absurd q9.2 (Nat.ne_of_beq_eq_false rfl))).trans ((pw12.2 0 19 (fun q9 => absurd q9.2 (Nat.ne_of_beq_eq_false rfl))).trans ((pw10.2 0 19 (fun q9 => absurd q9.2 (Nat.ne_of_beq_eq_false rfl))).trans ((pw8.2 0 19 (fun q9 => absurd q9.2 (Nat.ne_of_beq_eq_false rfl))).trans ((pw6.2 0 19 (fun q9 => absurd q9.2 (Nat.ne_of_beq_eq_false rfl))).trans pw4.1)))))))) ((kq23 0 20 rfl).trans ((pw20.2 0 20 (fun q9 => absurd q9.2 (Nat.ne_of_beq_eq_false rfl))).trans ((pw16.2 0 20 (fun q9 => absurd q9.2 (Nat.ne_of_beq_eq_false rfl))).trans ((pw14.2 0 20 (fun q9 => absurd q9.2 (Nat.ne_of_beq_eq_false rfl))).trans ((pw12.2 0 20 (fun q9 => absurd q9.2 (Nat.ne_of_beq_eq_false rfl))).trans ((pw10.2 0 20 (fun q9 => absurd q9.2 (Nat.ne_of_beq_eq_false rfl))).trans ((pw8.2 0 20 (fun q9 => absurd q9.2 (Nat.ne_of_beq_eq_false rfl))).trans pw6.1))))))) ((kq23 0 24 rfl).trans ((pw20.2 0 24 (fun q9 => absurd q9.2 (Nat.ne_of_beq_eq_false rfl))).trans ((pw16.2 0 24 (fun q9 => absurd q9.2 (Nat.ne_of_beq_eq_false rfl))).trans ((pw14.2 0 24 (fun q9 => absurd q9.2 (Nat.ne_of_beq_eq_false rfl))).trans ((pw12.2 0 24 (fun q9 => absurd q9.2 (Nat.ne_of_beq_eq_false rfl))).trans ((pw10.2 0 24 (fun q9 => absurd q9.2 (Nat.ne_of_beq_eq_false rfl))).trans pw8.1)))))) hP hS (lv_sub hl [0, 1, 2, 3, 4] rfl)
  · --46 not
    have t96 : a3.toInt = 110 := ti_eq c17
    have i97 : 110 ≤ a3.toInt ∧ a3.toInt ≤ 110 := iv_eqi t96 hh1 (il_ 110) (by decide)
    refine lv_sipush (v := 1000) hx hb dX13_goThrough_49 (by decide) ?_
    refine lv_goto (tgt := 56) hx hb dX13_goThrough_52 (by decide) ?_
    refine th_put (ci := 14) (C := RX13) (T := TX13) (N := 97) (v := .int 1000) (ty := .int) hx hb hts hinX13 tyX13 tyX13_ok nmX13 hown hK hP (WX_D hD) hS hI 0 (Nat.le_of_ble_eq_true rfl) rfl rfl 25 (Nat.le_of_ble_eq_true rfl) (hts _ (vA_in _ _ (in_29 _ zs0))) (fun _ h9 => h9) rfl (by decide +kernel) rfl rfl (okI rfl (iv_w ln_1000 (by decide))) dX13_goThrough_56 (fun H locs E98 pw99 hI hP hS => ?_)
    have hKp := hKp.pw pw99 rfl
    have hk0 : ¬ 7 = 0 := by decide
    have kmt : mT 7 E98 = mB (xi (E 7)) (0 : Int32) := by show mB (xi (E98 7)) (xi (E98 0) 19) = _; rw [hKp.ef 7 (fun _ => rfl), show xi (E98 0) 19 = (0 : Int32) from vi_e ((pw99.2 0 19 (fun q9 => absurd q9.2 (Nat.ne_of_beq_eq_false rfl))).trans ((pw16.2 0 19 (fun q9 => absurd q9.2 (Nat.ne_of_beq_eq_false rfl))).trans ((pw14.2 0 19 (fun q9 => absurd q9.2 (Nat.ne_of_beq_eq_false rfl))).trans ((pw12.2 0 19 (fun q9 => absurd q9.2 (Nat.ne_of_beq_eq_false rfl))).trans ((pw10.2 0 19 (fun q9 => absurd q9.2 (Nat.ne_of_beq_eq_false rfl))).trans ((pw8.2 0 19 (fun q9 => absurd q9.2 (Nat.ne_of_beq_eq_false rfl))).trans ((pw6.2 0 19 (fun q9 => absurd q9.2 (Nat.ne_of_beq_eq_false rfl))).trans pw4.1)))))))]
    have kmn : mN E98 = a2.toNatClampNeg := by show (xi (E98 0) 20).toNatClampNeg = _; rw [show xi (E98 0) 20 = a2 from vi_e ((pw99.2 0 20 (fun q9 => absurd q9.2 (Nat.ne_of_beq_eq_false rfl))).trans ((pw16.2 0 20 (fun q9 => absurd q9.2 (Nat.ne_of_beq_eq_false rfl))).trans ((pw14.2 0 20 (fun q9 => absurd q9.2 (Nat.ne_of_beq_eq_false rfl))).trans ((pw12.2 0 20 (fun q9 => absurd q9.2 (Nat.ne_of_beq_eq_false rfl))).trans ((pw10.2 0 20 (fun q9 => absurd q9.2 (Nat.ne_of_beq_eq_false rfl))).trans ((pw8.2 0 20 (fun q9 => absurd q9.2 (Nat.ne_of_beq_eq_false rfl))).trans pw6.1))))))]
    have kf0 : mFa E98 = -1 := by show (xi (E98 0) 22).toInt = -1; rw [show xi (E98 0) 22 = (-1 : Int32) from vi_e ((pw99.2 0 22 (fun q9 => absurd q9.2 (Nat.ne_of_beq_eq_false rfl))).trans ((pw16.2 0 22 (fun q9 => absurd q9.2 (Nat.ne_of_beq_eq_false rfl))).trans ((pw14.2 0 22 (fun q9 => absurd q9.2 (Nat.ne_of_beq_eq_false rfl))).trans pw12.1)))]; rfl
    have ka0 : mA E98 = 0 := by show (xi (E98 0) 21).toNatClampNeg = 0; rw [show xi (E98 0) 21 = (0 : Int32) from vi_e ((pw99.2 0 21 (fun q9 => absurd q9.2 (Nat.ne_of_beq_eq_false rfl))).trans ((pw16.2 0 21 (fun q9 => absurd q9.2 (Nat.ne_of_beq_eq_false rfl))).trans ((pw14.2 0 21 (fun q9 => absurd q9.2 (Nat.ne_of_beq_eq_false rfl))).trans ((pw12.2 0 21 (fun q9 => absurd q9.2 (Nat.ne_of_beq_eq_false rfl))).trans pw10.1))))]; rfl
    refine lv_aload_n hx hb dX13_goThrough_59 rfl (lv_at hl 0 rfl) ?_
    have z0 := ln_0
    have zm1 := ln_m1
    refine th_v (va_runV (As := []) (rest := []) ⟨hx, hb, hml, hown, hts⟩ (q_clauseX l dC dI cT ad E98 H.size 7 200 hI (by decide) (by rfl) (by exact fun _ => rfl) (by exact ((pw99.2 0 18 (fun q9 => absurd q9.2 (Nat.ne_of_beq_eq_false rfl))).trans ((pw16.2 0 18 (fun q9 => absurd q9.2 (Nat.ne_of_beq_eq_false rfl))).trans ((pw14.2 0 18 (fun q9 => absurd q9.2 (Nat.ne_of_beq_eq_false rfl))).trans ((pw12.2 0 18 (fun q9 => absurd q9.2 (Nat.ne_of_beq_eq_false rfl))).trans ((pw10.2 0 18 (fun q9 => absurd q9.2 (Nat.ne_of_beq_eq_false rfl))).trans ((pw8.2 0 18 (fun q9 => absurd q9.2 (Nat.ne_of_beq_eq_false rfl))).trans ((pw6.2 0 18 (fun q9 => absurd q9.2 (Nat.ne_of_beq_eq_false rfl))).trans ((pw4.2 0 18 (fun q9 => absurd q9.2 (Nat.ne_of_beq_eq_false rfl))).trans pw2.1))))))))) (by (try rw [(show xi (E98 0) 19 = (0 : Int32) from vi_e ((pw99.2 0 19 (fun q9 => absurd q9.2 (Nat.ne_of_beq_eq_false rfl))).trans ((pw16.2 0 19 (fun q9 => absurd q9.2 (Nat.ne_of_beq_eq_false rfl))).trans ((pw14.2 0 19 (fun q9 => absurd q9.2 (Nat.ne_of_beq_eq_false rfl))).trans ((pw12.2 0 19 (fun q9 => absurd q9.2 (Nat.ne_of_beq_eq_false rfl))).trans ((pw10.2 0 19 (fun q9 => absurd q9.2 (Nat.ne_of_beq_eq_false rfl))).trans ((pw8.2 0 19 (fun q9 => absurd q9.2 (Nat.ne_of_beq_eq_false rfl))).trans ((pw6.2 0 19 (fun q9 => absurd q9.2 (Nat.ne_of_beq_eq_false rfl))).trans pw4.1))))))))]); have h8 := ln_0; have h9 := ln_0; omega) (by (try rw [(show xi (E98 0) 23 = (0 : Int32) from vi_e ((pw99.2 0 23 (fun q9 => absurd q9.2 (Nat.ne_of_beq_eq_false rfl))).trans ((pw16.2 0 23 (fun q9 => absurd q9.2 (Nat.ne_of_beq_eq_false rfl))).trans pw14.1)))]); omega) (by (try rw [(show xi (E98 0) 22 = (-1 : Int32) from vi_e ((pw99.2 0 22 (fun q9 => absurd q9.2 (Nat.ne_of_beq_eq_false rfl))).trans ((pw16.2 0 22 (fun q9 => absurd q9.2 (Nat.ne_of_beq_eq_false rfl))).trans ((pw14.2 0 22 (fun q9 => absurd q9.2 (Nat.ne_of_beq_eq_false rfl))).trans pw12.1))))]); omega)) (cwV 0 hts (gi_V (in_29 _ (zs4 (zs4 (zs4 (zs1 (zs1 (zs0))))))) (in_29 _ (zs4 (zs4 (zs4 (zs1 (zs1 (zs1 (zs0)))))))) (in_29 _ (zs16 (zs0))) (in_24 _ (zs4 (zs4 (zs4 (zs1 (zs1 (zs1 (zs0)))))))) (in_29 _ (zs16 (zs1 (zs0))))) rfl rfl rfl ⟨rfl, hz_yX13_clause_0⟩ ⟨Nat.le_of_ble_eq_true rfl, Nat.le_of_ble_eq_true rfl⟩) ⟨HW_bl, va_recv hK hP (ci := 14) (q0 := 0) rfl (hI.ob 0 (Nat.le_of_ble_eq_true rfl) rfl), (HW_wi hP hK (WX_D hD) hS hA hEV)⟩ rfl rfl hl.1 rfl (lv_room (Nat.le_of_ble_eq_true rfl)) dX13_goThrough_60 ⟨Nat.le_of_ble_eq_true rfl, Nat.le_of_ble_eq_true rfl⟩) (WX_D hD) hS hA (fun E101 H locs hw hP hS => ?_)
    obtain ⟨hI, kq102, hw⟩ := hw
    have hKb := hKp
    have hKp := hKp.tr kq102 (wl_sub rfl rfl)
    obtain ⟨y103, ey103⟩ : ∃ y, xi (E101 0) 21 = y := ⟨_, rfl⟩
    have fy103 : xv (E101 0) 21 = .int y103 := (hI.fi 0 (Nat.le_of_ble_eq_true rfl) rfl (Nat.le_of_ble_eq_true rfl) rfl).trans (congrArg Value.int ey103)
    have iy103 : 0 ≤ y103.toInt ∧ y103.toInt ≤ 201 := by rw [← ey103]; exact hI.iv 0 (Nat.le_of_ble_eq_true rfl) rfl (Nat.le_of_ble_eq_true rfl) rfl
    obtain ⟨y104, ey104⟩ : ∃ y, xi (E101 0) 22 = y := ⟨_, rfl⟩
    have fy104 : xv (E101 0) 22 = .int y104 := (hI.fi 0 (Nat.le_of_ble_eq_true rfl) rfl (Nat.le_of_ble_eq_true rfl) rfl).trans (congrArg Value.int ey104)
    have iy104 : -1 ≤ y104.toInt ∧ y104.toInt ≤ 201 := by rw [← ey104]; exact hI.iv 0 (Nat.le_of_ble_eq_true rfl) rfl (Nat.le_of_ble_eq_true rfl) rfl
    obtain ⟨y105, ey105⟩ : ∃ y, xi (E101 0) 23 = y := ⟨_, rfl⟩
    have fy105 : xv (E101 0) 23 = .int y105 := (hI.fi 0 (Nat.le_of_ble_eq_true rfl) rfl (Nat.le_of_ble_eq_true rfl) rfl).trans (congrArg Value.int ey105)
    have iy105 : 0 ≤ y105.toInt ∧ y105.toInt ≤ 8 := by rw [← ey105]; exact hI.iv 0 (Nat.le_of_ble_eq_true rfl) rfl (Nat.le_of_ble_eq_true rfl) rfl
    obtain ⟨f106, f107, f108, f109, f110⟩ := hw
    try rw [(show xi (E98 0) 21 = (0 : Int32) from vi_e ((pw99.2 0 21 (fun q9 => absurd q9.2 (Nat.ne_of_beq_eq_false rfl))).trans ((pw16.2 0 21 (fun q9 => absurd q9.2 (Nat.ne_of_beq_eq_false rfl))).trans ((pw14.2 0 21 (fun q9 => absurd q9.2 (Nat.ne_of_beq_eq_false rfl))).trans ((pw12.2 0 21 (fun q9 => absurd q9.2 (Nat.ne_of_beq_eq_false rfl))).trans pw10.1)))))] at f106
    try rw [(show xi (E101 0) 21 = y103 from vi_e fy103)] at f106
    try rw [(show xi (E98 0) 23 = (0 : Int32) from vi_e ((pw99.2 0 23 (fun q9 => absurd q9.2 (Nat.ne_of_beq_eq_false rfl))).trans ((pw16.2 0 23 (fun q9 => absurd q9.2 (Nat.ne_of_beq_eq_false rfl))).trans pw14.1)))] at f107
    try rw [(show xi (E101 0) 23 = y105 from vi_e fy105)] at f107
    try rw [(show xi (E98 0) 22 = (-1 : Int32) from vi_e ((pw99.2 0 22 (fun q9 => absurd q9.2 (Nat.ne_of_beq_eq_false rfl))).trans ((pw16.2 0 22 (fun q9 => absurd q9.2 (Nat.ne_of_beq_eq_false rfl))).trans ((pw14.2 0 22 (fun q9 => absurd q9.2 (Nat.ne_of_beq_eq_false rfl))).trans pw12.1))))] at f108
    try rw [(show xi (E98 0) 23 = (0 : Int32) from vi_e ((pw99.2 0 23 (fun q9 => absurd q9.2 (Nat.ne_of_beq_eq_false rfl))).trans ((pw16.2 0 23 (fun q9 => absurd q9.2 (Nat.ne_of_beq_eq_false rfl))).trans pw14.1)))] at f108
    try rw [(show xi (E101 0) 22 = y104 from vi_e fy104)] at f108
    try rw [(show xi (E101 0) 23 = y105 from vi_e fy105)] at f108
    try rw [(show xi (E98 0) 22 = (-1 : Int32) from vi_e ((pw99.2 0 22 (fun q9 => absurd q9.2 (Nat.ne_of_beq_eq_false rfl))).trans ((pw16.2 0 22 (fun q9 => absurd q9.2 (Nat.ne_of_beq_eq_false rfl))).trans ((pw14.2 0 22 (fun q9 => absurd q9.2 (Nat.ne_of_beq_eq_false rfl))).trans pw12.1))))] at f109
    try rw [(show xi (E101 0) 22 = y104 from vi_e fy104)] at f109
    have hL63 : ∀ d : Nat, ∀ (w63_0_21 : Int32) (w63_0_22 : Int32) (w63_0_23 : Int32) (E63_ : Nat → va_E) (H : Heap) (locs : List Loc) (ls : Array Slot), 0 ≤ w63_0_21.toInt ∧ w63_0_21.toInt ≤ 201 → -1 ≤ w63_0_22.toInt ∧ w63_0_22.toInt ≤ 201 → 0 ≤ w63_0_23.toInt ∧ w63_0_23.toInt ≤ 8 → (w63_0_22.toInt = -1 → w63_0_23.toInt = 0) → LpM 7 (fun t m a => textL true t m a) (fun t m => opL t m isSem cbC (clauseS true t m)) 0 E98 E63_ → 201 - w63_0_21.toInt < (d : Int) → IX cT shM spM 72 ad E63_ → Kp w_goThroughTX E E63_ → xv (E63_ 0) 21 = .int w63_0_21 → xv (E63_ 0) 22 = .int w63_0_22 → xv (E63_ 0) 23 = .int w63_0_23 → xv (E63_ 0) 18 = .ref (ad 7) → xv (E63_ 0) 19 = .int 0 → xv (E63_ 0) 20 = .int a2 → xv (E63_ 0) 24 = .int a3 → va_P (dC, dI) vwCl (WX 72 ad E63_) H → va_S A s.heap H locs → lv_has ls 5 [(0, .ref (ad 0)), (1, .ref (ad 7)), (2, .int 0), (3, .int a2), (4, .int a3)] → W p l e (headSpec v_goThroughTX rm_goThroughTX).room s m args below meth c H locs 0 0 Q (F0 m 63 ls []) := by
      intro d
      induction d with
      | zero =>
        intro w63_0_21 w63_0_22 w63_0_23 E63_ H locs ls hw63_0_21 hw63_0_22 hw63_0_23 hx63_0 hx63_1 hx63_2 hI hKp hs63_0_21 hs63_0_22 hs63_0_23 hs63_0_18 hs63_0_19 hs63_0_20 hs63_0_24 hP hS hl
        exact absurd hx63_2 (by omega)
      | succ d ih63 =>
        intro w63_0_21 w63_0_22 w63_0_23 E63_ H locs ls hw63_0_21 hw63_0_22 hw63_0_23 hx63_0 hx63_1 hx63_2 hI hKp hs63_0_21 hs63_0_22 hs63_0_23 hs63_0_18 hs63_0_19 hs63_0_20 hs63_0_24 hP hS hl
        refine lv_aload_n hx hb dX13_goThrough_63 rfl (lv_at hl 0 rfl) ?_
        refine th_get (ci := 14) (C := RX13) (T := TX13) (N := 97) (v := .int w63_0_22) hx hb hts hinX13 hown hK hP hI 0 (Nat.le_of_ble_eq_true rfl) rfl rfl 22 (Nat.le_of_ble_eq_true rfl) (hts _ (vA_in _ _ (in_25 _ (zs16 (zs16 (zs4 (zs1 (zs1 (zs1 (zs0)))))))))) (fun _ h9 => h9) hs63_0_22 dX13_goThrough_64 ?_
        refine lv_iconst (v := -1) hx hb dX13_goThrough_67 (by decide) ?_
        refine lv_icmp_ne (tgt := 97) hx hb dX13_goThrough_68 (by decide) (fun c111 => ?_) (fun c111 => ?_)
        · --68 taken
          have t112 : ¬ w63_0_22.toInt = -1 := ti_ne c111
          have i113 : 0 ≤ w63_0_22.toInt ∧ w63_0_22.toInt ≤ 201 := iv_ne_l t112 hw63_0_22 (il_ (-1))
          have k114 : RdM 7 (fun t m a => textL true t m a) E98 E63_ := LpM.exF hx63_1 (by show ¬ (xi (E63_ 0) 22).toInt = -1; rw [show xi (E63_ 0) 22 = w63_0_22 from vi_e hs63_0_22]; omega)
          refine lv_aload_n hx hb dX13_goThrough_97 rfl (lv_at hl 0 rfl) ?_
          refine th_get (ci := 14) (C := RX13) (T := TX13) (N := 97) (v := .int w63_0_22) hx hb hts hinX13 hown hK hP hI 0 (Nat.le_of_ble_eq_true rfl) rfl rfl 22 (Nat.le_of_ble_eq_true rfl) (hts _ (vA_in _ _ (in_25 _ (zs16 (zs16 (zs4 (zs1 (zs1 (zs1 (zs0)))))))))) (fun _ h9 => h9) hs63_0_22 dX13_goThrough_98 ?_
          refine lv_iconst (v := -1) hx hb dX13_goThrough_101 (by decide) ?_
          refine lv_icmp_ne (tgt := 118) hx hb dX13_goThrough_102 (by decide) (fun c115 => ?_) (fun c115 => ?_)
          · --102 taken
            have t116 : ¬ w63_0_22.toInt = -1 := ti_ne c115
            rw [hQ]
            exact W.vret hx hb hr (fun t ht hW => ⟨⟨E63_, rfl, ⟨hI, hKp, ((fltM_f TM.rf kf0 ka0 k114 (by show ¬ (xi (E63_ 0) 22).toInt = -1; rw [show xi (E63_ 0) 22 = w63_0_22 from vi_e hs63_0_22]; omega)).2.trans (by rw [kmt, kmn]))⟩, by show va_P (dC, dI) vwCl (WX 72 ad E63_) t.heap; rw [ht]; exact hP⟩, hS.F ht⟩) hS.2.2 dX13_goThrough_118
          · --102 not
            have t117 : w63_0_22.toInt = -1 := ti_eq c115
            have i118 : 0 ≤ w63_0_22.toInt ∧ w63_0_22.toInt ≤ -1 := iv_eqi t117 i113 (il_ (-1)) (by decide)
            exact iv_no i118 (by decide)
        · --68 not
          have t119 : w63_0_22.toInt = -1 := ti_eq c111
          have i120 : -1 ≤ w63_0_22.toInt ∧ w63_0_22.toInt ≤ -1 := iv_eqi t119 hw63_0_22 (il_ (-1)) (by decide)
          refine lv_aload_n hx hb dX13_goThrough_71 rfl (lv_at hl 0 rfl) ?_
          refine th_i (va_runV (As := []) (rest := []) ⟨hx, hb, hml, hown, hts⟩ (q_lookX l dC dI cT ad E63_ H.size 7 200 hI (by decide) (by rfl) (by exact fun _ => rfl) (by exact hs63_0_18) (by (try rw [(show xi (E63_ 0) 19 = (0 : Int32) from vi_e hs63_0_19)]); have h8 := ln_0; have h9 := ln_0; omega)) (cwV 0 hts (gi_V (in_26 _ (zs1 (zs1 (zs0)))) (in_26 _ (zs1 (zs1 (zs1 (zs0))))) (in_26 _ (zs4 (zs0))) (in_24 _ (zs4 (zs4 (zs4 (zs1 (zs1 (zs1 (zs0)))))))) (in_26 _ (zs4 (zs1 (zs0))))) rfl rfl rfl ⟨rfl, hz_yX13_look_0⟩ ⟨Nat.le_of_ble_eq_true rfl, Nat.le_of_ble_eq_true rfl⟩) ⟨HW_bl, va_recv hK hP (ci := 14) (q0 := 0) rfl (hI.ob 0 (Nat.le_of_ble_eq_true rfl) rfl), (HW_wi hP hK (WX_D hD) hS hA hEV)⟩ rfl rfl hl.1 rfl (lv_room (Nat.le_of_ble_eq_true rfl)) dX13_goThrough_72 ⟨Nat.le_of_ble_eq_true rfl, Nat.le_of_ble_eq_true rfl⟩) (WX_D hD) hS hA (fun r121 E122 H locs hw hP hS => ?_)
          obtain ⟨hI, kq123, hw⟩ := hw
          have hKb := hKp
          have hKp := hKp.tr kq123 (wl_sub rfl rfl)
          obtain ⟨y124, ey124⟩ : ∃ y, xi (E122 0) 21 = y := ⟨_, rfl⟩
          have fy124 : xv (E122 0) 21 = .int y124 := (hI.fi 0 (Nat.le_of_ble_eq_true rfl) rfl (Nat.le_of_ble_eq_true rfl) rfl).trans (congrArg Value.int ey124)
          have iy124 : 0 ≤ y124.toInt ∧ y124.toInt ≤ 201 := by rw [← ey124]; exact hI.iv 0 (Nat.le_of_ble_eq_true rfl) rfl (Nat.le_of_ble_eq_true rfl) rfl
          obtain ⟨f125, f126, f127, f128, f129⟩ := hw
          try rw [(show xi (E63_ 0) 21 = w63_0_21 from vi_e hs63_0_21)] at f126
          try rw [(show xi (E122 0) 21 = y124 from vi_e fy124)] at f126
          try rw [(show xi (E63_ 0) 21 = w63_0_21 from vi_e hs63_0_21)] at f127
          try rw [(show xi (E63_ 0) 20 = a2 from vi_e hs63_0_20)] at f127
          try rw [(show xi (E122 0) 21 = y124 from vi_e fy124)] at f127
          try rw [(show xi (E63_ 0) 21 = w63_0_21 from vi_e hs63_0_21)] at f128
          try rw [(show xi (E63_ 0) 20 = a2 from vi_e hs63_0_20)] at f128
          try rw [(show xi (E122 0) 21 = y124 from vi_e fy124)] at f128
          refine lv_bipush (v := 59) hx hb dX13_goThrough_75 (by decide) ?_
          refine lv_icmp_ne (tgt := 97) hx hb dX13_goThrough_77 (by decide) (fun c130 => ?_) (fun c130 => ?_)
          · --77 taken
            have t131 : ¬ r121.toInt = 59 := ti_ne c130
            have k132 : RdM 7 (fun t m a => textL true t m a) E98 E122 := LpM.exit (op := isSem) hx63_1 f129 (fun q9 => by have q8 := is_sem.mp q9; omega) (fun t m a c h => opL_0 h)
            refine lv_aload_n hx hb dX13_goThrough_97 rfl (lv_at hl 0 rfl) ?_
            refine th_get (ci := 14) (C := RX13) (T := TX13) (N := 97) (v := .int w63_0_22) hx hb hts hinX13 hown hK hP hI 0 (Nat.le_of_ble_eq_true rfl) rfl rfl 22 (Nat.le_of_ble_eq_true rfl) (hts _ (vA_in _ _ (in_25 _ (zs16 (zs16 (zs4 (zs1 (zs1 (zs1 (zs0)))))))))) (fun _ h9 => h9) ((kq123 0 22 rfl).trans hs63_0_22) dX13_goThrough_98 ?_
            refine lv_iconst (v := -1) hx hb dX13_goThrough_101 (by decide) ?_
            refine lv_icmp_ne (tgt := 118) hx hb dX13_goThrough_102 (by decide) (fun c133 => ?_) (fun c133 => ?_)
            · --102 taken
              have t134 : ¬ w63_0_22.toInt = -1 := ti_ne c133
              have i135 : 0 ≤ w63_0_22.toInt ∧ w63_0_22.toInt ≤ -1 := iv_ne_l t134 i120 (il_ (-1))
              exact iv_no i135 (by decide)
            · --102 not
              have t136 : w63_0_22.toInt = -1 := ti_eq c133
              refine lv_aload_n hx hb dX13_goThrough_105 rfl (lv_at hl 0 rfl) ?_
              refine th_i (va_runV (As := []) (rest := []) ⟨hx, hb, hml, hown, hts⟩ (q_lookX l dC dI cT ad E122 H.size 7 200 hI (by decide) (by rfl) (by exact fun _ => rfl) (by exact ((kq123 0 18 rfl).trans hs63_0_18)) (by (try rw [(show xi (E122 0) 19 = (0 : Int32) from vi_e ((kq123 0 19 rfl).trans hs63_0_19))]); have h8 := ln_0; have h9 := ln_0; omega)) (cwV 0 hts (gi_V (in_26 _ (zs1 (zs1 (zs0)))) (in_26 _ (zs1 (zs1 (zs1 (zs0))))) (in_26 _ (zs4 (zs0))) (in_24 _ (zs4 (zs4 (zs4 (zs1 (zs1 (zs1 (zs0)))))))) (in_26 _ (zs4 (zs1 (zs0))))) rfl rfl rfl ⟨rfl, hz_yX13_look_0⟩ ⟨Nat.le_of_ble_eq_true rfl, Nat.le_of_ble_eq_true rfl⟩) ⟨HW_bl, va_recv hK hP (ci := 14) (q0 := 0) rfl (hI.ob 0 (Nat.le_of_ble_eq_true rfl) rfl), (HW_wi hP hK (WX_D hD) hS hA hEV)⟩ rfl rfl hl.1 rfl (lv_room (Nat.le_of_ble_eq_true rfl)) dX13_goThrough_106 ⟨Nat.le_of_ble_eq_true rfl, Nat.le_of_ble_eq_true rfl⟩) (WX_D hD) hS hA (fun r137 E138 H locs hw hP hS => ?_)
              obtain ⟨hI, kq139, hw⟩ := hw
              have hKb := hKp
              have hKp := hKp.tr kq139 (wl_sub rfl rfl)
              obtain ⟨y140, ey140⟩ : ∃ y, xi (E138 0) 21 = y := ⟨_, rfl⟩
              have fy140 : xv (E138 0) 21 = .int y140 := (hI.fi 0 (Nat.le_of_ble_eq_true rfl) rfl (Nat.le_of_ble_eq_true rfl) rfl).trans (congrArg Value.int ey140)
              have iy140 : 0 ≤ y140.toInt ∧ y140.toInt ≤ 201 := by rw [← ey140]; exact hI.iv 0 (Nat.le_of_ble_eq_true rfl) rfl (Nat.le_of_ble_eq_true rfl) rfl
              obtain ⟨f141, f142, f143, f144, f145⟩ := hw
              try rw [(show xi (E122 0) 21 = y124 from vi_e fy124)] at f142
              try rw [(show xi (E138 0) 21 = y140 from vi_e fy140)] at f142
              try rw [(show xi (E122 0) 21 = y124 from vi_e fy124)] at f143
              try rw [(show xi (E122 0) 20 = a2 from vi_e ((kq123 0 20 rfl).trans hs63_0_20))] at f143
              try rw [(show xi (E138 0) 21 = y140 from vi_e fy140)] at f143
              try rw [(show xi (E122 0) 21 = y124 from vi_e fy124)] at f144
              try rw [(show xi (E122 0) 20 = a2 from vi_e ((kq123 0 20 rfl).trans hs63_0_20))] at f144
              try rw [(show xi (E138 0) 21 = y140 from vi_e fy140)] at f144
              refine lv_iconst (v := -1) hx hb dX13_goThrough_109 (by decide) ?_
              refine lv_icmp_eq (tgt := 118) hx hb dX13_goThrough_110 (by decide) (fun c146 => ?_) (fun c146 => ?_)
              · --110 taken
                have t147 : r137.toInt = -1 := ti_eq c146
                have i148 : -1 ≤ r137.toInt ∧ r137.toInt ≤ -1 := iv_eqi t147 f141 (il_ (-1)) (by decide)
                rw [hQ]
                exact W.vret hx hb hr (fun t ht hW => ⟨⟨E138, rfl, ⟨hI, hKp, ((fltM_ok TM.rf kf0 ka0 k132 (by show (xi (E122 0) 22).toInt = -1; rw [show xi (E122 0) 22 = w63_0_22 from vi_e ((kq123 0 22 rfl).trans hs63_0_22)]; first | exact t136 | omega) f145 (by omega)).2.trans (by rw [kmt, kmn]))⟩, by show va_P (dC, dI) vwCl (WX 72 ad E138) t.heap; rw [ht]; exact hP⟩, hS.F ht⟩) hS.2.2 dX13_goThrough_118
              · --110 not
                have t149 : ¬ r137.toInt = -1 := ti_ne c146
                have i150 : 0 ≤ r137.toInt ∧ r137.toInt ≤ 255 := iv_ne_l t149 f141 (il_ (-1))
                refine lv_aload_n hx hb dX13_goThrough_113 rfl (lv_at hl 0 rfl) ?_
                refine th_i (va_runV (As := []) (rest := []) ⟨hx, hb, hml, hown, hts⟩ (q_stopX l dC dI cT ad E138 H.size 7 200 hI (by decide) (by rfl) (by exact fun _ => rfl) (by exact ((kq139 0 18 rfl).trans ((kq123 0 18 rfl).trans hs63_0_18))) (by (try rw [(show xi (E138 0) 19 = (0 : Int32) from vi_e ((kq139 0 19 rfl).trans ((kq123 0 19 rfl).trans hs63_0_19)))]); have h8 := ln_0; have h9 := ln_0; omega)) (cwV 0 hts (gi_V (in_26 _ (zs4 (zs4 (zs4 (zs0))))) (in_26 _ (zs4 (zs4 (zs4 (zs1 (zs0)))))) (in_26 _ (zs4 (zs4 (zs4 (zs1 (zs1 (zs0))))))) (in_24 _ (zs4 (zs4 (zs4 (zs1 (zs1 (zs1 (zs0)))))))) (in_26 _ (zs4 (zs4 (zs4 (zs1 (zs1 (zs1 (zs0))))))))) rfl rfl rfl ⟨rfl, hz_yX13_stop_0⟩ ⟨Nat.le_of_ble_eq_true rfl, Nat.le_of_ble_eq_true rfl⟩) ⟨HW_bl, va_recv hK hP (ci := 14) (q0 := 0) rfl (hI.ob 0 (Nat.le_of_ble_eq_true rfl) rfl), (HW_wi hP hK (WX_D hD) hS hA hEV)⟩ rfl rfl hl.1 rfl (lv_room (Nat.le_of_ble_eq_true rfl)) dX13_goThrough_114 ⟨Nat.le_of_ble_eq_true rfl, Nat.le_of_ble_eq_true rfl⟩) (WX_D hD) hS hA (fun r151 E152 H locs hw hP hS => ?_)
                obtain ⟨hI, kq153, hw⟩ := hw
                have hKb := hKp
                have hKp := hKp.tr kq153 (wl_sub rfl rfl)
                obtain ⟨y154, ey154⟩ : ∃ y, xi (E152 0) 22 = y := ⟨_, rfl⟩
                have fy154 : xv (E152 0) 22 = .int y154 := (hI.fi 0 (Nat.le_of_ble_eq_true rfl) rfl (Nat.le_of_ble_eq_true rfl) rfl).trans (congrArg Value.int ey154)
                have iy154 : -1 ≤ y154.toInt ∧ y154.toInt ≤ 201 := by rw [← ey154]; exact hI.iv 0 (Nat.le_of_ble_eq_true rfl) rfl (Nat.le_of_ble_eq_true rfl) rfl
                obtain ⟨rfl, f155, f156⟩ := hw
                try rw [(show xi (E138 0) 22 = w63_0_22 from vi_e ((kq139 0 22 rfl).trans ((kq123 0 22 rfl).trans hs63_0_22)))] at f155
                try rw [(show xi (E152 0) 22 = y154 from vi_e fy154)] at f155
                refine lv_pop hx hb dX13_goThrough_117 rfl ?_
                rw [hQ]
                exact W.vret hx hb hr (fun t ht hW => ⟨⟨E152, rfl, ⟨hI, hKp, ((fltM_no TM.rf kf0 ka0 k132 f145 (by omega) f156).2.trans (by rw [kmt, kmn]))⟩, by show va_P (dC, dI) vwCl (WX 72 ad E152) t.heap; rw [ht]; exact hP⟩, hS.F ht⟩) hS.2.2 dX13_goThrough_118
          · --77 not
            have t157 : r121.toInt = 59 := ti_eq c130
            have i158 : 59 ≤ r121.toInt ∧ r121.toInt ≤ 59 := iv_eqi t157 f125 (il_ 59) (by decide)
            refine lv_aload_n hx hb dX13_goThrough_80 rfl (lv_at hl 0 rfl) ?_
            refine lv_dup hx hb dX13_goThrough_81 rfl ?_
            refine th_get (ci := 14) (C := RX13) (T := TX13) (N := 97) (v := .int y124) hx hb hts hinX13 hown hK hP hI 0 (Nat.le_of_ble_eq_true rfl) rfl rfl 21 (Nat.le_of_ble_eq_true rfl) (hts _ (vA_in _ _ (in_25 _ (zs16 (zs16 (zs4 (zs0))))))) (fun _ h9 => h9) fy124 dX13_goThrough_82 ?_
            refine lv_iconst (v := 1) hx hb dX13_goThrough_85 (by decide) ?_
            refine lv_iadd hx hb dX13_goThrough_86 ?_
            refine lv_topi (fun y159 ey159 => ?_)
            obtain ⟨ty159, iy159⟩ := ti_add (e := 1) (f := 202) iy124 ln_1 ey159 (by decide)
            have ty159 : y159.toInt = y124.toInt + 1 := ty159
            have iy159 : 1 ≤ y159.toInt ∧ y159.toInt ≤ 202 := iy159
            have i160 : 1 ≤ y159.toInt ∧ y159.toInt ≤ 201 := by omega
            refine th_put (ci := 14) (C := RX13) (T := TX13) (N := 97) (v := .int y159) (ty := .int) hx hb hts hinX13 tyX13 tyX13_ok nmX13 hown hK hP (WX_D hD) hS hI 0 (Nat.le_of_ble_eq_true rfl) rfl rfl 21 (Nat.le_of_ble_eq_true rfl) (hts _ (vA_in _ _ (in_25 _ (zs16 (zs16 (zs4 (zs0))))))) (fun _ h9 => h9) rfl (by decide +kernel) rfl rfl (okI rfl (iv_w i160 (by decide))) dX13_goThrough_87 (fun H locs E161 pw162 hI hP hS => ?_)
            have hKp := hKp.pw pw162 rfl
            have k163 : AtM 7 E122 E161 := AtM.pw pw162.2 hk0 (vi_e fy124) (vi_e pw162.1) ty159 (by omega)
            refine lv_aload_n hx hb dX13_goThrough_90 rfl (lv_at hl 0 rfl) ?_
            refine th_v (va_runV (As := []) (rest := []) ⟨hx, hb, hml, hown, hts⟩ (q_clauseX l dC dI cT ad E161 H.size 7 200 hI (by decide) (by rfl) (by exact fun _ => rfl) (by exact ((pw162.2 0 18 (fun q9 => absurd q9.2 (Nat.ne_of_beq_eq_false rfl))).trans ((kq123 0 18 rfl).trans hs63_0_18))) (by (try rw [(show xi (E161 0) 19 = (0 : Int32) from vi_e ((pw162.2 0 19 (fun q9 => absurd q9.2 (Nat.ne_of_beq_eq_false rfl))).trans ((kq123 0 19 rfl).trans hs63_0_19)))]); have h8 := ln_0; have h9 := ln_0; omega) (by (try rw [(show xi (E161 0) 23 = w63_0_23 from vi_e ((pw162.2 0 23 (fun q9 => absurd q9.2 (Nat.ne_of_beq_eq_false rfl))).trans ((kq123 0 23 rfl).trans hs63_0_23)))]); omega) (by (try rw [(show xi (E161 0) 22 = w63_0_22 from vi_e ((pw162.2 0 22 (fun q9 => absurd q9.2 (Nat.ne_of_beq_eq_false rfl))).trans ((kq123 0 22 rfl).trans hs63_0_22)))]); omega)) (cwV 0 hts (gi_V (in_29 _ (zs4 (zs4 (zs4 (zs1 (zs1 (zs0))))))) (in_29 _ (zs4 (zs4 (zs4 (zs1 (zs1 (zs1 (zs0)))))))) (in_29 _ (zs16 (zs0))) (in_24 _ (zs4 (zs4 (zs4 (zs1 (zs1 (zs1 (zs0)))))))) (in_29 _ (zs16 (zs1 (zs0))))) rfl rfl rfl ⟨rfl, hz_yX13_clause_0⟩ ⟨Nat.le_of_ble_eq_true rfl, Nat.le_of_ble_eq_true rfl⟩) ⟨HW_bl, va_recv hK hP (ci := 14) (q0 := 0) rfl (hI.ob 0 (Nat.le_of_ble_eq_true rfl) rfl), (HW_wi hP hK (WX_D hD) hS hA hEV)⟩ rfl rfl hl.1 rfl (lv_room (Nat.le_of_ble_eq_true rfl)) dX13_goThrough_91 ⟨Nat.le_of_ble_eq_true rfl, Nat.le_of_ble_eq_true rfl⟩) (WX_D hD) hS hA (fun E165 H locs hw hP hS => ?_)
            obtain ⟨hI, kq166, hw⟩ := hw
            have hKb := hKp
            have hKp := hKp.tr kq166 (wl_sub rfl rfl)
            obtain ⟨y167, ey167⟩ : ∃ y, xi (E165 0) 21 = y := ⟨_, rfl⟩
            have fy167 : xv (E165 0) 21 = .int y167 := (hI.fi 0 (Nat.le_of_ble_eq_true rfl) rfl (Nat.le_of_ble_eq_true rfl) rfl).trans (congrArg Value.int ey167)
            have iy167 : 0 ≤ y167.toInt ∧ y167.toInt ≤ 201 := by rw [← ey167]; exact hI.iv 0 (Nat.le_of_ble_eq_true rfl) rfl (Nat.le_of_ble_eq_true rfl) rfl
            obtain ⟨y168, ey168⟩ : ∃ y, xi (E165 0) 22 = y := ⟨_, rfl⟩
            have fy168 : xv (E165 0) 22 = .int y168 := (hI.fi 0 (Nat.le_of_ble_eq_true rfl) rfl (Nat.le_of_ble_eq_true rfl) rfl).trans (congrArg Value.int ey168)
            have iy168 : -1 ≤ y168.toInt ∧ y168.toInt ≤ 201 := by rw [← ey168]; exact hI.iv 0 (Nat.le_of_ble_eq_true rfl) rfl (Nat.le_of_ble_eq_true rfl) rfl
            obtain ⟨y169, ey169⟩ : ∃ y, xi (E165 0) 23 = y := ⟨_, rfl⟩
            have fy169 : xv (E165 0) 23 = .int y169 := (hI.fi 0 (Nat.le_of_ble_eq_true rfl) rfl (Nat.le_of_ble_eq_true rfl) rfl).trans (congrArg Value.int ey169)
            have iy169 : 0 ≤ y169.toInt ∧ y169.toInt ≤ 8 := by rw [← ey169]; exact hI.iv 0 (Nat.le_of_ble_eq_true rfl) rfl (Nat.le_of_ble_eq_true rfl) rfl
            obtain ⟨f170, f171, f172, f173, f174⟩ := hw
            try rw [(show xi (E161 0) 21 = y159 from vi_e pw162.1)] at f170
            try rw [(show xi (E165 0) 21 = y167 from vi_e fy167)] at f170
            try rw [(show xi (E161 0) 23 = w63_0_23 from vi_e ((pw162.2 0 23 (fun q9 => absurd q9.2 (Nat.ne_of_beq_eq_false rfl))).trans ((kq123 0 23 rfl).trans hs63_0_23)))] at f171
            try rw [(show xi (E165 0) 23 = y169 from vi_e fy169)] at f171
            try rw [(show xi (E161 0) 22 = w63_0_22 from vi_e ((pw162.2 0 22 (fun q9 => absurd q9.2 (Nat.ne_of_beq_eq_false rfl))).trans ((kq123 0 22 rfl).trans hs63_0_22)))] at f172
            try rw [(show xi (E161 0) 23 = w63_0_23 from vi_e ((pw162.2 0 23 (fun q9 => absurd q9.2 (Nat.ne_of_beq_eq_false rfl))).trans ((kq123 0 23 rfl).trans hs63_0_23)))] at f172
            try rw [(show xi (E165 0) 22 = y168 from vi_e fy168)] at f172
            try rw [(show xi (E165 0) 23 = y169 from vi_e fy169)] at f172
            try rw [(show xi (E161 0) 22 = w63_0_22 from vi_e ((pw162.2 0 22 (fun q9 => absurd q9.2 (Nat.ne_of_beq_eq_false rfl))).trans ((kq123 0 22 rfl).trans hs63_0_22)))] at f173
            try rw [(show xi (E165 0) 22 = y168 from vi_e fy168)] at f173
            refine lv_goto (tgt := 63) hx hb dX13_goThrough_94 (by decide) ?_
            exact ih63 y167 y168 y169 E165 _ _ _ iy167 iy168 iy169 (by have h90 := iy167; have h91 := iy168; have h92 := iy169; omega) (LpM.step (op := isSem) (cb := cbC) hx63_1 f129 (is_sem.mpr (by omega)) (by show (xi (E63_ 0) 22).toInt = -1; rw [show xi (E63_ 0) 22 = w63_0_22 from vi_e hs63_0_22]; first | exact t136 | omega) k163 f174 KM.rf (by decide) (fun t m => clauseS_mono true t m) (fun t m a c h => opL_1 (clauseS_mono true t m) rfl h)) (by omega) hI hKp fy167 fy168 fy169 ((kq166 0 18 rfl).trans ((pw162.2 0 18 (fun q9 => absurd q9.2 (Nat.ne_of_beq_eq_false rfl))).trans ((kq123 0 18 rfl).trans hs63_0_18))) ((kq166 0 19 rfl).trans ((pw162.2 0 19 (fun q9 => absurd q9.2 (Nat.ne_of_beq_eq_false rfl))).trans ((kq123 0 19 rfl).trans hs63_0_19))) ((kq166 0 20 rfl).trans ((pw162.2 0 20 (fun q9 => absurd q9.2 (Nat.ne_of_beq_eq_false rfl))).trans ((kq123 0 20 rfl).trans hs63_0_20))) ((kq166 0 24 rfl).trans ((pw162.2 0 24 (fun q9 => absurd q9.2 (Nat.ne_of_beq_eq_false rfl))).trans ((kq123 0 24 rfl).trans hs63_0_24))) hP hS (lv_sub hl [0, 1, 2, 3, 4] rfl)
    exact hL63 (202) y103 y104 y105 E101 _ _ _ iy103 iy104 iy105 (by have h90 := iy103; have h91 := iy104; have h92 := iy105; omega) (LpM.start f110 lmX (Int.le_refl _)) (by have h9 := iy103; omega) hI hKp fy103 fy104 fy105 ((kq102 0 18 rfl).trans ((pw99.2 0 18 (fun q9 => absurd q9.2 (Nat.ne_of_beq_eq_false rfl))).trans ((pw16.2 0 18 (fun q9 => absurd q9.2 (Nat.ne_of_beq_eq_false rfl))).trans ((pw14.2 0 18 (fun q9 => absurd q9.2 (Nat.ne_of_beq_eq_false rfl))).trans ((pw12.2 0 18 (fun q9 => absurd q9.2 (Nat.ne_of_beq_eq_false rfl))).trans ((pw10.2 0 18 (fun q9 => absurd q9.2 (Nat.ne_of_beq_eq_false rfl))).trans ((pw8.2 0 18 (fun q9 => absurd q9.2 (Nat.ne_of_beq_eq_false rfl))).trans ((pw6.2 0 18 (fun q9 => absurd q9.2 (Nat.ne_of_beq_eq_false rfl))).trans ((pw4.2 0 18 (fun q9 => absurd q9.2 (Nat.ne_of_beq_eq_false rfl))).trans pw2.1))))))))) ((kq102 0 19 rfl).trans ((pw99.2 0 19 (fun q9 => absurd q9.2 (Nat.ne_of_beq_eq_false rfl))).trans ((pw16.2 0 19 (fun q9 => absurd q9.2 (Nat.ne_of_beq_eq_false rfl))).trans ((pw14.2 0 19 (fun q9 => absurd q9.2 (Nat.ne_of_beq_eq_false rfl))).trans ((pw12.2 0 19 (fun q9 => absurd q9.2 (Nat.ne_of_beq_eq_false rfl))).trans ((pw10.2 0 19 (fun q9 => absurd q9.2 (Nat.ne_of_beq_eq_false rfl))).trans ((pw8.2 0 19 (fun q9 => absurd q9.2 (Nat.ne_of_beq_eq_false rfl))).trans ((pw6.2 0 19 (fun q9 => absurd q9.2 (Nat.ne_of_beq_eq_false rfl))).trans pw4.1)))))))) ((kq102 0 20 rfl).trans ((pw99.2 0 20 (fun q9 => absurd q9.2 (Nat.ne_of_beq_eq_false rfl))).trans ((pw16.2 0 20 (fun q9 => absurd q9.2 (Nat.ne_of_beq_eq_false rfl))).trans ((pw14.2 0 20 (fun q9 => absurd q9.2 (Nat.ne_of_beq_eq_false rfl))).trans ((pw12.2 0 20 (fun q9 => absurd q9.2 (Nat.ne_of_beq_eq_false rfl))).trans ((pw10.2 0 20 (fun q9 => absurd q9.2 (Nat.ne_of_beq_eq_false rfl))).trans ((pw8.2 0 20 (fun q9 => absurd q9.2 (Nat.ne_of_beq_eq_false rfl))).trans pw6.1))))))) ((kq102 0 24 rfl).trans ((pw99.2 0 24 (fun q9 => absurd q9.2 (Nat.ne_of_beq_eq_false rfl))).trans ((pw16.2 0 24 (fun q9 => absurd q9.2 (Nat.ne_of_beq_eq_false rfl))).trans ((pw14.2 0 24 (fun q9 => absurd q9.2 (Nat.ne_of_beq_eq_false rfl))).trans ((pw12.2 0 24 (fun q9 => absurd q9.2 (Nat.ne_of_beq_eq_false rfl))).trans ((pw10.2 0 24 (fun q9 => absurd q9.2 (Nat.ne_of_beq_eq_false rfl))).trans pw8.1)))))) hP hS (lv_sub hl [0, 1, 2, 3, 4] rfl)
def v_faultMX : List Cond := .code yX13_fault cX13_fault 1 (some .int) :: vA
abbrev rm_faultMX : Room := { frames := 70, cells := 0, slots := 0, locals := 2800 }
def w_faultMX : Nat → Nat → Bool := wl [] [(0, 0), (0, 18), (0, 19), (0, 20), (0, 21), (0, 22), (0, 23), (0, 24), (0, 25), (0, 26)]
set_option maxHeartbeats 4000000 in
set_option maxRecDepth 100000 in
theorem q_faultMX (l : Launch) (dC : Nat → ClassId) (dI : Nat → Nat → Nat) (cT : Nat → ClassId) (ad : Nat → Nat) (E : Nat → va_E) (sz : Nat)  (hI0 : IX cT shM spM 72 ad E)  : Met l yX13_fault v_faultMX rm_faultMX (va_Pc [.ref (ad 0)] (HW dC dI (TYM cT) 72 ad E sz)) (va_Qi (S := Nat → va_E) (fun r u => IX cT shM spM 72 ad u ∧ Kp w_faultMX E u ∧ ((r.toInt = (textS true (mB (xi (E 7)) (0 : Int32)) (xi (E 0) 16).toNatClampNeg).flt))) (HB dC dI 72 ad) (va_A (WX 72 ad E) sz)) 0 0 (va_A (WX 72 ad E) sz) := by
  refine Met.ofW (cc := cX13_fault) (maxL := 1) (ret := (some .int)) (by decide) rfl ?_
  intro p e s m args below meth c s₁ B hml hv
  obtain ⟨hargs, hsz, hP, hK, hD0, hEV⟩ := hv
  subst hsz
  have hx := B.exec
  have hb := B.bytes
  have hr := B.returns
  have hts := atoms_spec (ws := v_faultMX) B.pre
  have hown : s.vm.findClass RX13 = some m.cls := findClass_of_methodNamed B.named
  have hlocks := B.notSynchronized
  have hinX13 : ∀ w ∈ u_ws RX13 TX13 97, w ∈ v_faultMX := fun w h => vA_in _ w (in_X13 w h)
  generalize hAe : va_A (WX 72 ad E) s.heap.size = A at hEV ⊢
  have hA : ∀ q : Nat, s.heap.size ≤ q → A q := fun q h => by rw [← hAe]; exact Or.inr h
  have hD : va_D A (WX 72 ad E) := by rw [← hAe]; exact hD0.self
  have hS : va_S A s.heap s.heap [] := va_S.rf
  have hI := hI0
  have hKp : Kp w_faultMX E E := Kp.rf
  have hl := lv_entry ([.ref (ad 0)]) (n := 1) (Nat.le_of_ble_eq_true rfl)
  obtain ⟨Q, hQ⟩ : ∃ Q, Q = MQ below (va_Qi (S := Nat → va_E) (fun r u => IX cT shM spM 72 ad u ∧ Kp w_faultMX E u ∧ ((r.toInt = (textS true (mB (xi (E 7)) (0 : Int32)) (xi (E 0) 16).toNatClampNeg).flt))) (HB dC dI 72 ad) (A)) args s 0 0 (A) := ⟨_, rfl⟩
  rw [← hQ, show entryFrame m args 1 = _ from (congrArg (fun z => entryFrame m z 1) hargs).trans (lg_entry_eq _ _ _)]
  generalize (lg_sl ([.ref (ad 0)]) ++ List.replicate (1 - (lg_sl ([.ref (ad 0)])).length) Slot.unset).toArray = ls at hl ⊢
  have hl : lv_has ls 1 [(0, .ref (ad 0))] := hl
  refine lv_aload_n hx hb dX13_fault_0 rfl (lv_at hl 0 rfl) ?_
  refine lv_iconst (v := 0) hx hb dX13_fault_1 (by decide) ?_
  refine th_put (ci := 14) (C := RX13) (T := TX13) (N := 97) (v := .int 0) (ty := .int) hx hb hts hinX13 tyX13 tyX13_ok nmX13 hown hK hP (WX_D hD) hS hI 0 (Nat.le_of_ble_eq_true rfl) rfl rfl 0 (Nat.le_of_ble_eq_true rfl) (hts _ (vA_in _ _ (in_24 _ (zs4 (zs4 (zs1 (zs1 (zs0)))))))) (fun _ h9 => h9) rfl (by decide +kernel) rfl rfl (okI rfl (iv_w ln_0 (by decide))) dX13_fault_2 (fun H locs E1 pw2 hI hP hS => ?_)
  have hKp := hKp.pw pw2 rfl
  refine lv_aload_n hx hb dX13_fault_5 rfl (lv_at hl 0 rfl) ?_
  refine lv_aload_n hx hb dX13_fault_6 rfl (lv_at hl 0 rfl) ?_
  refine th_get (ci := 14) (C := RX13) (T := TX13) (N := 97) (v := .ref (ad 7)) hx hb hts hinX13 hown hK hP hI 0 (Nat.le_of_ble_eq_true rfl) rfl rfl 10 (Nat.le_of_ble_eq_true rfl) (hts _ (vA_in _ _ (in_31 _ (zs16 (zs4 (zs4 (zs4 (zs1 (zs0))))))))) (fun _ h9 => h9) (hI.fr 0 (Nat.le_of_ble_eq_true rfl) rfl (Nat.le_of_ble_eq_true rfl) 7 rfl) dX13_fault_7 ?_
  refine lv_iconst (v := 0) hx hb dX13_fault_10 (by decide) ?_
  refine lv_aload_n hx hb dX13_fault_11 rfl (lv_at hl 0 rfl) ?_
  have i3 : 0 ≤ (xi (E 0) 16).toInt ∧ (xi (E 0) 16).toInt ≤ 200 := hI0.iv 0 (Nat.le_of_ble_eq_true rfl) rfl (Nat.le_of_ble_eq_true rfl) rfl
  refine th_get (ci := 14) (C := RX13) (T := TX13) (N := 97) (v := .int (xi (E 0) 16)) hx hb hts hinX13 hown hK hP hI 0 (Nat.le_of_ble_eq_true rfl) rfl rfl 16 (Nat.le_of_ble_eq_true rfl) (hts _ (vA_in _ _ (in_30 _ (zs16 (zs4 (zs0)))))) (fun _ h9 => h9) (th_v0 hKp hI0 0 (Nat.le_of_ble_eq_true rfl) rfl (Nat.le_of_ble_eq_true rfl) rfl rfl) dX13_fault_12 ?_
  refine lv_iconst (v := 0) hx hb dX13_fault_15 (by decide) ?_
  refine th_v (va_runV (As := [.ref (ad 7), .int 0, .int (xi (E 0) 16), .int 0]) (rest := []) ⟨hx, hb, hml, hown, hts⟩ (q_goThroughTX l dC dI cT ad E1 H.size (xi (E 0) 16) (0 : Int32) hI i3 (iv_w ln_0 (by decide))) (cwV 4 hts (gi_V (in_29 _ (zs4 (zs4 (zs0)))) (in_29 _ (zs4 (zs4 (zs1 (zs0))))) (in_29 _ (zs4 (zs4 (zs1 (zs1 (zs0)))))) (in_24 _ (zs4 (zs4 (zs4 (zs1 (zs1 (zs1 (zs0)))))))) (in_29 _ (zs4 (zs4 (zs1 (zs1 (zs1 (zs0)))))))) rfl rfl rfl ⟨rfl, hz_yX13_goThrough_4⟩ ⟨Nat.le_of_ble_eq_true rfl, Nat.le_of_ble_eq_true rfl⟩) ⟨HW_bl, va_recv hK hP (ci := 14) (q0 := 0) rfl (hI.ob 0 (Nat.le_of_ble_eq_true rfl) rfl), (HW_wi hP hK (WX_D hD) hS hA hEV)⟩ rfl rfl hl.1 rfl (lv_room (Nat.le_of_ble_eq_true rfl)) dX13_fault_16 ⟨Nat.le_of_ble_eq_true rfl, Nat.le_of_ble_eq_true rfl⟩) (WX_D hD) hS hA (fun E5 H locs hw hP hS => ?_)
  obtain ⟨hI, kq6, hw⟩ := hw
  have hKb := hKp
  have hKp := hKp.tr kq6 (wl_sub rfl rfl)
  obtain ⟨y7, ey7⟩ : ∃ y, xi (E5 0) 22 = y := ⟨_, rfl⟩
  have fy7 : xv (E5 0) 22 = .int y7 := (hI.fi 0 (Nat.le_of_ble_eq_true rfl) rfl (Nat.le_of_ble_eq_true rfl) rfl).trans (congrArg Value.int ey7)
  have iy7 : -1 ≤ y7.toInt ∧ y7.toInt ≤ 201 := by rw [← ey7]; exact hI.iv 0 (Nat.le_of_ble_eq_true rfl) rfl (Nat.le_of_ble_eq_true rfl) rfl
  have f8 := hw
  try rw [hKb.ef 7 (fun _ => rfl)] at f8
  refine lv_aload_n hx hb dX13_fault_19 rfl (lv_at hl 0 rfl) ?_
  refine th_get (ci := 14) (C := RX13) (T := TX13) (N := 97) (v := .int y7) hx hb hts hinX13 hown hK hP hI 0 (Nat.le_of_ble_eq_true rfl) rfl rfl 22 (Nat.le_of_ble_eq_true rfl) (hts _ (vA_in _ _ (in_25 _ (zs16 (zs16 (zs4 (zs1 (zs1 (zs1 (zs0)))))))))) (fun _ h9 => h9) fy7 dX13_fault_20 ?_
  rw [hQ]
  exact W.iret (v := y7) hx hb hr (fun t ht hW => ⟨⟨y7, E5, rfl, ⟨hI, hKp, (show y7.toInt = mFa E5 by show _ = (xi (E5 0) 22).toInt; rw [show xi (E5 0) 22 = y7 from vi_e fy7]).trans f8⟩, by show va_P (dC, dI) vwCl (WX 72 ad E5) t.heap; rw [ht]; exact hP⟩, hS.F ht⟩) hS.2.2 dX13_fault_23
