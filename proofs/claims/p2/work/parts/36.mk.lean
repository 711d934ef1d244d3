theorem dX12_certificate_0 : decode cX12_certificate 0 = .ok (.aload_n 0, 1) := by decide +kernel
theorem dX12_certificate_1 : decode cX12_certificate 1 = .ok (.getfield 10, 3) := by decide +kernel
theorem dX12_certificate_4 : decode cX12_certificate 4 = .ok (.iload_n 1, 1) := by decide +kernel
theorem dX12_certificate_5 : decode cX12_certificate 5 = .ok (.invokevirtual 66, 3) := by decide +kernel
theorem dX12_certificate_8 : decode cX12_certificate 8 = .ok (.ifCond .eq 10, 3) := by decide +kernel
theorem dX12_certificate_11 : decode cX12_certificate 11 = .ok (.iload_n 2, 1) := by decide +kernel
theorem dX12_certificate_12 : decode cX12_certificate 12 = .ok (.invokestatic 70, 3) := by decide +kernel
theorem dX12_certificate_15 : decode cX12_certificate 15 = .ok (.ifCond .ne 5, 3) := by decide +kernel
theorem dX12_certificate_18 : decode cX12_certificate 18 = .ok (.iconst (-1), 1) := by decide +kernel
theorem dX12_certificate_19 : decode cX12_certificate 19 = .ok (.ireturn, 1) := by decide +kernel
theorem dX12_certificate_20 : decode cX12_certificate 20 = .ok (.iload_n 3, 1) := by decide +kernel
theorem dX12_certificate_21 : decode cX12_certificate 21 = .ok (.bipush 10, 2) := by decide +kernel
theorem dX12_certificate_23 : decode cX12_certificate 23 = .ok (.sipush 400, 3) := by decide +kernel
theorem dX12_certificate_26 : decode cX12_certificate 26 = .ok (.invokestatic 59, 3) := by decide +kernel
theorem dX12_certificate_29 : decode cX12_certificate 29 = .ok (.ifCond .eq 27, 3) := by decide +kernel
theorem dX12_certificate_32 : decode cX12_certificate 32 = .ok (.iload 4, 2) := by decide +kernel
theorem dX12_certificate_34 : decode cX12_certificate 34 = .ok (.iconst 1, 1) := by decide +kernel
theorem dX12_certificate_35 : decode cX12_certificate 35 = .ok (.sipush 4000, 3) := by decide +kernel
theorem dX12_certificate_38 : decode cX12_certificate 38 = .ok (.invokestatic 59, 3) := by decide +kernel
theorem dX12_certificate_41 : decode cX12_certificate 41 = .ok (.ifCond .eq 15, 3) := by decide +kernel
theorem dX12_certificate_44 : decode cX12_certificate 44 = .ok (.iload 5, 2) := by decide +kernel
theorem dX12_certificate_46 : decode cX12_certificate 46 = .ok (.iconst 1, 1) := by decide +kernel
theorem dX12_certificate_47 : decode cX12_certificate 47 = .ok (.sipush 900, 3) := by decide +kernel
theorem dX12_certificate_50 : decode cX12_certificate 50 = .ok (.invokestatic 59, 3) := by decide +kernel
theorem dX12_certificate_53 : decode cX12_certificate 53 = .ok (.ifCond .ne 5, 3) := by decide +kernel
theorem dX12_certificate_56 : decode cX12_certificate 56 = .ok (.iconst (-1), 1) := by decide +kernel
theorem dX12_certificate_57 : decode cX12_certificate 57 = .ok (.ireturn, 1) := by decide +kernel
theorem dX12_certificate_58 : decode cX12_certificate 58 = .ok (.aload_n 0, 1) := by decide +kernel
theorem dX12_certificate_59 : decode cX12_certificate 59 = .ok (.getfield 10, 3) := by decide +kernel
theorem dX12_certificate_62 : decode cX12_certificate 62 = .ok (.getfield 73, 3) := by decide +kernel
theorem dX12_certificate_65 : decode cX12_certificate 65 = .ok (.invokevirtual 77, 3) := by decide +kernel
theorem dX12_certificate_68 : decode cX12_certificate 68 = .ok (.bipush 80, 2) := by decide +kernel
theorem dX12_certificate_70 : decode cX12_certificate 70 = .ok (.if_icmp .lt 5, 3) := by decide +kernel
theorem dX12_certificate_73 : decode cX12_certificate 73 = .ok (.iconst (-1), 1) := by decide +kernel
theorem dX12_certificate_74 : decode cX12_certificate 74 = .ok (.ireturn, 1) := by decide +kernel
theorem dX12_certificate_75 : decode cX12_certificate 75 = .ok (.aload_n 0, 1) := by decide +kernel
theorem dX12_certificate_76 : decode cX12_certificate 76 = .ok (.getfield 10, 3) := by decide +kernel
theorem dX12_certificate_79 : decode cX12_certificate 79 = .ok (.getfield 73, 3) := by decide +kernel
theorem dX12_certificate_82 : decode cX12_certificate 82 = .ok (.new 83, 3) := by decide +kernel
theorem dX12_certificate_85 : decode cX12_certificate 85 = .ok (.dup, 1) := by decide +kernel
theorem dX12_certificate_86 : decode cX12_certificate 86 = .ok (.iload_n 1, 1) := by decide +kernel
theorem dX12_certificate_87 : decode cX12_certificate 87 = .ok (.iload_n 2, 1) := by decide +kernel
theorem dX12_certificate_88 : decode cX12_certificate 88 = .ok (.aload_n 0, 1) := by decide +kernel
theorem dX12_certificate_89 : decode cX12_certificate 89 = .ok (.getfield 10, 3) := by decide +kernel
theorem dX12_certificate_92 : decode cX12_certificate 92 = .ok (.getfield 55, 3) := by decide +kernel
theorem dX12_certificate_95 : decode cX12_certificate 95 = .ok (.iload_n 3, 1) := by decide +kernel
theorem dX12_certificate_96 : decode cX12_certificate 96 = .ok (.iload 4, 2) := by decide +kernel
theorem dX12_certificate_98 : decode cX12_certificate 98 = .ok (.iload 5, 2) := by decide +kernel
theorem dX12_certificate_100 : decode cX12_certificate 100 = .ok (.invokespecial 85, 3) := by decide +kernel
theorem dX12_certificate_103 : decode cX12_certificate 103 = .ok (.invokevirtual 88, 3) := by decide +kernel
theorem dX12_certificate_106 : decode cX12_certificate 106 = .ok (.pop, 1) := by decide +kernel
theorem dX12_certificate_107 : decode cX12_certificate 107 = .ok (.aload_n 0, 1) := by decide +kernel
theorem dX12_certificate_108 : decode cX12_certificate 108 = .ok (.getfield 10, 3) := by decide +kernel
theorem dX12_certificate_111 : decode cX12_certificate 111 = .ok (.getfield 73, 3) := by decide +kernel
theorem dX12_certificate_114 : decode cX12_certificate 114 = .ok (.invokevirtual 77, 3) := by decide +kernel
theorem dX12_certificate_117 : decode cX12_certificate 117 = .ok (.iconst 1, 1) := by decide +kernel
theorem dX12_certificate_118 : decode cX12_certificate 118 = .ok (.isub, 1) := by decide +kernel
theorem dX12_certificate_119 : decode cX12_certificate 119 = .ok (.ireturn, 1) := by decide +kernel

theorem new_free {A : Nat → Prop} {w1 w2 : va_W} {H0 H : Heap} {locs : List Loc} (hD : va_D A (w1 ++ w2)) (hS : va_S A H0 H locs) (hA : ∀ q, H0.size ≤ q → A q) : ∀ z, va_A w1 H.size z → A z := by
  rintro z (⟨k, e, hk⟩ | h)
  · exact (va_D_iff.mp hD).2 _ (List.mem_append_left _ (List.mem_of_getElem? hk))
  · exact hA z (Nat.le_trans hS.1 h)
theorem all_free {A : Nat → Prop} {w1 : va_W} {H0 H : Heap} {locs : List Loc} (hD : va_D A w1) (hS : va_S A H0 H locs) (hA : ∀ q, H0.size ≤ q → A q) : ∀ z, va_A w1 H.size z → A z := by
  rintro z (⟨k, e, hk⟩ | h)
  · exact hD.2 k _ hk
  · exact hA z (Nat.le_trans hS.1 h)
theorem km1 {n J t : Nat} (ht : t < 15) (h : ∀ t', t' < 15 → (kl t' = J ↔ t' = t)) : ∀ x, x ∈ [64 * (n + 1) + t] ↔ ∃ t', t' < 15 ∧ kl t' = J ∧ x = 64 * (n + 1) + t' := by
  intro x
  rw [List.mem_singleton]
  constructor
  · intro e
    exact ⟨t, ht, (h t ht).mpr rfl, e⟩
  · rintro ⟨t', h1, h2, rfl⟩
    rw [(h t' h1).mp h2]
def v_u_certificate : List Cond := .code yX12_certificate cX12_certificate 6 (some .int) :: vA
abbrev rm_u_certificate : Room := { frames := 8, cells := 2, slots := 646, locals := 320 }
def w_u_certificate : Nat → Nat → Bool := wl [] []
set_option maxHeartbeats 4000000 in
set_option maxRecDepth 100000 in
theorem q_u_certificate (l : Launch) (dC : Nat → ClassId) (dI : Nat → Nat → Nat) (cT : Nat → ClassId) (cf : Nat → Nat) (hC : CF cf) (ad : Nat → Nat) (E : Nat → va_E) (sz : Nat) (a0 : Int32) (a1 : Int32) (a2 : Int32) (a3 : Int32) (a4 : Int32) (hI0 : IXL cT (shC cf) (spC cf) (LC cf) ad E)  : Met l yX12_certificate v_u_certificate rm_u_certificate (va_Pc [.ref (ad 0), .int a0, .int a1, .int a2, .int a3, .int a4] (HWL dC dI (TYC cT) cf ad E sz)) (va_Qi (S := (Nat → Nat) × (Nat → Nat) × (Nat → va_E)) (fun r u => Made 0 cT cf ad w_u_certificate E u (r = -1 ∧ ¬ ((0 ≤ a0.toInt ∧ a0.toInt < (xi (E 1) 1).toInt) ∧ (0 ≤ a1.toInt ∧ a1.toInt ≤ 400) ∧ (10 ≤ a2.toInt ∧ a2.toInt ≤ 400) ∧ (1 ≤ a3.toInt ∧ a3.toInt ≤ 4000) ∧ (1 ≤ a4.toInt ∧ a4.toInt ≤ 900) ∧ cf 0 < 80)) (fun e9 => r.toInt = ((cf 0 : Nat) : Int) ∧ ((0 ≤ a0.toInt ∧ a0.toInt < (xi (E 1) 1).toInt) ∧ (0 ≤ a1.toInt ∧ a1.toInt ≤ 400) ∧ (10 ≤ a2.toInt ∧ a2.toInt ≤ 400) ∧ (1 ≤ a3.toInt ∧ a3.toInt ≤ 4000) ∧ (1 ≤ a4.toInt ∧ a4.toInt ≤ 900) ∧ cf 0 < 80) ∧ e9 = .inr (2, [.int a0, .int a1, .int (xi (E 1) 0), .int a2, .int a3, .int a4]))) (fun u t => va_P (dC, dI) vwCl (WL (LC u.1) u.2.1 u.2.2) t.heap ∧ va_D (va_A (WL (LC cf) ad E) sz) (WL (LC u.1) u.2.1 u.2.2)) (va_A (WL (LC cf) ad E) sz)) 2 646 (va_A (WL (LC cf) ad E) sz) := by
  obtain ⟨⟨hc0, hc1, hc2, hc3, hc4, hc5⟩, hcr⟩ := id hC
  refine Met.ofW (cc := cX12_certificate) (maxL := 6) (ret := (some .int)) (by decide) rfl ?_
  intro p e s m args below meth c s₁ B hml hv
  obtain ⟨hargs, hsz, hP, hK, hD0, hEV⟩ := hv
  subst hsz
  have hx := B.exec
  have hb := B.bytes
  have hr := B.returns
  have hts := atoms_spec (ws := v_u_certificate) B.pre
  have hown : s.vm.findClass RX12 = some m.cls := findClass_of_methodNamed B.named
  have hlocks := B.notSynchronized
  have hinX0 : ∀ w ∈ u_ws RX0 TX0 11, w ∈ v_u_certificate := fun w h => vA_in _ w (in_X0 w h)
  have hinX1 : ∀ w ∈ u_ws RX1 TX1 6, w ∈ v_u_certificate := fun w h => vA_in _ w (in_X1 w h)
  have hinX12 : ∀ w ∈ u_ws RX12 TX12 6, w ∈ v_u_certificate := fun w h => vA_in _ w (in_X12 w h)
  generalize hAe : va_A (WL (LC cf) ad E) s.heap.size = A at hEV ⊢
  have hA : ∀ q : Nat, s.heap.size ≤ q → A q := fun q h => by rw [← hAe]; exact Or.inr h
  have hD : va_D A (WL (LC cf) ad E) := by rw [← hAe]; exact hD0.self
  have hS : va_S A s.heap s.heap [] := va_S.rf
  have hI := hI0
  have hKp : Kp w_u_certificate E E := Kp.rf
  have hl := lv_entry ([.ref (ad 0), .int a0, .int a1, .int a2, .int a3, .int a4]) (n := 6) (Nat.le_of_ble_eq_true rfl)
  obtain ⟨Q, hQ⟩ : ∃ Q, Q = MQ below (va_Qi (S := (Nat → Nat) × (Nat → Nat) × (Nat → va_E)) (fun r u => Made 0 cT cf ad w_u_certificate E u (r = -1 ∧ ¬ ((0 ≤ a0.toInt ∧ a0.toInt < (xi (E 1) 1).toInt) ∧ (0 ≤ a1.toInt ∧ a1.toInt ≤ 400) ∧ (10 ≤ a2.toInt ∧ a2.toInt ≤ 400) ∧ (1 ≤ a3.toInt ∧ a3.toInt ≤ 4000) ∧ (1 ≤ a4.toInt ∧ a4.toInt ≤ 900) ∧ cf 0 < 80)) (fun e9 => r.toInt = ((cf 0 : Nat) : Int) ∧ ((0 ≤ a0.toInt ∧ a0.toInt < (xi (E 1) 1).toInt) ∧ (0 ≤ a1.toInt ∧ a1.toInt ≤ 400) ∧ (10 ≤ a2.toInt ∧ a2.toInt ≤ 400) ∧ (1 ≤ a3.toInt ∧ a3.toInt ≤ 4000) ∧ (1 ≤ a4.toInt ∧ a4.toInt ≤ 900) ∧ cf 0 < 80) ∧ e9 = .inr (2, [.int a0, .int a1, .int (xi (E 1) 0), .int a2, .int a3, .int a4]))) (fun u t => va_P (dC, dI) vwCl (WL (LC u.1) u.2.1 u.2.2) t.heap ∧ va_D A (WL (LC u.1) u.2.1 u.2.2)) (A)) args s 2 646 (A) := ⟨_, rfl⟩
  rw [← hQ, show entryFrame m args 6 = _ from (congrArg (fun z => entryFrame m z 6) hargs).trans (lg_entry_eq _ _ _)]
  generalize (lg_sl ([.ref (ad 0), .int a0, .int a1, .int a2, .int a3, .int a4]) ++ List.replicate (6 - (lg_sl ([.ref (ad 0), .int a0, .int a1, .int a2, .int a3, .int a4])).length) Slot.unset).toArray = ls at hl ⊢
  have hl : lv_has ls 6 [(0, .ref (ad 0)), (1, .int a0), (2, .int a1), (3, .int a2), (4, .int a3), (5, .int a4)] := hl
  refine lv_aload_n hx hb dX12_certificate_0 rfl (lv_at hl 0 rfl) ?_
  refine th_getL (ci := 13) (C := RX12) (T := TX12) (N := 6) (v := .ref (ad 1)) hx hb hts hinX12 hown hK hP hI 0 (mF 0 rfl) rfl rfl 0 (Nat.le_of_ble_eq_true rfl) (hts _ (vA_in _ _ (in_10 _ (List.mem_of_getElem? (i := 17) rfl)))) (fun _ h9 => h9) (hI.fr 0 (mF 0 rfl) rfl (Nat.le_of_ble_eq_true rfl) 1 rfl) dX12_certificate_1 ?_
  refine lv_iload_n hx hb dX12_certificate_4 rfl (lv_at hl 1 rfl) ?_
  refine th_riL (va_runV (As := [.int a0]) (rest := []) ⟨hx, hb, hml, hown, hts⟩ (q_isBoatC l dC dI cT cf hC ad E s.heap.size a0 hI) (cwV 1 hts (gi_V (in_10 _ (List.mem_of_getElem? (i := 27) rfl)) (in_6 _ (List.mem_of_getElem? (i := 12) rfl)) (in_6 _ (List.mem_of_getElem? (i := 13) rfl)) (in_5 _ (List.mem_of_getElem? (i := 6) rfl)) (in_5 _ (List.mem_of_getElem? (i := 38) rfl))) rfl rfl rfl (by decide +kernel) ⟨Nat.le_of_ble_eq_true rfl, Nat.le_of_ble_eq_true rfl⟩) ⟨HWL_bl, va_recv hK hP (ci := 1) (q0 := posL 1 (LC cf)) rfl (hI.ob 1 (mF 1 rfl) rfl), (HWL_wi hP hK (WL_D hD) hS hA hEV)⟩ rfl rfl hl.1 rfl (lv_room (Nat.le_of_ble_eq_true rfl)) dX12_certificate_5 ⟨Nat.le_of_ble_eq_true rfl, Nat.le_of_ble_eq_true rfl⟩) hS hP (fun r1 H locs hw hP hS => ?_)
  rcases hw with hw | hw
  · -- isBoatC, case 0
    obtain ⟨rfl, f2, f3⟩ := hw
    have i4 : 0 ≤ (xi (E 1) 1).toInt ∧ (xi (E 1) 1).toInt ≤ 16 := hI0.iv 1 (mF 1 rfl) rfl (Nat.le_of_ble_eq_true rfl) rfl
    refine lv_if_eq (tgt := 18) hx hb dX12_certificate_8 (by decide) (fun c5 => ?_) (fun c5 => ?_)
    · --8 taken
      exact absurd c5 (by decide)
    · --8 not
      refine lv_iload_n hx hb dX12_certificate_11 rfl (lv_at hl 2 rfl) ?_
      refine th_pi (va_runS (As := [.int a1]) (rest := []) ⟨hx, hb, hml, hown, hts⟩ (q_cisDay l a1) (va_cwS 1 hts (gi_S (in_10 _ (List.mem_of_getElem? (i := 28) rfl)) (in_10 _ (List.mem_of_getElem? (i := 29) rfl)) (in_4 _ (List.mem_of_getElem? (i := 23) rfl)) (in_10 _ (List.mem_of_getElem? (i := 30) rfl))) rfl rfl rfl (by decide +kernel) ⟨Nat.le_of_ble_eq_true rfl, Nat.le_of_ble_eq_true rfl⟩) ⟨fun _ _ _ _ q => q, fun _ _ _ => ⟨rfl, trivial⟩⟩ rfl rfl hl.1 rfl (lv_room (Nat.le_of_ble_eq_true rfl)) dX12_certificate_12 ⟨Nat.le_of_ble_eq_true rfl, Nat.le_of_ble_eq_true rfl⟩) hS (fun r6 H1 locs1 hw hk1 hS => ?_)
      have hP := ub_keep hP hk1
      generalize H1 = H at hP hS ⊢
      generalize locs1 = locs at hS ⊢
      rcases hw with hw | hw
      · -- cisDay, case 0
        obtain ⟨rfl, f7⟩ := hw
        have t8 : (0 : Int) ≤ a1.toInt := f7.1
        have t9 : a1.toInt ≤ 400 := f7.2
        have i10 : 0 ≤ a1.toInt ∧ a1.toInt ≤ 2147483647 := iv_le_r t8 (il_ 0) (iv_all _) (by decide)
        have i11 : 0 ≤ a1.toInt ∧ a1.toInt ≤ 400 := iv_le_l t9 i10 (il_ 400) (by decide)
        refine lv_if_ne (tgt := 20) hx hb dX12_certificate_15 (by decide) (fun c12 => ?_) (fun c12 => ?_)
        · --15 taken
          refine lv_iload_n hx hb dX12_certificate_20 rfl (lv_at hl 3 rfl) ?_
          refine lv_bipush (v := 10) hx hb dX12_certificate_21 (by decide) ?_
          refine lv_sipush (v := 400) hx hb dX12_certificate_23 (by decide) ?_
          refine th_pi (va_runS (As := [.int a2, .int 10, .int 400]) (rest := []) ⟨hx, hb, hml, hown, hts⟩ (q_cwithin l a2 (10 : Int32) (400 : Int32)) (va_cwS 3 hts (gi_S (in_10 _ (List.mem_of_getElem? (i := 31) rfl)) (in_4 _ (List.mem_of_getElem? (i := 22) rfl)) (in_4 _ (List.mem_of_getElem? (i := 23) rfl)) (in_4 _ (List.mem_of_getElem? (i := 24) rfl))) rfl rfl rfl (by decide +kernel) ⟨Nat.le_of_ble_eq_true rfl, Nat.le_of_ble_eq_true rfl⟩) ⟨fun _ _ _ _ q => q, fun _ _ _ => ⟨rfl, trivial⟩⟩ rfl rfl hl.1 rfl (lv_room (Nat.le_of_ble_eq_true rfl)) dX12_certificate_26 ⟨Nat.le_of_ble_eq_true rfl, Nat.le_of_ble_eq_true rfl⟩) hS (fun r13 H1 locs1 hw hk1 hS => ?_)
          have hP := ub_keep hP hk1
          generalize H1 = H at hP hS ⊢
          generalize locs1 = locs at hS ⊢
          rcases hw with hw | hw
          · -- cwithin, case 0
            obtain ⟨rfl, f14⟩ := hw
            have t15 : (10 : Int) ≤ a2.toInt := f14.1
            have t16 : a2.toInt ≤ 400 := f14.2
            have i17 : 10 ≤ a2.toInt ∧ a2.toInt ≤ 2147483647 := iv_le_r t15 (il_ 10) (iv_all _) (by decide)
            have i18 : 10 ≤ a2.toInt ∧ a2.toInt ≤ 400 := iv_le_l t16 i17 (il_ 400) (by decide)
            refine lv_if_eq (tgt := 56) hx hb dX12_certificate_29 (by decide) (fun c19 => ?_) (fun c19 => ?_)
            · --29 taken
              exact absurd c19 (by decide)
            · --29 not
              refine lv_iload hx hb dX12_certificate_32 (lv_at hl 4 rfl) ?_
              refine lv_iconst (v := 1) hx hb dX12_certificate_34 (by decide) ?_
              refine lv_sipush (v := 4000) hx hb dX12_certificate_35 (by decide) ?_
              refine th_pi (va_runS (As := [.int a3, .int 1, .int 4000]) (rest := []) ⟨hx, hb, hml, hown, hts⟩ (q_cwithin l a3 (1 : Int32) (4000 : Int32)) (va_cwS 3 hts (gi_S (in_10 _ (List.mem_of_getElem? (i := 31) rfl)) (in_4 _ (List.mem_of_getElem? (i := 22) rfl)) (in_4 _ (List.mem_of_getElem? (i := 23) rfl)) (in_4 _ (List.mem_of_getElem? (i := 24) rfl))) rfl rfl rfl (by decide +kernel) ⟨Nat.le_of_ble_eq_true rfl, Nat.le_of_ble_eq_true rfl⟩) ⟨fun _ _ _ _ q => q, fun _ _ _ => ⟨rfl, trivial⟩⟩ rfl rfl hl.1 rfl (lv_room (Nat.le_of_ble_eq_true rfl)) dX12_certificate_38 ⟨Nat.le_of_ble_eq_true rfl, Nat.le_of_ble_eq_true rfl⟩) hS (fun r20 H1 locs1 hw hk1 hS => ?_)
              have hP := ub_keep hP hk1
              generalize H1 = H at hP hS ⊢
              generalize locs1 = locs at hS ⊢
              rcases hw with hw | hw
              · -- cwithin, case 0
                obtain ⟨rfl, f21⟩ := hw
                have t22 : (1 : Int) ≤ a3.toInt := f21.1
                have t23 : a3.toInt ≤ 4000 := f21.2
                have i24 : 1 ≤ a3.toInt ∧ a3.toInt ≤ 2147483647 := iv_le_r t22 (il_ 1) (iv_all _) (by decide)
                have i25 : 1 ≤ a3.toInt ∧ a3.toInt ≤ 4000 := iv_le_l t23 i24 (il_ 4000) (by decide)
                refine lv_if_eq (tgt := 56) hx hb dX12_certificate_41 (by decide) (fun c26 => ?_) (fun c26 => ?_)
                · --41 taken
                  exact absurd c26 (by decide)
                · --41 not
                  refine lv_iload hx hb dX12_certificate_44 (lv_at hl 5 rfl) ?_
                  refine lv_iconst (v := 1) hx hb dX12_certificate_46 (by decide) ?_
                  refine lv_sipush (v := 900) hx hb dX12_certificate_47 (by decide) ?_
                  refine th_pi (va_runS (As := [.int a4, .int 1, .int 900]) (rest := []) ⟨hx, hb, hml, hown, hts⟩ (q_cwithin l a4 (1 : Int32) (900 : Int32)) (va_cwS 3 hts (gi_S (in_10 _ (List.mem_of_getElem? (i := 31) rfl)) (in_4 _ (List.mem_of_getElem? (i := 22) rfl)) (in_4 _ (List.mem_of_getElem? (i := 23) rfl)) (in_4 _ (List.mem_of_getElem? (i := 24) rfl))) rfl rfl rfl (by decide +kernel) ⟨Nat.le_of_ble_eq_true rfl, Nat.le_of_ble_eq_true rfl⟩) ⟨fun _ _ _ _ q => q, fun _ _ _ => ⟨rfl, trivial⟩⟩ rfl rfl hl.1 rfl (lv_room (Nat.le_of_ble_eq_true rfl)) dX12_certificate_50 ⟨Nat.le_of_ble_eq_true rfl, Nat.le_of_ble_eq_true rfl⟩) hS (fun r27 H1 locs1 hw hk1 hS => ?_)
                  have hP := ub_keep hP hk1
                  generalize H1 = H at hP hS ⊢
                  generalize locs1 = locs at hS ⊢
                  rcases hw with hw | hw
                  · -- cwithin, case 0
                    obtain ⟨rfl, f28⟩ := hw
                    have t29 : (1 : Int) ≤ a4.toInt := f28.1
                    have t30 : a4.toInt ≤ 900 := f28.2
                    have i31 : 1 ≤ a4.toInt ∧ a4.toInt ≤ 2147483647 := iv_le_r t29 (il_ 1) (iv_all _) (by decide)
                    have i32 : 1 ≤ a4.toInt ∧ a4.toInt ≤ 900 := iv_le_l t30 i31 (il_ 900) (by decide)
                    refine lv_if_ne (tgt := 58) hx hb dX12_certificate_53 (by decide) (fun c33 => ?_) (fun c33 => ?_)
                    · --53 taken
                      refine lv_aload_n hx hb dX12_certificate_58 rfl (lv_at hl 0 rfl) ?_
                      refine th_getL (ci := 13) (C := RX12) (T := TX12) (N := 6) (v := .ref (ad 1)) hx hb hts hinX12 hown hK hP hI 0 (mF 0 rfl) rfl rfl 0 (Nat.le_of_ble_eq_true rfl) (hts _ (vA_in _ _ (in_10 _ (List.mem_of_getElem? (i := 17) rfl)))) (fun _ h9 => h9) (hI.fr 0 (mF 0 rfl) rfl (Nat.le_of_ble_eq_true rfl) 1 rfl) dX12_certificate_59 ?_
                      refine th_getL (ci := 1) (C := RX0) (T := TX0) (N := 11) (v := .ref (ad 7)) hx hb hts hinX0 hown hK hP hI 1 (mF 1 rfl) rfl rfl 3 (Nat.le_of_ble_eq_true rfl) (hts _ (vA_in _ _ (in_10 _ (List.mem_of_getElem? (i := 22) rfl)))) (fun _ h9 => h9) (hI.fr 1 (mF 1 rfl) rfl (Nat.le_of_ble_eq_true rfl) 7 rfl) dX12_certificate_62 ?_
                      refine th_riL (va_runV (As := []) (rest := []) ⟨hx, hb, hml, hown, hts⟩ (q_size0 l dC dI cT cf hC ad E H.size hI) (cwV 0 hts (gi_V (in_10 _ (List.mem_of_getElem? (i := 32) rfl)) (in_4 _ (List.mem_of_getElem? (i := 35) rfl)) (in_4 _ (List.mem_of_getElem? (i := 36) rfl)) (in_3 _ (List.mem_of_getElem? (i := 18) rfl)) (in_4 _ (List.mem_of_getElem? (i := 19) rfl))) rfl rfl rfl (by decide +kernel) ⟨Nat.le_of_ble_eq_true rfl, Nat.le_of_ble_eq_true rfl⟩) ⟨HWL_bl, va_recv hK hP (ci := 0) (q0 := posL 7 (LC cf)) rfl (hI.ob 7 (mF 7 rfl) rfl), (HWL_wi hP hK (WL_D hD) hS hA hEV)⟩ rfl rfl hl.1 rfl (lv_room (Nat.le_of_ble_eq_true rfl)) dX12_certificate_65 ⟨Nat.le_of_ble_eq_true rfl, Nat.le_of_ble_eq_true rfl⟩) hS hP (fun r34 H locs hw hP hS => ?_)
                      obtain ⟨f35, f36⟩ := hw
                      refine lv_bipush (v := 80) hx hb dX12_certificate_68 (by decide) ?_
                      refine lv_icmp_lt (tgt := 75) hx hb dX12_certificate_70 (by decide) (fun c37 => ?_) (fun c37 => ?_)
                      · --70 taken
                        have t38 : r34.toInt < 80 := ti_lt c37
                        have i39 : 0 ≤ r34.toInt ∧ r34.toInt ≤ 79 := iv_lt_l t38 f35 (il_ 80) (by decide)
                        refine lv_aload_n hx hb dX12_certificate_75 rfl (lv_at hl 0 rfl) ?_
                        refine th_getL (ci := 13) (C := RX12) (T := TX12) (N := 6) (v := .ref (ad 1)) hx hb hts hinX12 hown hK hP hI 0 (mF 0 rfl) rfl rfl 0 (Nat.le_of_ble_eq_true rfl) (hts _ (vA_in _ _ (in_10 _ (List.mem_of_getElem? (i := 17) rfl)))) (fun _ h9 => h9) (hI.fr 0 (mF 0 rfl) rfl (Nat.le_of_ble_eq_true rfl) 1 rfl) dX12_certificate_76 ?_
                        refine th_getL (ci := 1) (C := RX0) (T := TX0) (N := 11) (v := .ref (ad 7)) hx hb hts hinX0 hown hK hP hI 1 (mF 1 rfl) rfl rfl 3 (Nat.le_of_ble_eq_true rfl) (hts _ (vA_in _ _ (in_10 _ (List.mem_of_getElem? (i := 22) rfl)))) (fun _ h9 => h9) (hI.fr 1 (mF 1 rfl) rfl (Nat.le_of_ble_eq_true rfl) 7 rfl) dX12_certificate_79 ?_
                        refine va_new (ci := 2) (fs := [.int 0, .int 0, .int 0, .int 0, .int 0, .int 0]) (C := RX1) (T := TX1) (N := 6) hx hb hts hinX1 tyX1 tyX1_ok hown (hts _ (vA_in _ _ (in_10 _ (List.mem_of_getElem? (i := 23) rfl)))) (hts _ (vA_in _ _ (in_10 _ (List.mem_of_getElem? (i := 24) rfl)))) (hts _ (vA_in _ _ (in_10 _ (List.mem_of_getElem? (i := 25) rfl)))) hK hP (WL_D hD) hS hA rfl (fun j hj => by rcases (show j = 0 ∨ j = 1 ∨ j = 2 ∨ j = 3 ∨ j = 4 ∨ j = 5 by omega) with rfl | rfl | rfl | rfl | rfl | rfl <;> rfl) (Nat.le_of_ble_eq_true rfl) (Nat.le_of_ble_eq_true rfl) dX12_certificate_82 (fun qn H hP2 hD2 hS => ?_)
                        have hP2 : va_P (dC, dI) vwCl ([(qn, .inr (2, [.int 0, .int 0, .int 0, .int 0, .int 0, .int 0]))] ++ WL (LC cf) ad E) H := va_P_perm hP2 List.perm_append_comm
                        have hD2 : va_D A ([(qn, .inr (2, [.int 0, .int 0, .int 0, .int 0, .int 0, .int 0]))] ++ WL (LC cf) ad E) := va_D_perm hD2 List.perm_append_comm
                        have hP : va_P (dC, dI) vwCl (WL (LC cf) ad E) H := va_P_sub hP2 (fun x hx => List.mem_append_right _ hx)
                        refine lv_dup hx hb dX12_certificate_85 rfl ?_
                        refine lv_iload_n hx hb dX12_certificate_86 rfl (lv_at hl 1 rfl) ?_
                        refine lv_iload_n hx hb dX12_certificate_87 rfl (lv_at hl 2 rfl) ?_
                        refine lv_aload_n hx hb dX12_certificate_88 rfl (lv_at hl 0 rfl) ?_
                        refine th_getL (ci := 13) (C := RX12) (T := TX12) (N := 6) (v := .ref (ad 1)) hx hb hts hinX12 hown hK hP hI 0 (mF 0 rfl) rfl rfl 0 (Nat.le_of_ble_eq_true rfl) (hts _ (vA_in _ _ (in_10 _ (List.mem_of_getElem? (i := 17) rfl)))) (fun _ h9 => h9) (hI.fr 0 (mF 0 rfl) rfl (Nat.le_of_ble_eq_true rfl) 1 rfl) dX12_certificate_89 ?_
                        have i40 : 0 ≤ (xi (E 1) 0).toInt ∧ (xi (E 1) 0).toInt ≤ 400 := hI0.iv 1 (mF 1 rfl) rfl (Nat.le_of_ble_eq_true rfl) rfl
                        refine th_getL (ci := 1) (C := RX0) (T := TX0) (N := 11) (v := .int (xi (E 1) 0)) hx hb hts hinX0 hown hK hP hI 1 (mF 1 rfl) rfl rfl 0 (Nat.le_of_ble_eq_true rfl) (hts _ (vA_in _ _ (in_10 _ (List.mem_of_getElem? (i := 26) rfl)))) (fun _ h9 => h9) (th_v0L hKp hI0 1 (mF 1 rfl) rfl (Nat.le_of_ble_eq_true rfl) rfl rfl) dX12_certificate_92 ?_
                        refine lv_iload_n hx hb dX12_certificate_95 rfl (lv_at hl 3 rfl) ?_
                        refine lv_iload hx hb dX12_certificate_96 (lv_at hl 4 rfl) ?_
                        refine lv_iload hx hb dX12_certificate_98 (lv_at hl 5 rfl) ?_
                        have hPc := va_P_sub (ws' := [(qn, .inr (2, [.int 0, .int 0, .int 0, .int 0, .int 0, .int 0]))]) hP2 (fun x hx => List.mem_append_left _ hx)
                        have hDc := va_D_left hD2
                        have hFc : ∀ z, va_A [(qn, .inr (2, [.int 0, .int 0, .int 0, .int 0, .int 0, .int 0]))] H.size z → A z := new_free hD2 hS hA
                        refine va_callv (va_runI (As := [.int a0, .int a1, .int (xi (E 1) 0), .int a2, .int a3, .int a4]) (rest := [.ref qn, .ref (ad 7)]) ⟨hx, hb, hml, hown, hts⟩ (x_Cert l dC dI qn a0 a1 (xi (E 1) 0) a2 a3 a4 H.size) (cwI 6 hts (gi_0 (in_10 _ (List.mem_of_getElem? (i := 35) rfl))) rfl rfl rfl (hts _ (vA_in _ _ (in_10 _ (List.mem_of_getElem? (i := 25) rfl)))) (hts _ (vA_in _ _ (in_10 _ (List.mem_of_getElem? (i := 33) rfl)))) (hts _ (vA_in _ _ (in_10 _ (List.mem_of_getElem? (i := 34) rfl)))) rfl (by decide +kernel) ⟨Nat.le_of_ble_eq_true rfl, Nat.le_of_ble_eq_true rfl⟩) ⟨fun a U g mk q => by obtain ⟨e0, e1, qP, qK, qD⟩ := q; exact ⟨e0, e1, qP, va_K.moved (u := U) (U := U.calling g mk a) (Vm.Alike.refl U.vm) qK, qD⟩, fun U hU hW => ⟨rfl, by rw [hU], by rw [hU]; exact hPc, va_K.moved hW.alike (hK.sub (tys' := []) [] rfl), hDc.weaken (fun _ _ _ _ => trivial)⟩⟩ rfl rfl hl.1 rfl (lv_room (Nat.le_of_ble_eq_true rfl)) dX12_certificate_100 ⟨Nat.le_of_ble_eq_true rfl, Nat.le_of_ble_eq_true rfl⟩) hS (fun z _ h => hFc z h) hFc (fun u1 t H1 locs ht hvm hw hB hz1 hk1 hS => ?_)
                        obtain ⟨hP1, -, hD1⟩ := hB
                        rw [ht] at hP1
                        obtain ⟨hP2, hD2⟩ := va_joinQ (wr := []) hP2 hD2 [0] [] rfl rfl rfl (fun _ h => nomatch h) hk1 hFc hP1 hD1
                        have hP2 : va_P (dC, dI) vwCl ([(qn, .inr (2, [.int a0, .int a1, .int (xi (E 1) 0), .int a2, .int a3, .int a4]))] ++ WL (LC cf) ad E) H1 := hP2
                        have hD2 : va_D A ([(qn, .inr (2, [.int a0, .int a1, .int (xi (E 1) 0), .int a2, .int a3, .int a4]))] ++ WL (LC cf) ad E) := hD2
                        generalize H1 = H at hP2 hS ⊢
                        have hP : va_P (dC, dI) vwCl (WL (LC cf) ad E) H := va_P_sub hP2 (fun x hx => List.mem_append_right _ hx)
                        obtain ⟨ad1, had1⟩ : ∃ z, z = va_up ad (64 * (cf 0 + 1) + 0) qn := ⟨_, rfl⟩
                        obtain ⟨E1, hE1⟩ : ∃ z : Nat → va_E, z = va_up E (64 * (cf 0 + 1) + 0) (.inr (2, [.int a0, .int a1, .int (xi (E 1) 0), .int a2, .int a3, .int a4])) := ⟨_, rfl⟩
                        have huq : ∀ t', t' < 15 → (kl t' = 0 ↔ t' = 0) := by decide
                        have hKM := km1 (n := cf 0) (J := 0) (t := 0) (by decide) huq
                        have hko : (64 * (cf 0 + 1) + 0) ∉ LC cf := K_out (J := 0) (by decide) hKM _ (List.mem_singleton.mpr rfl)
                        have haa : ∀ o, o ∈ LC cf → ad1 o = ad o := fun o h => by rw [had1]; exact va_up_ne _ _ (fun e => hko (e ▸ h))
                        have hee : ∀ o, o ∈ LC cf → E1 o = E o := fun o h => by rw [hE1]; exact va_up_ne _ _ (fun e => hko (e ▸ h))
                        have aq : ad1 (64 * (cf 0 + 1) + 0) = qn := by rw [had1]; exact va_up_self _ _ _
                        have eq : E1 (64 * (cf 0 + 1) + 0) = .inr (2, [.int a0, .int a1, .int (xi (E 1) 0), .int a2, .int a3, .int a4]) := by rw [hE1]; exact va_up_self _ _ _
                        have hw9 : WL ([(64 * (cf 0 + 1) + 0)] ++ LC cf) ad1 E1 = [(qn, .inr (2, [.int a0, .int a1, .int (xi (E 1) 0), .int a2, .int a3, .int a4]))] ++ WL (LC cf) ad E := by
                          show (ad1 (64 * (cf 0 + 1) + 0), E1 (64 * (cf 0 + 1) + 0)) :: WL (LC cf) ad1 E1 = _
                          rw [aq, eq, WL_congr (ad' := ad) (E' := E) fun o h => ⟨haa o h, hee o h⟩]
                          rfl
                        rw [← hw9] at hP2 hD2
                        have hI1 := IX_ad hI hC haa hee
                        have hlt : cf 0 < 80 := by omega
                        obtain ⟨hG, hCn⟩ := CF_up hC (J := 0) (by decide) (m := 80) rfl hlt (by decide)
                        have hnew : ∀ t', t' < 15 → kl t' = 0 → okS cT (shP (va_up cf 0 (cf 0 + 1)) t' (cf 0)) (E1 (64 * (cf 0 + 1) + t')) ∧ ∀ j, j < (shP (va_up cf 0 (cf 0 + 1)) t' (cf 0)).2.2 → okV ad1 (spP (va_up cf 0 (cf 0 + 1)) t' (cf 0) j) (xv (E1 (64 * (cf 0 + 1) + t')) j) := by
                          intro t' h1 h2
                          obtain rfl : t' = 0 := (huq t' h1).mp h2
                          rw [eq]
                          refine ⟨rfl, fun j hj => ?_⟩
                          have hj : j < 6 := hj
                          rcases (show j = 0 ∨ j = 1 ∨ j = 2 ∨ j = 3 ∨ j = 4 ∨ j = 5 by omega) with rfl | rfl | rfl | rfl | rfl | rfl
                          · exact okI rfl f3
                          · exact okI rfl i11
                          · exact okI rfl i40
                          · exact okI rfl (iv_w i18 (by decide))
                          · exact okI rfl (iv_w i25 (by decide))
                          · exact okI rfl (iv_w i32 (by decide))
                        have hM := k_addW l dC dI cT cf hC ad1 E1 (va_up cf 0 (cf 0 + 1)) 0 (by decide) hG (by omega) [(64 * (cf 0 + 1) + 0)] (by simp) hKM 2 RX1 TX1 6 _ rfl (fun _ => rfl) (List.mem_of_getElem? (i := 0) rfl) eq H.size hI1 hnew
                        rw [show ad1 (7 + 0) = ad 7 from haa _ (mF _ rfl), show ad1 (64 * (cf 0 + 1) + lkd 0) = qn from aq] at hM
                        have hFA := all_free hD2 hS hA
                        refine va_calli (va_runV (As := [.ref qn]) (rest := []) ⟨hx, hb, hml, hown, hts⟩ hM (cwV 1 hts (gi_V (in_11 _ (List.mem_of_getElem? (i := 3) rfl)) (in_11 _ (List.mem_of_getElem? (i := 4) rfl)) (in_11 _ (List.mem_of_getElem? (i := 5) rfl)) (in_3 _ (List.mem_of_getElem? (i := 18) rfl)) (in_3 _ (List.mem_of_getElem? (i := 32) rfl))) rfl rfl rfl (by decide +kernel) ⟨Nat.le_of_ble_eq_true rfl, Nat.le_of_ble_eq_true rfl⟩) ⟨fun a U g mk q => by obtain ⟨e0, e1, qP, qK, qD, qE⟩ := q; exact ⟨e0, e1, qP, va_K.moved (u := U) (U := U.calling g mk a) (Vm.Alike.refl U.vm) qK, qD, EVC_c qE⟩, va_recv hK hP (ci := 0) (q0 := posL 7 (LC cf)) rfl (hI.ob 7 (mF 7 rfl) rfl), fun U hU hW => ⟨rfl, by rw [hU], by rw [hU]; exact hP2, va_K.moved hW.alike hK, hD2.weaken (fun _ _ _ _ => trivial), EVC_w hU hW hS hFA hEV⟩⟩ rfl rfl hl.1 rfl (lv_room (Nat.le_of_ble_eq_true rfl)) dX12_certificate_103 ⟨Nat.le_of_ble_eq_true rfl, Nat.le_of_ble_eq_true rfl⟩) hS (fun z _ h => hFA z h) hFA (fun r9 u9 t H1 locs ht hvm hw hB hz1 hk1 hS => ?_)
                        obtain ⟨rfl, hI9, a9, e9⟩ := hw
                        obtain ⟨hP9, hD9⟩ := hB
                        rw [ht] at hP9
                        have hD9 := hD9.weaken (B := A) (fun _ _ _ h => hFA _ h)
                        generalize H1 = H at hP9 hS ⊢
                        obtain ⟨ad9, E9⟩ := u9
                        dsimp only at hI9 a9 e9 hP9 hD9
                        have had9 : ∀ o, o ≠ 13 + 0 → (∀ t, t < 15 → kl t = 0 → o ≠ 64 * (cf 0 + 1) + t) → ad9 o = ad o := fun o h1 h2 => (a9 o h1).trans (by rw [had1]; exact va_up_ne _ _ (h2 0 (by decide) rfl))
                        have hkg : KpG 0 cf w_u_certificate E E9 := fun o j h1 h2 h3 h4 => by have h5 := hKp o j h4; rw [← h5]; rw [e9 o h1 h2, hE1, va_up_ne _ _ (h3 0 (by decide) rfl)]
                        have hob : E9 (64 * (cf 0 + 1) + lkd 0) = .inr (2, [.int a0, .int a1, .int (xi (E 1) 0), .int a2, .int a3, .int a4]) := (e9 _ (by show 64 * (cf 0 + 1) + 0 ≠ _; omega) (by show 64 * (cf 0 + 1) + 0 ≠ _; omega)).trans eq
                        refine lv_pop hx hb dX12_certificate_106 rfl ?_
                        refine lv_aload_n hx hb dX12_certificate_107 rfl (lv_at hl 0 rfl) ?_
                        rw [show ad 0 = ad9 0 from (had9 0 (by decide) (fun t h1 h2 => by omega)).symm]
                        refine th_getL (ci := 13) (C := RX12) (T := TX12) (N := 6) (v := .ref (ad9 1)) hx hb hts hinX12 hown hK hP9 hI9 0 (mF 0 rfl) rfl rfl 0 (Nat.le_of_ble_eq_true rfl) (hts _ (vA_in _ _ (in_10 _ (List.mem_of_getElem? (i := 17) rfl)))) (fun _ h9 => h9) (hI9.fr 0 (mF 0 rfl) rfl (Nat.le_of_ble_eq_true rfl) 1 rfl) dX12_certificate_108 ?_
                        refine th_getL (ci := 1) (C := RX0) (T := TX0) (N := 11) (v := .ref (ad9 7)) hx hb hts hinX0 hown hK hP9 hI9 1 (mF 1 rfl) rfl rfl 3 (Nat.le_of_ble_eq_true rfl) (hts _ (vA_in _ _ (in_10 _ (List.mem_of_getElem? (i := 22) rfl)))) (fun _ h9 => h9) (hI9.fr 1 (mF 1 rfl) rfl (Nat.le_of_ble_eq_true rfl) 7 rfl) dX12_certificate_111 ?_
                        refine th_riL (va_runV (As := []) (rest := []) ⟨hx, hb, hml, hown, hts⟩ (q_size0 l dC dI cT (va_up cf 0 (cf 0 + 1)) hCn ad9 E9 H.size hI9) (cwV 0 hts (gi_V (in_10 _ (List.mem_of_getElem? (i := 32) rfl)) (in_4 _ (List.mem_of_getElem? (i := 35) rfl)) (in_4 _ (List.mem_of_getElem? (i := 36) rfl)) (in_3 _ (List.mem_of_getElem? (i := 18) rfl)) (in_4 _ (List.mem_of_getElem? (i := 19) rfl))) rfl rfl rfl (by decide +kernel) ⟨Nat.le_of_ble_eq_true rfl, Nat.le_of_ble_eq_true rfl⟩) ⟨HWL_bl, va_recv hK hP9 (ci := 0) (q0 := posL 7 (LC (va_up cf 0 (cf 0 + 1)))) rfl (hI9.ob 7 (mF 7 rfl) rfl), HWL_wi hP9 hK hD9 hS hA (by rw [show (va_up cf 0 (cf 0 + 1)) 6 = cf 6 from va_up_ne _ _ (by decide)]; exact hEV)⟩ rfl rfl hl.1 rfl (lv_room (Nat.le_of_ble_eq_true rfl)) dX12_certificate_114 ⟨Nat.le_of_ble_eq_true rfl, Nat.le_of_ble_eq_true rfl⟩) hS hP9 (fun r8 H locs hw8 hP9 hS => ?_)
                        obtain ⟨i8, t8⟩ := hw8
                        rw [show (va_up cf 0 (cf 0 + 1)) 0 = cf 0 + 1 from va_up_self _ _ _] at t8
                        refine lv_iconst (v := 1) hx hb dX12_certificate_117 (by decide) ?_
                        refine lv_isub hx hb dX12_certificate_118 ?_
                        refine lv_topi (fun y8 e8 => ?_)
                        obtain ⟨ty8, iy8⟩ := ti_sub (e := -1) (f := 300) i8 ln_1 e8 (by decide)
                        have l1 : (1 : Int32).toInt = 1 := rfl
                        rw [hQ]
                        refine W.widen (k := 2) (n := 646) (by omega) (by omega) ?_
                        exact W.iret (v := y8) hx hb hr (fun t ht hW => ⟨⟨y8, ((va_up cf 0 (cf 0 + 1)), ad9, E9), rfl, ⟨hCn, hI9, Or.inr ⟨hG, had9, hkg, (by omega), (by  omega), hob⟩⟩, by rw [ht]; exact hP9, hD9⟩, hS.F ht⟩) hS.2.2 dX12_certificate_119
                      · --70 not
                        have t41 : (80 : Int) ≤ r34.toInt := ti_nlt c37
                        have i42 : 80 ≤ r34.toInt ∧ r34.toInt ≤ 80 := iv_le_r t41 (il_ 80) f35 (by decide)
                        refine lv_iconst (v := -1) hx hb dX12_certificate_73 (by decide) ?_
                        have zm1 := ln_m1
                        rw [hQ]
                        refine W.widen (k := 2) (n := 646) (by omega) (by omega) ?_
                        exact W.iret (v := (-1)) hx hb hr (fun t ht hW => ⟨⟨(-1), (cf, ad, E), rfl, ⟨hC, hI, Or.inl ⟨rfl, rfl, hKp, rfl, by omega⟩⟩, by rw [ht]; exact hP, (WL_D hD)⟩, hS.F ht⟩) hS.2.2 dX12_certificate_74
                    · --53 not
                      exact absurd c33 (by decide)
                  · -- cwithin, case 1
                    obtain ⟨rfl, f43⟩ := hw
                    have t44 : ¬ ((1 : Int) ≤ a4.toInt ∧ a4.toInt ≤ 900) := f43
                    refine lv_if_ne (tgt := 58) hx hb dX12_certificate_53 (by decide) (fun c45 => ?_) (fun c45 => ?_)
                    · --53 taken
                      exact absurd c45 (by decide)
                    · --53 not
                      refine lv_iconst (v := -1) hx hb dX12_certificate_56 (by decide) ?_
                      have zm1 := ln_m1
                      rw [hQ]
                      refine W.widen (k := 2) (n := 646) (by omega) (by omega) ?_
                      exact W.iret (v := (-1)) hx hb hr (fun t ht hW => ⟨⟨(-1), (cf, ad, E), rfl, ⟨hC, hI, Or.inl ⟨rfl, rfl, hKp, rfl, by omega⟩⟩, by rw [ht]; exact hP, (WL_D hD)⟩, hS.F ht⟩) hS.2.2 dX12_certificate_57
              · -- cwithin, case 1
                obtain ⟨rfl, f46⟩ := hw
                have t47 : ¬ ((1 : Int) ≤ a3.toInt ∧ a3.toInt ≤ 4000) := f46
                refine lv_if_eq (tgt := 56) hx hb dX12_certificate_41 (by decide) (fun c48 => ?_) (fun c48 => ?_)
                · --41 taken
                  refine lv_iconst (v := -1) hx hb dX12_certificate_56 (by decide) ?_
                  have zm1 := ln_m1
                  rw [hQ]
                  refine W.widen (k := 2) (n := 646) (by omega) (by omega) ?_
                  exact W.iret (v := (-1)) hx hb hr (fun t ht hW => ⟨⟨(-1), (cf, ad, E), rfl, ⟨hC, hI, Or.inl ⟨rfl, rfl, hKp, rfl, by omega⟩⟩, by rw [ht]; exact hP, (WL_D hD)⟩, hS.F ht⟩) hS.2.2 dX12_certificate_57
                · --41 not
                  exact absurd c48 (by decide)
          · -- cwithin, case 1
            obtain ⟨rfl, f49⟩ := hw
            have t50 : ¬ ((10 : Int) ≤ a2.toInt ∧ a2.toInt ≤ 400) := f49
            refine lv_if_eq (tgt := 56) hx hb dX12_certificate_29 (by decide) (fun c51 => ?_) (fun c51 => ?_)
            · --29 taken
              refine lv_iconst (v := -1) hx hb dX12_certificate_56 (by decide) ?_
              have zm1 := ln_m1
              rw [hQ]
              refine W.widen (k := 2) (n := 646) (by omega) (by omega) ?_
              exact W.iret (v := (-1)) hx hb hr (fun t ht hW => ⟨⟨(-1), (cf, ad, E), rfl, ⟨hC, hI, Or.inl ⟨rfl, rfl, hKp, rfl, by omega⟩⟩, by rw [ht]; exact hP, (WL_D hD)⟩, hS.F ht⟩) hS.2.2 dX12_certificate_57
            · --29 not
              exact absurd c51 (by decide)
        · --15 not
          exact absurd c12 (by decide)
      · -- cisDay, case 1
        obtain ⟨rfl, f52⟩ := hw
        have t53 : ¬ ((0 : Int) ≤ a1.toInt ∧ a1.toInt ≤ 400) := f52
        refine lv_if_ne (tgt := 20) hx hb dX12_certificate_15 (by decide) (fun c54 => ?_) (fun c54 => ?_)
        · --15 taken
          exact absurd c54 (by decide)
        · --15 not
          refine lv_iconst (v := -1) hx hb dX12_certificate_18 (by decide) ?_
          have zm1 := ln_m1
          rw [hQ]
          refine W.widen (k := 2) (n := 646) (by omega) (by omega) ?_
          exact W.iret (v := (-1)) hx hb hr (fun t ht hW => ⟨⟨(-1), (cf, ad, E), rfl, ⟨hC, hI, Or.inl ⟨rfl, rfl, hKp, rfl, by omega⟩⟩, by rw [ht]; exact hP, (WL_D hD)⟩, hS.F ht⟩) hS.2.2 dX12_certificate_19
  · -- isBoatC, case 1
    obtain ⟨rfl, f55⟩ := hw
    have i56 : 0 ≤ (xi (E 1) 1).toInt ∧ (xi (E 1) 1).toInt ≤ 16 := hI0.iv 1 (mF 1 rfl) rfl (Nat.le_of_ble_eq_true rfl) rfl
    refine lv_if_eq (tgt := 18) hx hb dX12_certificate_8 (by decide) (fun c57 => ?_) (fun c57 => ?_)
    · --8 taken
      refine lv_iconst (v := -1) hx hb dX12_certificate_18 (by decide) ?_
      have zm1 := ln_m1
      rw [hQ]
      refine W.widen (k := 2) (n := 646) (by omega) (by omega) ?_
      exact W.iret (v := (-1)) hx hb hr (fun t ht hW => ⟨⟨(-1), (cf, ad, E), rfl, ⟨hC, hI, Or.inl ⟨rfl, rfl, hKp, rfl, by omega⟩⟩, by rw [ht]; exact hP, (WL_D hD)⟩, hS.F ht⟩) hS.2.2 dX12_certificate_19
    · --8 not
      exact absurd c57 (by decide)
