set_option maxRecDepth 100000 in
theorem zh_dJ7_copyOf_59c91_0_0 : zc cJ7_copyOf_59c91 0 [27, 42, 190, 160, 0, 11, 42, 182, 1, 60, 192, 1, 61, 176, 27, 188] = true := by decide +kernel
set_option maxRecDepth 100000 in
theorem zh_dJ7_copyOf_59c91_15_16 : zc cJ7_copyOf_59c91 16 [10, 77, 42, 3, 44, 3, 42, 190, 27, 184, 1, 48, 184, 0, 150, 44] = true := by decide +kernel
set_option maxRecDepth 100000 in
theorem zh_dJ7_copyOf_59c91_32_32 : zc cJ7_copyOf_59c91 32 [176] = true := by decide +kernel
theorem dJ7_copyOf_59c91_0 : decode cJ7_copyOf_59c91 0 = .ok (.iload_n 1, 1) := zo_27 (zi_at zh_dJ7_copyOf_59c91_0_0 0 rfl)
theorem dJ7_copyOf_59c91_1 : decode cJ7_copyOf_59c91 1 = .ok (.aload_n 0, 1) := zo_42 (zi_at zh_dJ7_copyOf_59c91_0_0 1 rfl)
theorem dJ7_copyOf_59c91_2 : decode cJ7_copyOf_59c91 2 = .ok (.arraylength, 1) := zo_190 (zi_at zh_dJ7_copyOf_59c91_0_0 2 rfl)
theorem dJ7_copyOf_59c91_3 : decode cJ7_copyOf_59c91 3 = .ok (.if_icmp .ne 11, 3) := zo_160 (zi_at zh_dJ7_copyOf_59c91_0_0 3 rfl) (zi_at zh_dJ7_copyOf_59c91_0_0 4 rfl) (zi_at zh_dJ7_copyOf_59c91_0_0 5 rfl) rfl
theorem dJ7_copyOf_59c91_6 : decode cJ7_copyOf_59c91 6 = .ok (.aload_n 0, 1) := zo_42 (zi_at zh_dJ7_copyOf_59c91_0_0 6 rfl)
theorem dJ7_copyOf_59c91_7 : decode cJ7_copyOf_59c91 7 = .ok (.invokevirtual 316, 3) := zo_182 (zi_at zh_dJ7_copyOf_59c91_0_0 7 rfl) (zi_at zh_dJ7_copyOf_59c91_0_0 8 rfl) (zi_at zh_dJ7_copyOf_59c91_0_0 9 rfl) rfl
theorem dJ7_copyOf_59c91_10 : decode cJ7_copyOf_59c91 10 = .ok (.checkcast 317, 3) := zo_192 (zi_at zh_dJ7_copyOf_59c91_0_0 10 rfl) (zi_at zh_dJ7_copyOf_59c91_0_0 11 rfl) (zi_at zh_dJ7_copyOf_59c91_0_0 12 rfl) rfl
theorem dJ7_copyOf_59c91_13 : decode cJ7_copyOf_59c91 13 = .ok (.areturn, 1) := zo_176 (zi_at zh_dJ7_copyOf_59c91_0_0 13 rfl)
theorem dJ7_copyOf_59c91_14 : decode cJ7_copyOf_59c91 14 = .ok (.iload_n 1, 1) := zo_27 (zi_at zh_dJ7_copyOf_59c91_0_0 14 rfl)
theorem dJ7_copyOf_59c91_15 : decode cJ7_copyOf_59c91 15 = .ok (.newarray .int, 2) := zo_188_10 (zi_at zh_dJ7_copyOf_59c91_0_0 15 rfl) (zi_at zh_dJ7_copyOf_59c91_15_16 0 rfl)
theorem dJ7_copyOf_59c91_17 : decode cJ7_copyOf_59c91 17 = .ok (.astore_n 2, 1) := zo_77 (zi_at zh_dJ7_copyOf_59c91_15_16 1 rfl)
theorem dJ7_copyOf_59c91_18 : decode cJ7_copyOf_59c91 18 = .ok (.aload_n 0, 1) := zo_42 (zi_at zh_dJ7_copyOf_59c91_15_16 2 rfl)
theorem dJ7_copyOf_59c91_19 : decode cJ7_copyOf_59c91 19 = .ok (.iconst 0, 1) := zo_3 (zi_at zh_dJ7_copyOf_59c91_15_16 3 rfl)
theorem dJ7_copyOf_59c91_20 : decode cJ7_copyOf_59c91 20 = .ok (.aload_n 2, 1) := zo_44 (zi_at zh_dJ7_copyOf_59c91_15_16 4 rfl)
theorem dJ7_copyOf_59c91_21 : decode cJ7_copyOf_59c91 21 = .ok (.iconst 0, 1) := zo_3 (zi_at zh_dJ7_copyOf_59c91_15_16 5 rfl)
theorem dJ7_copyOf_59c91_22 : decode cJ7_copyOf_59c91 22 = .ok (.aload_n 0, 1) := zo_42 (zi_at zh_dJ7_copyOf_59c91_15_16 6 rfl)
theorem dJ7_copyOf_59c91_23 : decode cJ7_copyOf_59c91 23 = .ok (.arraylength, 1) := zo_190 (zi_at zh_dJ7_copyOf_59c91_15_16 7 rfl)
theorem dJ7_copyOf_59c91_24 : decode cJ7_copyOf_59c91 24 = .ok (.iload_n 1, 1) := zo_27 (zi_at zh_dJ7_copyOf_59c91_15_16 8 rfl)
theorem dJ7_copyOf_59c91_25 : decode cJ7_copyOf_59c91 25 = .ok (.invokestatic 304, 3) := zo_184 (zi_at zh_dJ7_copyOf_59c91_15_16 9 rfl) (zi_at zh_dJ7_copyOf_59c91_15_16 10 rfl) (zi_at zh_dJ7_copyOf_59c91_15_16 11 rfl) rfl
theorem dJ7_copyOf_59c91_28 : decode cJ7_copyOf_59c91 28 = .ok (.invokestatic 150, 3) := zo_184 (zi_at zh_dJ7_copyOf_59c91_15_16 12 rfl) (zi_at zh_dJ7_copyOf_59c91_15_16 13 rfl) (zi_at zh_dJ7_copyOf_59c91_15_16 14 rfl) rfl
theorem dJ7_copyOf_59c91_31 : decode cJ7_copyOf_59c91 31 = .ok (.aload_n 2, 1) := zo_44 (zi_at zh_dJ7_copyOf_59c91_15_16 15 rfl)
theorem dJ7_copyOf_59c91_32 : decode cJ7_copyOf_59c91 32 = .ok (.areturn, 1) := zo_176 (zi_at zh_dJ7_copyOf_59c91_32_32 0 rfl)

theorem min_nn2 {n L : Nat} (h : n ≤ L) (hL : L < 2 ^ 31) : (if nI n < nI L then nI n else nI L) = nI n := by
  by_cases q : nI n < nI L
  · rw [if_pos q]
  · rw [if_neg q]
    have h1 : ¬ (nI n).toInt < (nI L).toInt := fun z => q (Int32.lt_iff_toInt_lt.mpr z)
    rw [nI_toInt (by omega), nI_toInt (by omega)] at h1
    rw [show n = L by omega]
def v_k_copyI : List Cond := .code yJ7_copyOf_59c91 cJ7_copyOf_59c91 3 (some (.array .int)) :: vA
abbrev rm_k_copyI : Room := { frames := 2, cells := 1, slots := 640, locals := 80 }
set_option maxHeartbeats 4000000 in
set_option maxRecDepth 100000 in
theorem k_copyI (l : Launch) (dC : Nat → ClassId) (dI : Nat → Nat → Nat) (cA : ClassId) (a n L : Nat) (f : Nat → Int32) (sz : Nat) (hn : n ≤ L) (hL : L ≤ 640) : Met l yJ7_copyOf_59c91 v_k_copyI rm_k_copyI (va_Pc [.ref a, .int (nI n)] (fun U => U.heap.size = sz ∧ va_P (dC, dI) vwCl [(a, .inl (cA, L, .inl f))]  U.heap ∧ va_K (dC, dI) vwCl [(cA, .int)] U ∧ va_D (fun _ => True) [(a, .inl (cA, L, .inl f))] ∧ va_Nw (.castable "[I" "java/lang/Cloneable") U)) (va_Qr (S := Nat → Int32) (fun f' => ∀ j : Nat, j < n → f' j = f j) (fun f' q t => va_P (dC, dI) vwCl [(a, .inl (cA, L, .inl f)), (q, .inl (cA, n, .inl f'))] t.heap ∧ va_D (va_A [(a, .inl (cA, L, .inl f))] sz) [(a, .inl (cA, L, .inl f)), (q, .inl (cA, n, .inl f'))]) (va_A [(a, .inl (cA, L, .inl f))] sz)) 1 640 (va_A [(a, .inl (cA, L, .inl f))] sz) := by
  refine Met.ofW (cc := cJ7_copyOf_59c91) (maxL := 3) (ret := (some (.array .int))) (by decide) rfl ?_
  intro p e s m args below meth c s₁ B hml hv
  obtain ⟨rfl, hsz, hP, hK, hD0, hE⟩ := hv
  have hx := B.exec
  have hb := B.bytes
  have hr := B.returns
  have hts := atoms_spec (ws := v_k_copyI) B.pre
  have hown : s.vm.findClass RJ7 = some m.cls := findClass_of_methodNamed B.named
  have hlocks := B.notSynchronized
  subst hsz
  have hD := hD0.self (sz := s.heap.size)
  generalize hAe : va_A [(a, .inl (cA, L, .inl f))] s.heap.size = A at hD hE ⊢
  have hA : ∀ q : Nat, s.heap.size ≤ q → A q := fun q h => by rw [← hAe]; exact Or.inr h
  have hinJx4a65c : ∀ w ∈ u_ws RJx4a65c TJx4a65c 3, w ∈ v_k_copyI := fun w h => vA_in _ w (in_Jx4a65c w h)
  have hS : va_S A s.heap s.heap [] := va_S.rf
  have hl := lv_entry ([.ref a, .int (nI n)]) (n := 3) (Nat.le_of_ble_eq_true rfl)
  rw [lg_entry_eq]
  generalize (lg_sl ([.ref a, .int (nI n)]) ++ List.replicate (3 - (lg_sl ([.ref a, .int (nI n)])).length) Slot.unset).toArray = ls at hl ⊢
  have hl : lv_has ls 3 [(0, .ref a), (1, .int (nI n))] := hl
  refine lv_iload_n hx hb dJ7_copyOf_59c91_0 rfl (lv_at hl 1 rfl) ?_
  refine lv_aload_n hx hb dJ7_copyOf_59c91_1 rfl (lv_at hl 0 rfl) ?_
  refine va_alen (v := nI L) hx hb hK hP 0 0 rfl rfl rfl dJ7_copyOf_59c91_2 ?_
  refine lv_icmp_ne (tgt := 14) hx hb dJ7_copyOf_59c91_3 (by decide) (fun c1 => ?_) (fun c1 => ?_)
  · refine lv_iload_n hx hb dJ7_copyOf_59c91_14 rfl (lv_at hl 1 rfl) ?_
    refine va_newa (atype := .int) (ty := .int) (N' := n) (a0 := (n, .inl (fun _ => (0 : Int32)))) hx hb (hts _ (vA_in _ _ (in_2 _ (zs16 (zs16 (zs4 (zs1 (zs1 (zs0))))))))) rfl hK hP hD hS hA (fun _ => rfl) (lt_nn (by omega)) (nI_nn (by omega)) (show n * 4 ≤ 536870912 by omega) (Nat.le_of_ble_eq_true rfl) (show 0 + n ≤ 640 by omega) dJ7_copyOf_59c91_15 (fun q kq H hK hP hD hS => ?_)
    have hK : va_K (dC, dI) vwCl [(cA, .int), (kq, .int)] s := hK
    obtain rfl : cA = kq := ub_sa_int hK 0 1 rfl rfl
    have hK := hK.sub (tys' := [(cA, .int)]) [0] rfl
    have hP : va_P (dC, dI) vwCl [(a, .inl (cA, L, .inl f)), (q, .inl (cA, n, .inl (fun _ => (0 : Int32))))] H := hP
    have hD : va_D A [(a, .inl (cA, L, .inl f)), (q, .inl (cA, n, .inl (fun _ => (0 : Int32))))] := hD
    refine W.widen (k := 1) (n := 640) (by omega) (by omega) ?_
    refine lv_astore_n (lv' := [(2, .ref q), (0, .ref a), (1, .int (nI n))]) hx hb dJ7_copyOf_59c91_17 rfl hl (by decide) rfl (fun ls hl => ?_)
    refine lv_aload_n hx hb dJ7_copyOf_59c91_18 rfl (lv_at hl 1 rfl) ?_
    refine lv_iconst (v := 0) hx hb dJ7_copyOf_59c91_19 (by decide) ?_
    refine lv_aload_n hx hb dJ7_copyOf_59c91_20 rfl (lv_at hl 0 rfl) ?_
    refine lv_iconst (v := 0) hx hb dJ7_copyOf_59c91_21 (by decide) ?_
    refine lv_aload_n hx hb dJ7_copyOf_59c91_22 rfl (lv_at hl 1 rfl) ?_
    refine va_alen (v := nI L) hx hb hK hP 0 0 rfl rfl rfl dJ7_copyOf_59c91_23 ?_
    refine lv_iload_n hx hb dJ7_copyOf_59c91_24 rfl (lv_at hl 2 rfl) ?_
    refine va_mmin hx hb (by rw [hml]; exact hl.1.symm) hown (hts _ (vA_in _ _ (in_2 _ (zs16 (zs4 (zs4 (zs1 (zs1 (zs0))))))))) (hts _ (vA_in _ _ (in_0 _ (zs16 (zs16 (zs4 (zs0))))))) (hts _ (vA_in _ _ (in_0 _ (zs16 (zs16 (zs1 (zs0))))))) (hts _ (vA_in _ _ (in_0 _ (zs16 (zs16 (zs4 (zs1 (zs0)))))))) (Nat.le_of_ble_eq_true rfl) (Nat.le_of_ble_eq_true rfl) (Nat.le_of_ble_eq_true rfl) (Nat.le_of_ble_eq_true rfl) dJ7_copyOf_59c91_25 ?_
    refine lv_topi (fun y ey => ?_)
    obtain rfl : nI n = y := (by rw [ey]; exact (min_nn2 hn (by omega)).symm)
    refine va_copyi (f := f) (g := (fun _ => (0 : Int32))) hx hb (by rw [hml]; exact hl.1.symm) hown (hts _ (vA_in _ _ (in_2 _ (zs16 (zs4 (zs4 (zs1 (zs1 (zs1 (zs0)))))))))) (hts _ (vA_in _ _ (in_2 _ (zs16 (zs4 (zs4 (zs4 (zs0)))))))) (hts _ (vA_in _ _ (in_2 _ (zs16 (zs4 (zs4 (zs4 (zs1 (zs0))))))))) (hts _ (vA_in _ _ (in_2 _ (zs16 (zs4 (zs4 (zs4 (zs1 (zs1 (zs0)))))))))) hK hP hD hS 0 1 0 0 rfl rfl rfl rfl rfl (sp := 0) (dp := 0) (by decide) (by decide) (lt_nn (by omega)) (by rw [nI_nn (by omega)]; show 0 + n ≤ L; omega) (by rw [nI_nn (by omega)]; show 0 + n ≤ n; omega) (fun i hi => rfl) (Nat.le_of_ble_eq_true rfl) (Nat.le_of_ble_eq_true rfl) dJ7_copyOf_59c91_28 (fun H locs hP hD hS => ?_)
    rw [nI_nn (show n < 2 ^ 31 by omega)] at hP hD
    have hP : va_P (dC, dI) vwCl [(a, .inl (cA, L, .inl f)), (q, .inl (cA, n, .inl (va_cpy f (fun _ => (0 : Int32)) 0 0 n)))] H := hP
    have hD : va_D A [(a, .inl (cA, L, .inl f)), (q, .inl (cA, n, .inl (va_cpy f (fun _ => (0 : Int32)) 0 0 n)))] := hD
    refine lv_aload_n hx hb dJ7_copyOf_59c91_31 rfl (lv_at hl 0 rfl) ?_
    exact W.aret (v := .ref q) hx hb hr (Or.inr ⟨_, rfl⟩) (Or.inr ⟨_, rfl⟩) (fun t ht hW => ⟨⟨_, q, rfl, (fun j hj => cpy_nn hj), (by rw [ht]; exact hP), hD⟩, hS.F ht⟩) hS.2.2 dJ7_copyOf_59c91_32
  · have c1 : nI n = nI L := by first | exact c1 | exact Classical.byContradiction c1
    obtain rfl : n = L := by
      have h9 := congrArg Int32.toInt c1
      rw [nI_toInt (by omega), nI_toInt (by omega)] at h9
      omega
    refine lv_aload_n hx hb dJ7_copyOf_59c91_6 rfl (lv_at hl 0 rfl) ?_
    have hnm : s.vm.findClass "[I" = some cA := (hK.2 0 _ rfl).2
    refine va_clone (x := (n, .inl f)) (ty := .int) hx hb (by rw [hml]; exact hl.1.symm) hown (hts _ (vA_in _ _ (in_2 _ (zs16 (zs16 (zs0)))))) (hts _ (vA_in _ _ (in_2 _ (zs16 (zs16 (zs1 (zs0))))))) (hts _ (vA_in _ _ (in_2 _ (zs16 (zs16 (zs1 (zs1 (zs0)))))))) (hts _ (vA_in _ _ (in_2 _ (zs16 (zs16 (zs1 (zs1 (zs1 (zs0))))))))) (hts _ (vA_in _ _ (in_2 _ (zs16 (zs16 (zs4 (zs0))))))) hE hK hP hD hS hA 0 0 rfl rfl hnm (va_fit (fun i hi => rfl)) (Nat.le_of_ble_eq_true rfl) (Nat.le_of_ble_eq_true rfl) (Nat.le_of_ble_eq_true rfl) (show 0 + n ≤ 640 by omega) dJ7_copyOf_59c91_7 (fun q H hK hP hD hS => ?_)
    have hK := hK.sub (tys' := [(cA, .int)]) [0] rfl
    have hP : va_P (dC, dI) vwCl [(a, .inl (cA, n, .inl f)), (q, .inl (cA, n, .inl f))] H := hP
    have hD : va_D A [(a, .inl (cA, n, .inl f)), (q, .inl (cA, n, .inl f))] := hD
    refine W.widen (k := 1) (n := 640) (by omega) (by show 0 + n ≤ 640; omega) ?_
    refine va_castA hx hb hown (hts _ (vA_in _ _ (in_2 _ (zs16 (zs16 (zs4 (zs1 (zs0)))))))) hP 1 rfl hnm dJ7_copyOf_59c91_10 ?_
    exact W.aret (v := .ref q) hx hb hr (Or.inr ⟨_, rfl⟩) (Or.inr ⟨_, rfl⟩) (fun t ht hW => ⟨⟨f, q, rfl, (fun j hj => rfl), (by rw [ht]; exact hP), hD⟩, hS.F ht⟩) hS.2.2 dJ7_copyOf_59c91_13

