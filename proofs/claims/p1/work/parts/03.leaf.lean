set_option maxHeartbeats 4000000 in
set_option maxRecDepth 100000 in
theorem c_within (l : Launch) (n : Int32) (lo : Int32) (hi : Int32)  : Met l yX12_within wsX12_within ({ frames := 0, cells := 0, slots := 0, locals := 0 }) (va_Pc [.int n, .int lo, .int hi] (fun _ => True)) (va_Qi (S := Unit) (fun r _ => (r = 1 ∧ ¬ n < lo ∧ ¬ hi < n) ∨ (r = 0 ∧ (n < lo ∨ hi < n))) (fun _ _ => True) (fun _ => False)) 0 0 (fun _ => False) := by
  refine Met.ofW (cc := cX12_within) (maxL := 3) (ret := (some .boolean)) (by decide) rfl ?_
  intro p e s m args below meth c s₁ B hml hv
  obtain ⟨rfl, -⟩ := hv
  have hx := B.exec
  have hb := B.bytes
  have hr := B.returns
  have hts := atoms_spec (ws := wsX12_within) B.pre
  have hown : s.vm.findClass RX12 = some m.cls := findClass_of_methodNamed B.named
  have hlocks := B.notSynchronized
  have hS : va_S (fun _ : Nat => False) s.heap s.heap [] := va_S.rf
  have hl := lv_entry ([.int n, .int lo, .int hi]) (n := 3) (Nat.le_of_ble_eq_true rfl)
  rw [lg_entry_eq]
  generalize (lg_sl ([.int n, .int lo, .int hi]) ++ List.replicate (3 - (lg_sl ([.int n, .int lo, .int hi])).length) Slot.unset).toArray = ls at hl ⊢
  have hl : lv_has ls 3 [(0, .int n), (1, .int lo), (2, .int hi)] := hl
  refine lv_iload_n hx hb dX12_within_0 rfl (lv_at hl 0 rfl) ?_
  refine lv_iload_n hx hb dX12_within_1 rfl (lv_at hl 1 rfl) ?_
  refine lv_icmp_lt (tgt := 14) hx hb dX12_within_2 (by decide) (fun c1 => ?_) (fun c1 => ?_)
  · --n < lo
    refine lv_iconst (v := 0) hx hb dX12_within_14 (by decide) ?_
    exact W.zret (v := (0)) hx hb hr rfl (fun t ht hW => ⟨⟨(0), (), rfl, Or.inr ⟨rfl, Or.inl c1⟩, trivial⟩, hS.F ht⟩) hS.2.2 dX12_within_15
  · --¬ n < lo
    refine lv_iload_n hx hb dX12_within_5 rfl (lv_at hl 0 rfl) ?_
    refine lv_iload_n hx hb dX12_within_6 rfl (lv_at hl 2 rfl) ?_
    refine lv_icmp_gt (tgt := 14) hx hb dX12_within_7 (by decide) (fun c2 => ?_) (fun c2 => ?_)
    · --hi < n
      refine lv_iconst (v := 0) hx hb dX12_within_14 (by decide) ?_
      exact W.zret (v := (0)) hx hb hr rfl (fun t ht hW => ⟨⟨(0), (), rfl, Or.inr ⟨rfl, Or.inr c2⟩, trivial⟩, hS.F ht⟩) hS.2.2 dX12_within_15
    · --¬ hi < n
      refine lv_iconst (v := 1) hx hb dX12_within_10 (by decide) ?_
      refine lv_goto (tgt := 15) hx hb dX12_within_11 (by decide) ?_
      exact W.zret (v := (1)) hx hb hr rfl (fun t ht hW => ⟨⟨(1), (), rfl, Or.inl ⟨rfl, c1, c2⟩, trivial⟩, hS.F ht⟩) hS.2.2 dX12_within_15
set_option maxHeartbeats 4000000 in
set_option maxRecDepth 100000 in
theorem c_isKnown (l : Launch) (dC : Nat → ClassId) (dI : Nat → Nat → Nat) (bk : Nat) (lc : Nat) (lr : Nat) (la : Nat) (le : Nat) (lw : Nat) (lp : Nat) (ltr : Nat) (stk : Nat) (q : Int32)  : Met l yX0_isKnown wsX0_isKnown ({ frames := 1, cells := 0, slots := 0, locals := 40 }) (va_Pc [.ref bk, .int q] (fun U => va_P (dC, dI) vwCl [(bk, .inr (1, [.int 0, .int 0, .int 0, .ref lc, .ref lr, .ref la, .ref le, .ref lw, .ref lp, .ref ltr, .ref stk]))] U.heap ∧ va_K (dC, dI) vwCl [] U ∧ ub_NX U)) (va_Qi (S := Unit) (fun r _ => (r = 1 ∧ ¬ q < 0 ∧ ¬ 0 < q) ∨ (r = 0 ∧ (q < 0 ∨ 0 < q))) (fun _ _ => True) (fun _ => False)) 0 0 (fun _ => False) := by
  refine Met.ofW (cc := cX0_isKnown) (maxL := 2) (ret := (some .boolean)) (by decide) rfl ?_
  intro p e s m args below meth c s₁ B hml hv
  obtain ⟨rfl, hP, hK, hN⟩ := hv
  have hx := B.exec
  have hb := B.bytes
  have hr := B.returns
  have hts := atoms_spec (ws := wsX0_isKnown) B.pre
  have hown : s.vm.findClass RX0 = some m.cls := findClass_of_methodNamed B.named
  have hlocks := B.notSynchronized
  have hS : va_S (fun _ : Nat => False) s.heap s.heap [] := va_S.rf
  have hl := lv_entry ([.ref bk, .int q]) (n := 2) (Nat.le_of_ble_eq_true rfl)
  rw [lg_entry_eq]
  generalize (lg_sl ([.ref bk, .int q]) ++ List.replicate (2 - (lg_sl ([.ref bk, .int q])).length) Slot.unset).toArray = ls at hl ⊢
  have hl : lv_has ls 2 [(0, .ref bk), (1, .int q)] := hl
  refine lv_iload_n hx hb dX0_isKnown_0 rfl (lv_at hl 1 rfl) ?_
  refine lv_iconst (v := 0) hx hb dX0_isKnown_1 (by decide) ?_
  refine lv_aload_n hx hb dX0_isKnown_2 rfl (lv_at hl 0 rfl) ?_
  refine va_get (D := (dC, dI)) (ci := 1) (v := .int 0) (C := RX0) (T := TX0) (N := 11) hx hb hts iw_X0_isKnown_X0 hown hK hP 0 rfl rfl 0 (by decide) (hts (.fieldLink RX0 59 "UnlikeBoats$Book" "now" "I") (List.mem_of_getElem? (i := 1) rfl)) (fun _ h9 => h9) rfl dX0_isKnown_3 ?_
  refine va_calli (va_runSN (As := [.int q, .int 0, .int 0]) (rest := []) ⟨hx, hb, hml, hown, hts⟩ (c_within l q (0) (0)) ⟨va_cnB 3 hts gX0_isKnown_X12_within_n52 rfl rfl rfl (ub_nx2 hN) (hts (.initialized RX12) (List.mem_of_getElem? (i := 3) rfl)) (by decide +kernel) ⟨Nat.le_of_ble_eq_true rfl, Nat.le_of_ble_eq_true rfl⟩, (hts (.static yX12_within) (List.mem_of_getElem? (i := 2) rfl)), trivial⟩ ⟨fun _ _ _ _ q => q, fun _ _ _ => ⟨rfl, trivial⟩⟩ rfl rfl hl.1 rfl (lv_room (Nat.le_of_ble_eq_true rfl)) dX0_isKnown_6 ⟨Nat.le_of_ble_eq_true rfl, Nat.le_of_ble_eq_true rfl⟩) hS (fun _ _ h => h.elim) (fun _ h => h.elim) (fun r1 u t H1 locs ht hvm hw hB hz1 hk1 hS => ?_)
  have hP := ub_keep hP hk1
  generalize H1 = H at hP hS ⊢
  rcases hw with ⟨rfl, hw1, hw2⟩ | ⟨rfl, hw1⟩
  ·
    have d2a := hw1
    have d2b := hw2
    exact W.zret (v := (1)) hx hb hr rfl (fun t ht hW => ⟨⟨(1), (), rfl, Or.inl ⟨rfl, d2a, d2b⟩, trivial⟩, hS.F ht⟩) hS.2.2 dX0_isKnown_9
  ·
    have d3 := hw1
    exact W.zret (v := (0)) hx hb hr rfl (fun t ht hW => ⟨⟨(0), (), rfl, Or.inr ⟨rfl, d3⟩, trivial⟩, hS.F ht⟩) hS.2.2 dX0_isKnown_9
set_option maxHeartbeats 4000000 in
set_option maxRecDepth 100000 in
theorem c_isDay (l : Launch) (n : Int32)  : Met l yX12_isDay wsX12_isDay ({ frames := 1, cells := 0, slots := 0, locals := 40 }) (va_Pc [.int n] (fun _ => True)) (va_Qi (S := Unit) (fun r _ => (r = 1 ∧ ¬ n < 0 ∧ ¬ 400 < n) ∨ (r = 0 ∧ (n < 0 ∨ 400 < n))) (fun _ _ => True) (fun _ => False)) 0 0 (fun _ => False) := by
  refine Met.ofW (cc := cX12_isDay) (maxL := 1) (ret := (some .boolean)) (by decide) rfl ?_
  intro p e s m args below meth c s₁ B hml hv
  obtain ⟨rfl, -⟩ := hv
  have hx := B.exec
  have hb := B.bytes
  have hr := B.returns
  have hts := atoms_spec (ws := wsX12_isDay) B.pre
  have hown : s.vm.findClass RX12 = some m.cls := findClass_of_methodNamed B.named
  have hlocks := B.notSynchronized
  have hS : va_S (fun _ : Nat => False) s.heap s.heap [] := va_S.rf
  have hl := lv_entry ([.int n]) (n := 1) (Nat.le_of_ble_eq_true rfl)
  rw [lg_entry_eq]
  generalize (lg_sl ([.int n]) ++ List.replicate (1 - (lg_sl ([.int n])).length) Slot.unset).toArray = ls at hl ⊢
  have hl : lv_has ls 1 [(0, .int n)] := hl
  refine lv_iload_n hx hb dX12_isDay_0 rfl (lv_at hl 0 rfl) ?_
  refine lv_iconst (v := 0) hx hb dX12_isDay_1 (by decide) ?_
  refine lv_sipush (v := 400) hx hb dX12_isDay_2 (by decide) ?_
  refine va_calli (va_runS (As := [.int n, .int 0, .int 400]) (rest := []) ⟨hx, hb, hml, hown, hts⟩ (c_within l n (0) (400)) (va_cwS 3 hts gX12_isDay_X12_within rfl rfl rfl (by decide +kernel) ⟨Nat.le_of_ble_eq_true rfl, Nat.le_of_ble_eq_true rfl⟩) ⟨fun _ _ _ _ q => q, fun _ _ _ => ⟨rfl, trivial⟩⟩ rfl rfl hl.1 rfl (lv_room (Nat.le_of_ble_eq_true rfl)) dX12_isDay_5 ⟨Nat.le_of_ble_eq_true rfl, Nat.le_of_ble_eq_true rfl⟩) hS (fun _ _ h => h.elim) (fun _ h => h.elim) (fun r1 u t H1 locs ht hvm hw hB hz1 hk1 hS => ?_)
  generalize H1 = H at hS ⊢
  rcases hw with ⟨rfl, hw1, hw2⟩ | ⟨rfl, hw1⟩
  ·
    have d2a := hw1
    have d2b := hw2
    exact W.zret (v := (1)) hx hb hr rfl (fun t ht hW => ⟨⟨(1), (), rfl, Or.inl ⟨rfl, d2a, d2b⟩, trivial⟩, hS.F ht⟩) hS.2.2 dX12_isDay_8
  ·
    have d3 := hw1
    exact W.zret (v := (0)) hx hb hr rfl (fun t ht hW => ⟨⟨(0), (), rfl, Or.inr ⟨rfl, d3⟩, trivial⟩, hS.F ht⟩) hS.2.2 dX12_isDay_8
set_option maxHeartbeats 4000000 in
set_option maxRecDepth 100000 in
theorem c_isBoat0 (l : Launch) (dC : Nat → ClassId) (dI : Nat → Nat → Nat) (bk : Nat) (lc : Nat) (lr : Nat) (la : Nat) (le : Nat) (lw : Nat) (lp : Nat) (ltr : Nat) (stk : Nat) (q : Int32)  : Met l yX0_isBoat wsX0_isBoat ({ frames := 1, cells := 0, slots := 0, locals := 40 }) (va_Pc [.ref bk, .int q] (fun U => va_P (dC, dI) vwCl [(bk, .inr (1, [.int 0, .int 0, .int 0, .ref lc, .ref lr, .ref la, .ref le, .ref lw, .ref lp, .ref ltr, .ref stk]))] U.heap ∧ va_K (dC, dI) vwCl [] U ∧ ub_NX U)) (va_Qi (S := Unit) (fun r _ => r = 0) (fun _ _ => True) (fun _ => False)) 0 0 (fun _ => False) := by
  refine Met.ofW (cc := cX0_isBoat) (maxL := 2) (ret := (some .boolean)) (by decide) rfl ?_
  intro p e s m args below meth c s₁ B hml hv
  obtain ⟨rfl, hP, hK, hN⟩ := hv
  have hx := B.exec
  have hb := B.bytes
  have hr := B.returns
  have hts := atoms_spec (ws := wsX0_isBoat) B.pre
  have hown : s.vm.findClass RX0 = some m.cls := findClass_of_methodNamed B.named
  have hlocks := B.notSynchronized
  have hS : va_S (fun _ : Nat => False) s.heap s.heap [] := va_S.rf
  have hl := lv_entry ([.ref bk, .int q]) (n := 2) (Nat.le_of_ble_eq_true rfl)
  rw [lg_entry_eq]
  generalize (lg_sl ([.ref bk, .int q]) ++ List.replicate (2 - (lg_sl ([.ref bk, .int q])).length) Slot.unset).toArray = ls at hl ⊢
  have hl : lv_has ls 2 [(0, .ref bk), (1, .int q)] := hl
  refine lv_iload_n hx hb dX0_isBoat_0 rfl (lv_at hl 1 rfl) ?_
  refine lv_iconst (v := 0) hx hb dX0_isBoat_1 (by decide) ?_
  refine lv_aload_n hx hb dX0_isBoat_2 rfl (lv_at hl 0 rfl) ?_
  refine va_get (D := (dC, dI)) (ci := 1) (v := .int 0) (C := RX0) (T := TX0) (N := 11) hx hb hts iw_X0_isBoat_X0 hown hK hP 0 rfl rfl 1 (by decide) (hts (.fieldLink RX0 48 "UnlikeBoats$Book" "boats" "I") (List.mem_of_getElem? (i := 1) rfl)) (fun _ h9 => h9) rfl dX0_isBoat_3 ?_
  refine lv_iconst (v := 1) hx hb dX0_isBoat_6 (by decide) ?_
  refine lv_isub hx hb dX0_isBoat_7 ?_
  refine lv_topi (fun y1 ey1 => ?_)
  obtain rfl : y1 = (-1 : Int32) := ey1.trans (by decide)
  refine va_calli (va_runSN (As := [.int q, .int 0, .int (-1)]) (rest := []) ⟨hx, hb, hml, hown, hts⟩ (c_within l q (0) (-1)) ⟨va_cnB 3 hts gX0_isBoat_X12_within_n52 rfl rfl rfl (ub_nx2 hN) (hts (.initialized RX12) (List.mem_of_getElem? (i := 3) rfl)) (by decide +kernel) ⟨Nat.le_of_ble_eq_true rfl, Nat.le_of_ble_eq_true rfl⟩, (hts (.static yX12_within) (List.mem_of_getElem? (i := 2) rfl)), trivial⟩ ⟨fun _ _ _ _ q => q, fun _ _ _ => ⟨rfl, trivial⟩⟩ rfl rfl hl.1 rfl (lv_room (Nat.le_of_ble_eq_true rfl)) dX0_isBoat_8 ⟨Nat.le_of_ble_eq_true rfl, Nat.le_of_ble_eq_true rfl⟩) hS (fun _ _ h => h.elim) (fun _ h => h.elim) (fun r2 u t H1 locs ht hvm hw hB hz1 hk1 hS => ?_)
  have hP := ub_keep hP hk1
  generalize H1 = H at hP hS ⊢
  rcases hw with ⟨-, hw1, hw2⟩ | ⟨rfl, -⟩
  · exact (ub_m1 hw1 hw2).elim
  exact W.zret (v := (0)) hx hb hr rfl (fun t ht hW => ⟨⟨(0), (), rfl, rfl, trivial⟩, hS.F ht⟩) hS.2.2 dX0_isBoat_11
set_option maxHeartbeats 4000000 in
set_option maxRecDepth 100000 in
theorem c_days (l : Launch) (dC : Nat → ClassId) (dI : Nat → Nat → Nat) (x : Nat) (bk : Nat) (tp : Nat) (sh : Nat) (sc : Nat) (he : Nat) (of : Nat) (lc : Nat) (lr : Nat) (la : Nat) (le : Nat) (lw : Nat) (lp : Nat) (ltr : Nat) (stk : Nat) (n : Int32) (sz : Nat)  : Met l yX12_days wsX12_days ({ frames := 2, cells := 0, slots := 0, locals := 80 }) (va_Pc [.ref x, .int n] (fun U => U.heap.size = sz ∧ va_P (dC, dI) vwCl [(x, .inr (13, [.ref bk, .ref tp, .ref sh, .ref sc, .ref he, .ref of])), (bk, .inr (1, [.int 0, .int 0, .int 0, .ref lc, .ref lr, .ref la, .ref le, .ref lw, .ref lp, .ref ltr, .ref stk]))] U.heap ∧ va_K (dC, dI) vwCl [] U ∧ va_D (fun _ => True) [(x, .inr (13, [.ref bk, .ref tp, .ref sh, .ref sc, .ref he, .ref of])), (bk, .inr (1, [.int 0, .int 0, .int 0, .ref lc, .ref lr, .ref la, .ref le, .ref lw, .ref lp, .ref ltr, .ref stk]))] ∧ ub_NX U)) (va_Qi (S := Unit) (fun r _ => r = if n < 0 ∨ 400 < n then -1 else n) (fun _ _ => True) (va_A [(x, .inr (13, [.ref bk, .ref tp, .ref sh, .ref sc, .ref he, .ref of])), (bk, .inr (1, [.int 0, .int 0, .int 0, .ref lc, .ref lr, .ref la, .ref le, .ref lw, .ref lp, .ref ltr, .ref stk]))] sz)) 0 0 (va_A [(x, .inr (13, [.ref bk, .ref tp, .ref sh, .ref sc, .ref he, .ref of])), (bk, .inr (1, [.int 0, .int 0, .int 0, .ref lc, .ref lr, .ref la, .ref le, .ref lw, .ref lp, .ref ltr, .ref stk]))] sz) := by
  refine Met.ofW (cc := cX12_days) (maxL := 2) (ret := (some .int)) (by decide) rfl ?_
  intro p e s m args below meth c s₁ B hml hv
  obtain ⟨rfl, hsz, hP, hK, hD0, hN⟩ := hv
  have hx := B.exec
  have hb := B.bytes
  have hr := B.returns
  have hts := atoms_spec (ws := wsX12_days) B.pre
  have hown : s.vm.findClass RX12 = some m.cls := findClass_of_methodNamed B.named
  have hlocks := B.notSynchronized
  subst hsz
  have hD := hD0.self (sz := s.heap.size)
  generalize hAe : va_A [(x, .inr (13, [.ref bk, .ref tp, .ref sh, .ref sc, .ref he, .ref of])), (bk, .inr (1, [.int 0, .int 0, .int 0, .ref lc, .ref lr, .ref la, .ref le, .ref lw, .ref lp, .ref ltr, .ref stk]))] s.heap.size = A at hD ⊢
  have hA : ∀ q : Nat, s.heap.size ≤ q → A q := fun q h => by rw [← hAe]; exact Or.inr h
  have hS : va_S A s.heap s.heap [] := va_S.rf
  have hP : va_P (dC, dI) vwCl [(x, .inr (13, [.ref bk, .ref tp, .ref sh, .ref sc, .ref he, .ref of])), (bk, .inr (1, [.int 0, .int 0, .int 0, .ref lc, .ref lr, .ref la, .ref le, .ref lw, .ref lp, .ref ltr, .ref stk]))] s.heap := hP
  have hl := lv_entry ([.ref x, .int n]) (n := 2) (Nat.le_of_ble_eq_true rfl)
  rw [lg_entry_eq]
  generalize (lg_sl ([.ref x, .int n]) ++ List.replicate (2 - (lg_sl ([.ref x, .int n])).length) Slot.unset).toArray = ls at hl ⊢
  have hl : lv_has ls 2 [(0, .ref x), (1, .int n)] := hl
  refine lv_iload_n hx hb dX12_days_0 rfl (lv_at hl 1 rfl) ?_
  refine lv_iconst (v := 0) hx hb dX12_days_1 (by decide) ?_
  refine lv_sipush (v := 400) hx hb dX12_days_2 (by decide) ?_
  refine lv_aload_n hx hb dX12_days_5 rfl (lv_at hl 0 rfl) ?_
  refine va_get (D := (dC, dI)) (ci := 13) (v := .ref bk) (C := RX12) (T := TX12) (N := 6) hx hb hts iw_X12_days_X12 hown hK hP 0 rfl rfl 0 (by decide) (hts (.fieldLink RX12 10 "UnlikeBoats" "book" "LUnlikeBoats$Book;") (List.mem_of_getElem? (i := 1) rfl)) (fun _ h9 => h9) rfl dX12_days_6 ?_
  refine va_get (D := (dC, dI)) (ci := 1) (v := .int 0) (C := RX0) (T := TX0) (N := 11) hx hb hts iw_X12_days_X0 hown hK hP 1 rfl rfl 0 (by decide) (hts (.fieldLink RX12 55 "UnlikeBoats$Book" "now" "I") (List.mem_of_getElem? (i := 2) rfl)) (fun _ h9 => h9) rfl dX12_days_9 ?_
  refine lv_isub hx hb dX12_days_12 ?_
  refine lv_topi (fun y1 ey1 => ?_)
  obtain rfl : y1 = (400 : Int32) := ey1.trans (by decide)
  refine va_calli (va_runS (As := [.int n, .int 0, .int 400]) (rest := []) ⟨hx, hb, hml, hown, hts⟩ (c_within l n (0) (400)) (va_cwS 3 hts gX12_days_X12_within rfl rfl rfl (by decide +kernel) ⟨Nat.le_of_ble_eq_true rfl, Nat.le_of_ble_eq_true rfl⟩) ⟨fun _ _ _ _ q => q, fun _ _ _ => ⟨rfl, trivial⟩⟩ rfl rfl hl.1 rfl (lv_room (Nat.le_of_ble_eq_true rfl)) dX12_days_13 ⟨Nat.le_of_ble_eq_true rfl, Nat.le_of_ble_eq_true rfl⟩) hS (fun _ _ h => h.elim) (fun _ h => h.elim) (fun r2 u t H1 locs ht hvm hw hB hz1 hk1 hS => ?_)
  have hP := ub_keep hP hk1
  generalize H1 = H at hP hS ⊢
  rcases hw with ⟨rfl, hw1, hw2⟩ | ⟨rfl, hw1⟩
  ·
    have d3a := hw1
    have d3b := hw2
    refine lv_if_ne (tgt := 21) hx hb dX12_days_16 (by decide) (fun c4 => ?_) (fun c4 => absurd c4 (by decide))
    refine lv_aload_n hx hb dX12_days_21 rfl (lv_at hl 0 rfl) ?_
    refine va_get (D := (dC, dI)) (ci := 13) (v := .ref bk) (C := RX12) (T := TX12) (N := 6) hx hb hts iw_X12_days_X12 hown hK hP 0 rfl rfl 0 (by decide) (hts (.fieldLink RX12 10 "UnlikeBoats" "book" "LUnlikeBoats$Book;") (List.mem_of_getElem? (i := 1) rfl)) (fun _ h9 => h9) rfl dX12_days_22 ?_
    refine lv_dup hx hb dX12_days_25 rfl ?_
    refine va_get (D := (dC, dI)) (ci := 1) (v := .int 0) (C := RX0) (T := TX0) (N := 11) hx hb hts iw_X12_days_X0 hown hK hP 1 rfl rfl 0 (by decide) (hts (.fieldLink RX12 55 "UnlikeBoats$Book" "now" "I") (List.mem_of_getElem? (i := 2) rfl)) (fun _ h9 => h9) rfl dX12_days_26 ?_
    refine lv_iload_n hx hb dX12_days_29 rfl (lv_at hl 1 rfl) ?_
    refine lv_iadd hx hb dX12_days_30 ?_
    refine lv_topi (fun y5 ey5 => ?_)
    obtain rfl : y5 = (n : Int32) := ey5.trans (Int32.zero_add _)
    refine va_put (D := (dC, dI)) (ci := 1) (v := .int n) (ty := .int) (C := RX0) (T := TX0) (N := 11) hx hb hts iw_X12_days_X0 tyX0 tyX0_ok nmX0 hown hK hP hD hS 1 rfl rfl 0 (by decide) (hts (.fieldLink RX12 55 "UnlikeBoats$Book" "now" "I") (List.mem_of_getElem? (i := 2) rfl)) (fun _ h9 => h9) rfl (by decide +kernel) rfl rfl (Nat.le_of_ble_eq_true rfl) dX12_days_31 (fun H locs hP hD hS => ?_)
    have hP : va_P (dC, dI) vwCl [(x, .inr (13, [.ref bk, .ref tp, .ref sh, .ref sc, .ref he, .ref of])), (bk, .inr (1, [.int n, .int 0, .int 0, .ref lc, .ref lr, .ref la, .ref le, .ref lw, .ref lp, .ref ltr, .ref stk]))] H := hP
    have hD : va_D A [(x, .inr (13, [.ref bk, .ref tp, .ref sh, .ref sc, .ref he, .ref of])), (bk, .inr (1, [.int n, .int 0, .int 0, .ref lc, .ref lr, .ref la, .ref le, .ref lw, .ref lp, .ref ltr, .ref stk]))] := hD
    refine lv_aload_n hx hb dX12_days_34 rfl (lv_at hl 0 rfl) ?_
    refine va_get (D := (dC, dI)) (ci := 13) (v := .ref bk) (C := RX12) (T := TX12) (N := 6) hx hb hts iw_X12_days_X12 hown hK hP 0 rfl rfl 0 (by decide) (hts (.fieldLink RX12 10 "UnlikeBoats" "book" "LUnlikeBoats$Book;") (List.mem_of_getElem? (i := 1) rfl)) (fun _ h9 => h9) rfl dX12_days_35 ?_
    refine va_get (D := (dC, dI)) (ci := 1) (v := .int n) (C := RX0) (T := TX0) (N := 11) hx hb hts iw_X12_days_X0 hown hK hP 1 rfl rfl 0 (by decide) (hts (.fieldLink RX12 55 "UnlikeBoats$Book" "now" "I") (List.mem_of_getElem? (i := 2) rfl)) (fun _ h9 => h9) rfl dX12_days_38 ?_
    exact W.iret (v := n) hx hb hr (fun t ht hW => ⟨⟨n, (), rfl, by rw [if_neg (fun h => h.elim d3a d3b)], trivial⟩, hS.F ht⟩) hS.2.2 dX12_days_41
  ·
    have d6 := hw1
    refine lv_if_ne (tgt := 21) hx hb dX12_days_16 (by decide) (fun c7 => absurd c7 (by decide)) (fun c7 => ?_)
    refine lv_iconst (v := -1) hx hb dX12_days_19 (by decide) ?_
    exact W.iret (v := (-1)) hx hb hr (fun t ht hW => ⟨⟨(-1), (), rfl, by rw [if_pos d6], trivial⟩, hS.F ht⟩) hS.2.2 dX12_days_20
set_option maxHeartbeats 4000000 in
set_option maxRecDepth 100000 in
theorem m_isIn (l : Launch) (n : Int32) (lo : Int32) (hi : Int32)  : Met l yX13_isIn wsX13_isIn ({ frames := 0, cells := 0, slots := 0, locals := 0 }) (va_Pc [.int n, .int lo, .int hi] (fun _ => True)) (va_Qi (S := Unit) (fun r _ => (r = 1 ∧ ¬ n < lo ∧ ¬ hi < n) ∨ (r = 0 ∧ (n < lo ∨ hi < n))) (fun _ _ => True) (fun _ => False)) 0 0 (fun _ => False) := by
  refine Met.ofW (cc := cX13_isIn) (maxL := 3) (ret := (some .boolean)) (by decide) rfl ?_
  intro p e s m args below meth c s₁ B hml hv
  obtain ⟨rfl, -⟩ := hv
  have hx := B.exec
  have hb := B.bytes
  have hr := B.returns
  have hts := atoms_spec (ws := wsX13_isIn) B.pre
  have hown : s.vm.findClass RX13 = some m.cls := findClass_of_methodNamed B.named
  have hlocks := B.notSynchronized
  have hS : va_S (fun _ : Nat => False) s.heap s.heap [] := va_S.rf
  have hl := lv_entry ([.int n, .int lo, .int hi]) (n := 3) (Nat.le_of_ble_eq_true rfl)
  rw [lg_entry_eq]
  generalize (lg_sl ([.int n, .int lo, .int hi]) ++ List.replicate (3 - (lg_sl ([.int n, .int lo, .int hi])).length) Slot.unset).toArray = ls at hl ⊢
  have hl : lv_has ls 3 [(0, .int n), (1, .int lo), (2, .int hi)] := hl
  refine lv_iload_n hx hb dX13_isIn_0 rfl (lv_at hl 0 rfl) ?_
  refine lv_iload_n hx hb dX13_isIn_1 rfl (lv_at hl 1 rfl) ?_
  refine lv_icmp_lt (tgt := 14) hx hb dX13_isIn_2 (by decide) (fun c1 => ?_) (fun c1 => ?_)
  · --n < lo
    refine lv_iconst (v := 0) hx hb dX13_isIn_14 (by decide) ?_
    exact W.zret (v := (0)) hx hb hr rfl (fun t ht hW => ⟨⟨(0), (), rfl, Or.inr ⟨rfl, Or.inl c1⟩, trivial⟩, hS.F ht⟩) hS.2.2 dX13_isIn_15
  · --¬ n < lo
    refine lv_iload_n hx hb dX13_isIn_5 rfl (lv_at hl 0 rfl) ?_
    refine lv_iload_n hx hb dX13_isIn_6 rfl (lv_at hl 2 rfl) ?_
    refine lv_icmp_gt (tgt := 14) hx hb dX13_isIn_7 (by decide) (fun c2 => ?_) (fun c2 => ?_)
    · --hi < n
      refine lv_iconst (v := 0) hx hb dX13_isIn_14 (by decide) ?_
      exact W.zret (v := (0)) hx hb hr rfl (fun t ht hW => ⟨⟨(0), (), rfl, Or.inr ⟨rfl, Or.inr c2⟩, trivial⟩, hS.F ht⟩) hS.2.2 dX13_isIn_15
    · --¬ hi < n
      refine lv_iconst (v := 1) hx hb dX13_isIn_10 (by decide) ?_
      refine lv_goto (tgt := 15) hx hb dX13_isIn_11 (by decide) ?_
      exact W.zret (v := (1)) hx hb hr rfl (fun t ht hW => ⟨⟨(1), (), rfl, Or.inl ⟨rfl, c1, c2⟩, trivial⟩, hS.F ht⟩) hS.2.2 dX13_isIn_15
set_option maxHeartbeats 4000000 in
set_option maxRecDepth 100000 in
theorem m_isKnown (l : Launch) (dC : Nat → ClassId) (dI : Nat → Nat → Nat) (h : Nat) (f : Nat → Value) (q : Int32) (hf_now : f 1 = .int 0) : Met l yX13_isKnown wsX13_isKnown ({ frames := 1, cells := 0, slots := 0, locals := 40 }) (va_Pc [.ref h, .int q] (fun U => va_P (dC, dI) vwCl [(h, .inr (14, mL f))] U.heap ∧ va_K (dC, dI) vwCl [] U)) (va_Qi (S := Unit) (fun r _ => (r = 1 ∧ ¬ q < 0 ∧ ¬ 0 < q) ∨ (r = 0 ∧ (q < 0 ∨ 0 < q))) (fun _ _ => True) (fun _ => False)) 0 0 (fun _ => False) := by
  refine Met.ofW (cc := cX13_isKnown) (maxL := 2) (ret := (some .boolean)) (by decide) rfl ?_
  intro p e s m args below meth c s₁ B hml hv
  obtain ⟨rfl, hP, hK⟩ := hv
  have hx := B.exec
  have hb := B.bytes
  have hr := B.returns
  have hts := atoms_spec (ws := wsX13_isKnown) B.pre
  have hown : s.vm.findClass RX13 = some m.cls := findClass_of_methodNamed B.named
  have hlocks := B.notSynchronized
  have hS : va_S (fun _ : Nat => False) s.heap s.heap [] := va_S.rf
  have hl := lv_entry ([.ref h, .int q]) (n := 2) (Nat.le_of_ble_eq_true rfl)
  rw [lg_entry_eq]
  generalize (lg_sl ([.ref h, .int q]) ++ List.replicate (2 - (lg_sl ([.ref h, .int q])).length) Slot.unset).toArray = ls at hl ⊢
  have hl : lv_has ls 2 [(0, .ref h), (1, .int q)] := hl
  refine lv_iload_n hx hb dX13_isKnown_0 rfl (lv_at hl 1 rfl) ?_
  refine lv_iconst (v := 0) hx hb dX13_isKnown_1 (by decide) ?_
  refine lv_aload_n hx hb dX13_isKnown_2 rfl (lv_at hl 0 rfl) ?_
  refine va_get (D := (dC, dI)) (ci := 14) (v := .int 0) (C := RX13) (T := TX13) (N := 97) hx hb hts iw_X13_isKnown_X13 hown hK hP 0 rfl rfl 1 (by decide) (hts (.fieldLink RX13 232 "UnlikeBoatsModel" "now" "I") (List.mem_of_getElem? (i := 1) rfl)) (fun _ h9 => h9) (mL_some (Nat.le_of_ble_eq_true rfl) hf_now) dX13_isKnown_3 ?_
  refine va_calli (va_runS (As := [.int q, .int 0, .int 0]) (rest := []) ⟨hx, hb, hml, hown, hts⟩ (m_isIn l q (0) (0)) (va_cwS 3 hts gX13_isKnown_X13_isIn rfl rfl rfl (by decide +kernel) ⟨Nat.le_of_ble_eq_true rfl, Nat.le_of_ble_eq_true rfl⟩) ⟨fun _ _ _ _ q => q, fun _ _ _ => ⟨rfl, trivial⟩⟩ rfl rfl hl.1 rfl (lv_room (Nat.le_of_ble_eq_true rfl)) dX13_isKnown_6 ⟨Nat.le_of_ble_eq_true rfl, Nat.le_of_ble_eq_true rfl⟩) hS (fun _ _ h => h.elim) (fun _ h => h.elim) (fun r1 u t H1 locs ht hvm hw hB hz1 hk1 hS => ?_)
  have hP := ub_keep hP hk1
  generalize H1 = H at hP hS ⊢
  rcases hw with ⟨rfl, hw1, hw2⟩ | ⟨rfl, hw1⟩
  ·
    have d2a := hw1
    have d2b := hw2
    exact W.zret (v := (1)) hx hb hr rfl (fun t ht hW => ⟨⟨(1), (), rfl, Or.inl ⟨rfl, d2a, d2b⟩, trivial⟩, hS.F ht⟩) hS.2.2 dX13_isKnown_9
  ·
    have d3 := hw1
    exact W.zret (v := (0)) hx hb hr rfl (fun t ht hW => ⟨⟨(0), (), rfl, Or.inr ⟨rfl, d3⟩, trivial⟩, hS.F ht⟩) hS.2.2 dX13_isKnown_9
set_option maxHeartbeats 4000000 in
set_option maxRecDepth 100000 in
theorem m_days (l : Launch) (dC : Nat → ClassId) (dI : Nat → Nat → Nat) (h : Nat) (f : Nat → Value) (n : Int32) (sz : Nat) (hf_now : f 1 = .int 0) (hf_thrown : f 0 = .int 0) : Met l yX13_days wsX13_days ({ frames := 2, cells := 0, slots := 0, locals := 80 }) (va_Pc [.ref h, .int n] (fun U => U.heap.size = sz ∧ va_P (dC, dI) vwCl [(h, .inr (14, mL f))] U.heap ∧ va_K (dC, dI) vwCl [] U ∧ va_D (fun _ => True) [(h, .inr (14, mL f))])) (va_Qi (S := Unit) (fun r _ => r = if n < 0 ∨ 400 < n then -1 else n) (fun _ _ => True) (va_A [(h, .inr (14, mL f))] sz)) 0 0 (va_A [(h, .inr (14, mL f))] sz) := by
  refine Met.ofW (cc := cX13_days) (maxL := 2) (ret := (some .int)) (by decide) rfl ?_
  intro p e s m args below meth c s₁ B hml hv
  obtain ⟨rfl, hsz, hP, hK, hD0⟩ := hv
  have hx := B.exec
  have hb := B.bytes
  have hr := B.returns
  have hts := atoms_spec (ws := wsX13_days) B.pre
  have hown : s.vm.findClass RX13 = some m.cls := findClass_of_methodNamed B.named
  have hlocks := B.notSynchronized
  subst hsz
  have hD := hD0.self (sz := s.heap.size)
  generalize hAe : va_A [(h, .inr (14, mL f))] s.heap.size = A at hD ⊢
  have hA : ∀ q : Nat, s.heap.size ≤ q → A q := fun q h => by rw [← hAe]; exact Or.inr h
  have hS : va_S A s.heap s.heap [] := va_S.rf
  have hP : va_P (dC, dI) vwCl [(h, .inr (14, mL f))] s.heap := hP
  have hl := lv_entry ([.ref h, .int n]) (n := 2) (Nat.le_of_ble_eq_true rfl)
  rw [lg_entry_eq]
  generalize (lg_sl ([.ref h, .int n]) ++ List.replicate (2 - (lg_sl ([.ref h, .int n])).length) Slot.unset).toArray = ls at hl ⊢
  have hl : lv_has ls 2 [(0, .ref h), (1, .int n)] := hl
  refine lv_aload_n hx hb dX13_days_0 rfl (lv_at hl 0 rfl) ?_
  refine lv_iconst (v := 0) hx hb dX13_days_1 (by decide) ?_
  refine va_put (D := (dC, dI)) (ci := 14) (v := .int 0) (ty := .int) (C := RX13) (T := TX13) (N := 97) hx hb hts iw_X13_days_X13 tyX13 tyX13_ok nmX13 hown hK hP hD hS 0 rfl rfl 0 (by decide) (hts (.fieldLink RX13 228 "UnlikeBoatsModel" "thrown" "I") (List.mem_of_getElem? (i := 1) rfl)) (fun _ h9 => h9) rfl (by decide +kernel) rfl rfl (mL_lt (Nat.le_of_ble_eq_true rfl)) dX13_days_2 (fun H locs hP hD hS => ?_)
  have hP : va_P (dC, dI) vwCl [(h, .inr (14, (mL f).set 0 (.int 0)))] H := hP
  have hD : va_D A [(h, .inr (14, (mL f).set 0 (.int 0)))] := hD
  rw [mL_same hf_thrown] at hP hD
  refine lv_iload_n hx hb dX13_days_5 rfl (lv_at hl 1 rfl) ?_
  refine lv_iconst (v := 0) hx hb dX13_days_6 (by decide) ?_
  refine lv_sipush (v := 400) hx hb dX13_days_7 (by decide) ?_
  refine va_calli (va_runS (As := [.int n, .int 0, .int 400]) (rest := []) ⟨hx, hb, hml, hown, hts⟩ (m_isIn l n (0) (400)) (va_cwS 3 hts gX13_days_X13_isIn rfl rfl rfl (by decide +kernel) ⟨Nat.le_of_ble_eq_true rfl, Nat.le_of_ble_eq_true rfl⟩) ⟨fun _ _ _ _ q => q, fun _ _ _ => ⟨rfl, trivial⟩⟩ rfl rfl hl.1 rfl (lv_room (Nat.le_of_ble_eq_true rfl)) dX13_days_10 ⟨Nat.le_of_ble_eq_true rfl, Nat.le_of_ble_eq_true rfl⟩) hS (fun _ _ h => h.elim) (fun _ h => h.elim) (fun r1 u t H1 locs ht hvm hw hB hz1 hk1 hS => ?_)
  have hP := ub_keep hP hk1
  generalize H1 = H at hP hS ⊢
  rcases hw with ⟨rfl, hw1, hw2⟩ | ⟨rfl, hw1⟩
  ·
    have d2a := hw1
    have d2b := hw2
    refine lv_if_eq (tgt := 28) hx hb dX13_days_13 (by decide) (fun c3 => absurd c3 (by decide)) (fun c3 => ?_)
    refine lv_aload_n hx hb dX13_days_16 rfl (lv_at hl 0 rfl) ?_
    refine va_get (D := (dC, dI)) (ci := 14) (v := .int 0) (C := RX13) (T := TX13) (N := 97) hx hb hts iw_X13_days_X13 hown hK hP 0 rfl rfl 1 (by decide) (hts (.fieldLink RX13 232 "UnlikeBoatsModel" "now" "I") (List.mem_of_getElem? (i := 2) rfl)) (fun _ h9 => h9) (mL_some (Nat.le_of_ble_eq_true rfl) hf_now) dX13_days_17 ?_
    refine lv_iload_n hx hb dX13_days_20 rfl (lv_at hl 1 rfl) ?_
    refine lv_iadd hx hb dX13_days_21 ?_
    refine lv_topi (fun y4 ey4 => ?_)
    obtain rfl : y4 = (n : Int32) := ey4.trans (Int32.zero_add _)
    refine lv_sipush (v := 400) hx hb dX13_days_22 (by decide) ?_
    refine lv_icmp_le (tgt := 30) hx hb dX13_days_25 (by decide) (fun c5 => ?_) (fun c5 => absurd c5 (d2b))
    refine lv_aload_n hx hb dX13_days_30 rfl (lv_at hl 0 rfl) ?_
    refine lv_dup hx hb dX13_days_31 rfl ?_
    refine va_get (D := (dC, dI)) (ci := 14) (v := .int 0) (C := RX13) (T := TX13) (N := 97) hx hb hts iw_X13_days_X13 hown hK hP 0 rfl rfl 1 (by decide) (hts (.fieldLink RX13 232 "UnlikeBoatsModel" "now" "I") (List.mem_of_getElem? (i := 2) rfl)) (fun _ h9 => h9) (mL_some (Nat.le_of_ble_eq_true rfl) hf_now) dX13_days_32 ?_
    refine lv_iload_n hx hb dX13_days_35 rfl (lv_at hl 1 rfl) ?_
    refine lv_iadd hx hb dX13_days_36 ?_
    refine lv_topi (fun y6 ey6 => ?_)
    obtain rfl : y6 = (n : Int32) := ey6.trans (Int32.zero_add _)
    refine va_put (D := (dC, dI)) (ci := 14) (v := .int n) (ty := .int) (C := RX13) (T := TX13) (N := 97) hx hb hts iw_X13_days_X13 tyX13 tyX13_ok nmX13 hown hK hP hD hS 0 rfl rfl 1 (by decide) (hts (.fieldLink RX13 232 "UnlikeBoatsModel" "now" "I") (List.mem_of_getElem? (i := 2) rfl)) (fun _ h9 => h9) rfl (by decide +kernel) rfl rfl (mL_lt (Nat.le_of_ble_eq_true rfl)) dX13_days_37 (fun H locs hP hD hS => ?_)
    have hP : va_P (dC, dI) vwCl [(h, .inr (14, (mL f).set 1 (.int n)))] H := hP
    have hD : va_D A [(h, .inr (14, (mL f).set 1 (.int n)))] := hD
    obtain ⟨g7, eg7⟩ : ∃ g, g = va_up f 1 (.int n) := ⟨_, rfl⟩
    rw [mL_upd, ← eg7] at hP hD
    have hg7_0 : g7 0 = .int 0 := by rw [eg7]; exact (va_up_ne _ _ (by decide)).trans hf_thrown
    have hg7_1 : g7 1 = .int n := by rw [eg7]; exact va_up_self _ _ _
    refine lv_aload_n hx hb dX13_days_40 rfl (lv_at hl 0 rfl) ?_
    refine va_get (D := (dC, dI)) (ci := 14) (v := .int n) (C := RX13) (T := TX13) (N := 97) hx hb hts iw_X13_days_X13 hown hK hP 0 rfl rfl 1 (by decide) (hts (.fieldLink RX13 232 "UnlikeBoatsModel" "now" "I") (List.mem_of_getElem? (i := 2) rfl)) (fun _ h9 => h9) (mL_some (Nat.le_of_ble_eq_true rfl) hg7_1) dX13_days_41 ?_
    exact W.iret (v := n) hx hb hr (fun t ht hW => ⟨⟨n, (), rfl, by rw [if_neg (fun h => h.elim d2a d2b)], trivial⟩, hS.F ht⟩) hS.2.2 dX13_days_44
  ·
    have d8 := hw1
    refine lv_if_eq (tgt := 28) hx hb dX13_days_13 (by decide) (fun c9 => ?_) (fun c9 => absurd c9 (by decide))
    refine lv_iconst (v := -1) hx hb dX13_days_28 (by decide) ?_
    exact W.iret (v := (-1)) hx hb hr (fun t ht hW => ⟨⟨(-1), (), rfl, by rw [if_pos d8], trivial⟩, hS.F ht⟩) hS.2.2 dX13_days_29
