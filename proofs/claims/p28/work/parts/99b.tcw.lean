

set_option maxHeartbeats 4000000 in
set_option maxRecDepth 100000 in
theorem law7_case_14 {p : Program} {e : Env} {s : State} {m : MethodId} {below : List Frame} {meth : Method} {c : Code} (l : Launch) {b L : Nat} {xs : Nat → Int32} (hL : L ≤ 4096) (C0 : lw_At p s m meth c b L xs) {A : Nat → Prop} {ed : Nat} {dC : Nat → ClassId} {dI : Nat → Nat → Nat} {cT : Nat → ClassId} {cL : ClassId} (F : FX l s A ed dC dI cT cL) {x ou : Nat} {am cf ad : Nat → Nat} {E EM : Nat → va_E} {f : Nat → Int64} {H : Heap} {locs : List Loc} (V : INV s A ed dC dI cT cL x ou am cf ad E EM f H locs) (hR : REL6 cf E EM) {i : Int32} (hi0 : 0 ≤ i.toInt) (hi8 : i.toInt + 8 ≤ (L : Int)) {cn sn : Nat} (hcn : cn + 7 ≤ 601024) (hsn : sn + 3300 ≤ 7293034) (ls : Array Slot) (hl : lv_has ls 7 [(0, .ref b), (1, .ref x), (2, .ref (am 0)), (3, .ref ou), (4, .int i)]) (tail : (∀ (cf ad : Nat → Nat) (E EM : Nat → va_E) (f : Nat → Int64) (H : Heap) (locs : List Loc) (ls : Array Slot), INV s A ed dC dI cT cL x ou am cf ad E EM f H locs → REL6 cf E EM → lv_has ls 7 [(0, .ref b), (1, .ref x), (2, .ref (am 0)), (3, .ref ou), (4, .int i)] → W p l e room_1 s m #[Value.ref b] below meth c H locs (cn + 7) (sn + 3300) (lw_Z below #[Value.ref b] s) (F0 m 1859 ls []))) : W p l e room_1 s m #[Value.ref b] below meth c H locs cn sn (lw_Z below #[Value.ref b] s) (F0 m 812 ls []) := by
  obtain ⟨hx, hb, hr, hml, hown, hts0, hX, hbl, hlocks, hgv⟩ := id C0
  have hts := fun w (h : w ∈ v_law) => hts0 w (v_law_in w h)
  have hbA : ¬ A b := F.hnA b hbl
  obtain rfl := V.hx
  obtain ⟨⟨⟨hR, hT⟩, hU⟩, hG⟩ := hR
  refine lv_aload_n hx hb dL_law_812 rfl (lv_at hl 1 rfl) ?_
  refine lv_aload_n hx hb dL_law_813 rfl (lv_at hl 0 rfl) ?_
  refine lv_iload hx hb dL_law_814 (lv_at hl 4 rfl) ?_
  refine lv_iconst (v := 1) hx hb dL_law_816 (by decide) ?_
  refine lv_iadd hx hb dL_law_817 ?_
  refine va_sld hx hb hX hbl hbA V.hS (law_in (k := 1) hi0 hi8 hL (by decide) rfl) dL_law_818 ?_
  refine lv_aload_n hx hb dL_law_819 rfl (lv_at hl 0 rfl) ?_
  refine lv_iload hx hb dL_law_820 (lv_at hl 4 rfl) ?_
  refine lv_iconst (v := 2) hx hb dL_law_822 (by decide) ?_
  refine lv_iadd hx hb dL_law_823 ?_
  refine va_sld hx hb hX hbl hbA V.hS (law_in (k := 2) hi0 hi8 hL (by decide) rfl) dL_law_824 ?_
  refine lv_aload_n hx hb dL_law_825 rfl (lv_at hl 0 rfl) ?_
  refine lv_iload hx hb dL_law_826 (lv_at hl 4 rfl) ?_
  refine lv_iconst (v := 3) hx hb dL_law_828 (by decide) ?_
  refine lv_iadd hx hb dL_law_829 ?_
  refine va_sld hx hb hX hbl hbA V.hS (law_in (k := 3) hi0 hi8 hL (by decide) rfl) dL_law_830 ?_
  have hI0 := V.hI
  have hC0 := V.hC
  have hM0 := V.hM
  have bn : (0 : Int) ≤ (xi (E 1) 0).toInt ∧ (xi (E 1) 0).toInt ≤ 400 := hI0.iv 1 (mF 1 rfl) rfl (Nat.le_of_ble_eq_true rfl) rfl
  have bb : (0 : Int) ≤ (xi (E 1) 1).toInt ∧ (xi (E 1) 1).toInt ≤ 16 := hI0.iv 1 (mF 1 rfl) rfl (Nat.le_of_ble_eq_true rfl) rfl
  obtain ⟨⟨k0, k1, k2, k3, k4, k5⟩, -⟩ := id hC0
  refine lC F V (fun r u h => h.1) (va_runV (As := [.int (xs (i + 1).toNatClampNeg), .int (xs (i + 2).toNatClampNeg), .int (xs (i + 3).toNatClampNeg)]) (rest := []) ⟨hx, hb, hml, hown, hts⟩ (q_u_codedX l dC dI cT cf V.hC ad E H.size (xs (i + 1).toNatClampNeg) (xs (i + 2).toNatClampNeg) (xs (i + 3).toNatClampNeg) V.hI) (cwV 3 hts (gl_V (al_2 _ (List.mem_of_getElem? (i := 4) rfl)) (al_2 _ (List.mem_of_getElem? (i := 5) rfl)) (al_2 _ (List.mem_of_getElem? (i := 6) rfl)) (vl_A _ (in_4 _ (List.mem_of_getElem? (i := 23) rfl))) (vl_A _ (in_13 _ (List.mem_of_getElem? (i := 35) rfl)))) rfl rfl rfl (by decide +kernel) ⟨Nat.le_of_ble_eq_true rfl, Nat.le_of_ble_eq_true rfl⟩) ⟨HWL_bl, va_recv F.kc V.cp (ci := 13) (q0 := posL 0 (LC cf)) rfl (V.hI.ob 0 (mF 0 rfl) rfl), HWL_wi V.cp F.kc V.dc V.hS F.hA (V.ec F)⟩ rfl rfl hl.1 rfl (lv_room (Nat.le_of_ble_eq_true rfl)) dL_law_831 ⟨by show cn + 0 ≤ 601024; omega, by show sn + 0 ≤ 7293034; omega⟩) (fun r1 E1 H locs hw1 V => ?_)
  have hcf : ∀ j, j < 6 → j ≠ 1 → cf j = cf j := fun _ _ _ => rfl
  have k6 : xi (E1 1) 0 = xi (E 1) 0 := xik hw1.2.1 (o := 1) (j := 0) (by first | rfl | (simp [wl]; done) | (simp [wl]; omega))
  have k7 : xi (E1 1) 1 = xi (E 1) 1 := xik hw1.2.1 (o := 1) (j := 1) (by first | rfl | (simp [wl]; done) | (simp [wl]; omega))
  have k8 : xi (E1 1) 2 = xi (E 1) 2 := xik hw1.2.1 (o := 1) (j := 2) (by first | rfl | (simp [wl]; done) | (simp [wl]; omega))
  have hp : PK X0 cf E E1 := fun t i j _ _ _ _ => xik hw1.2.1 (by first | exact wl_p rfl rfl (by omega) | (simp [wl]; done) | (simp [wl]; omega))
  refine lv_pop hx hb dL_law_834 rfl ?_
  refine lv_aload_n hx hb dL_law_835 rfl (lv_at hl 2 rfl) ?_
  refine lv_aload_n hx hb dL_law_836 rfl (lv_at hl 0 rfl) ?_
  refine lv_iload hx hb dL_law_837 (lv_at hl 4 rfl) ?_
  refine lv_iconst (v := 1) hx hb dL_law_839 (by decide) ?_
  refine lv_iadd hx hb dL_law_840 ?_
  refine va_sld hx hb hX hbl hbA V.hS (law_in (k := 1) hi0 hi8 hL (by decide) rfl) dL_law_841 ?_
  refine lv_aload_n hx hb dL_law_842 rfl (lv_at hl 0 rfl) ?_
  refine lv_iload hx hb dL_law_843 (lv_at hl 4 rfl) ?_
  refine lv_iconst (v := 2) hx hb dL_law_845 (by decide) ?_
  refine lv_iadd hx hb dL_law_846 ?_
  refine va_sld hx hb hX hbl hbA V.hS (law_in (k := 2) hi0 hi8 hL (by decide) rfl) dL_law_847 ?_
  refine lv_aload_n hx hb dL_law_848 rfl (lv_at hl 0 rfl) ?_
  refine lv_iload hx hb dL_law_849 (lv_at hl 4 rfl) ?_
  refine lv_iconst (v := 3) hx hb dL_law_851 (by decide) ?_
  refine lv_iadd hx hb dL_law_852 ?_
  refine va_sld hx hb hX hbl hbA V.hS (law_in (k := 3) hi0 hi8 hL (by decide) rfl) dL_law_853 ?_
  refine lM F V (fun r u h => ⟨h.1, DIr_kp h.2.1 (fun _ => rfl) (fun _ => rfl) V.hDI⟩) (va_runV (As := [.int (xs (i + 1).toNatClampNeg), .int (xs (i + 2).toNatClampNeg), .int (xs (i + 3).toNatClampNeg)]) (rest := []) ⟨hx, hb, hml, hown, hts⟩ (q_codedM l dC dI cT am EM H.size (xs (i + 1).toNatClampNeg) (xs (i + 2).toNatClampNeg) (xs (i + 3).toNatClampNeg) V.hM) (cwV 3 hts (gl_V (al_2 _ (List.mem_of_getElem? (i := 7) rfl)) (al_2 _ (List.mem_of_getElem? (i := 8) rfl)) (al_2 _ (List.mem_of_getElem? (i := 9) rfl)) (vl_A _ (in_24 _ (List.mem_of_getElem? (i := 15) rfl))) (vl_A _ (in_30 _ (List.mem_of_getElem? (i := 5) rfl)))) rfl rfl rfl (by decide +kernel) ⟨Nat.le_of_ble_eq_true rfl, Nat.le_of_ble_eq_true rfl⟩) ⟨HW_bl, va_recv F.km V.pm (ci := 14) (q0 := 0) rfl (V.hM.ob 0 (Nat.le_of_ble_eq_true rfl) rfl), HW_wi V.pm F.km V.dm V.hS F.hA F.hEV⟩ rfl rfl hl.1 rfl (lv_room (Nat.le_of_ble_eq_true rfl)) dL_law_854 ⟨by show cn + 0 ≤ 601024; omega, by show sn + 0 ≤ 7293034; omega⟩) (fun r2 EM1 H locs hw2 V => ?_)
  have hG9 := hG
  have hT9 := hT
  have hT := hT.keep (cf' := cf) (E' := E1) rfl (xik hw1.2.1 (o := 2) (j := 1) (by first | rfl | (simp [wl]; done) | (simp [wl]; omega))) (fun j9 => xik hw1.2.1 (o := 21) (j := j9) (by first | rfl | (simp [wl]; done) | (simp [wl]; omega))) (fun i9 j9 _ => xik hw1.2.1 (o := 64 * (i9 + 1) + 1) (j := j9) (by first | exact wl_p rfl rfl (by omega) | (simp [wl]; done) | (simp [wl]; omega))) (xik hw2.2.1 (o := 0) (j := 16) rfl) (xik hw2.2.1 (o := 0) (j := 17) rfl) (fun j9 => xik hw2.2.1 (o := 7) (j := j9) rfl) (fun j9 => xik hw2.2.1 (o := 10) (j := j9) rfl) (fun j9 => xik hw2.2.1 (o := 11) (j := j9) rfl)
  have hU := hU.keep (cf' := cf) (E' := E1) rfl (fun _ _ => ⟨rfl, rfl⟩) (fun i9 _ t9 _ _ j9 => xik hw1.2.1 (o := 64 * (i9 + 1) + t9) (j := j9) (by first | exact wl_p rfl rfl (by omega) | (simp [wl]; done) | (simp [wl]; omega))) (fun j9 => xik hw2.2.1 (o := 8) (j := j9) rfl) (fun j9 => xik hw2.2.1 (o := 9) (j := j9) rfl)
  have hG := hG.keep (cf' := cf) (E' := E1) rfl (fun i9 j9 _ => xik hw1.2.1 (o := 64 * (i9 + 1) + 14) (j := j9) (by first | exact wl_p rfl rfl (by omega) | (simp [wl]; done) | (simp [wl]; omega))) (fun j9 => xik hw2.2.1 (o := 51) (j := j9) rfl)
  have e0 : (xi (E 1) 0).toInt = (xi (EM 0) 1).toInt := congrArg Int32.toInt hR.now
  have e1 : (xi (E 1) 1).toInt = (xi (EM 0) 8).toInt := congrArg Int32.toInt hR.boats
  have e2 : (xi (E 1) 2).toInt = (xi (EM 0) 48).toInt := congrArg Int32.toInt hR.red
  obtain ⟨q0, q2, q3, q4, q5⟩ := hR.cnt
  have lm : (-1 : Int32).toInt = -1 := rfl
  have l0 : (0 : Int32).toInt = 0 := rfl
  have l1 : (1 : Int32).toInt = 1 := rfl
  have l2 : (2 : Int32).toInt = 2 := rfl
  have lk : (1000 : Int32).toInt = 1000 := rfl
  have hd : r1.toInt = r2.toInt ∧ True := by
    obtain ⟨-, -, p1, p2⟩ := id hw1
    obtain ⟨-, -, m1, m2⟩ := id hw2
    refine ⟨?_, trivial⟩
    have ht : 0 ≤ (xs (i + 1).toNatClampNeg).toInt ∧ (xs (i + 1).toNatClampNeg).toInt < ((cf 2 : Nat) : Int) → (xi (E (64 * ((xs (i + 1).toNatClampNeg).toNatClampNeg + 1) + 6)) 0).toInt = (xi (EM 20) (xs (i + 1).toNatClampNeg).toInt.toNat).toInt := fun z => congrArg Int32.toInt (hR.tb2 (6, 0, 20) (by decide) (xs (i + 1).toNatClampNeg).toNatClampNeg (by rw [tn_]; omega))
    by_cases g : ((0 ≤ (xs (i + 3).toNatClampNeg).toInt ∧ (xs (i + 3).toNatClampNeg).toInt ≤ (xi (E 1) 0).toInt) ∧ (0 ≤ (xs (i + 1).toNatClampNeg).toInt ∧ (xs (i + 1).toNatClampNeg).toInt < ((cf 2 : Nat) : Int)) ∧ (xi (E (64 * ((xs (i + 1).toNatClampNeg).toNatClampNeg + 1) + 6)) 0).toInt ≤ (xs (i + 3).toNatClampNeg).toInt) ∧ (0 ≤ (xs (i + 2).toNatClampNeg).toInt ∧ (xs (i + 2).toNatClampNeg).toInt < (xi (E 1) 1).toInt)
    · have h1 := p1 g
      have ht := ht g.1.2.1
      have hen := pen (n := (xs (i + 3).toNatClampNeg).toInt) hR.en hM0 (by omega) (by omega) (xs (i + 1).toNatClampNeg) (xs (i + 2).toNatClampNeg) g.1.2.1 (by omega)
      by_cases en : entMd EM (xs (i + 1).toNatClampNeg).toInt (xs (i + 2).toNatClampNeg).toInt (xs (i + 3).toNatClampNeg).toInt
      · have h2 := m1 ⟨⟨by omega, by omega, by omega, by omega⟩, en⟩
        exact (cd_eq (a := (xs (i + 1).toNatClampNeg)) (b := (xs (i + 2).toNatClampNeg)) (q := (xs (i + 3).toNatClampNeg)) hR hG9 (by omega) (by omega) (by omega) (by omega) hen h1 h2).1 en
      · have h2 := m2 (fun z => en z.2)
        have h3 := ((cd_eq (a := (xs (i + 1).toNatClampNeg)) (b := (xs (i + 2).toNatClampNeg)) (q := (xs (i + 3).toNatClampNeg)) hR hG9 (by omega) (by omega) (by omega) (by omega) hen h1 (show CdM EM (xs (i + 1).toNatClampNeg) (xs (i + 2).toNatClampNeg) (xs (i + 3).toNatClampNeg) 2 from ⟨fun _ => rfl, fun z => absurd z en⟩)).2 en).1
        omega
    · have h1 := p2 g
      have h2 := m2 (fun z => g (by have z2 := ht (by omega); exact ⟨⟨by omega, by omega, by omega⟩, by omega⟩))
      omega
  have hR := hR.keep hcf k6 k7 k8 hp (kpS hw2.2.1 rfl) (kpR hw2.2.1 rfl)
  refine lv_pop hx hb dL_law_857 rfl ?_
  refine lv_goto (tgt := 1859) hx hb dL_law_858 (by decide) ?_
  exact W.widen (k := cn + 7) (n := sn + 3300) (by omega) (by omega) (tail _ _ _ _ _ _ _ _ V ⟨⟨⟨hR, hT⟩, hU⟩, hG⟩ hl)
set_option maxHeartbeats 4000000 in
set_option maxRecDepth 100000 in
theorem law7_case_37 {p : Program} {e : Env} {s : State} {m : MethodId} {below : List Frame} {meth : Method} {c : Code} (l : Launch) {b L : Nat} {xs : Nat → Int32} (hL : L ≤ 4096) (C0 : lw_At p s m meth c b L xs) {A : Nat → Prop} {ed : Nat} {dC : Nat → ClassId} {dI : Nat → Nat → Nat} {cT : Nat → ClassId} {cL : ClassId} (F : FX l s A ed dC dI cT cL) {x ou : Nat} {am cf ad : Nat → Nat} {E EM : Nat → va_E} {f : Nat → Int64} {H : Heap} {locs : List Loc} (V : INV s A ed dC dI cT cL x ou am cf ad E EM f H locs) (hR : REL6 cf E EM) {i : Int32} (hi0 : 0 ≤ i.toInt) (hi8 : i.toInt + 8 ≤ (L : Int)) {cn sn : Nat} (hcn : cn + 7 ≤ 601024) (hsn : sn + 3300 ≤ 7293034) (ls : Array Slot) (hl : lv_has ls 7 [(0, .ref b), (1, .ref x), (2, .ref (am 0)), (3, .ref ou), (4, .int i)]) (tail : (∀ (cf ad : Nat → Nat) (E EM : Nat → va_E) (f : Nat → Int64) (H : Heap) (locs : List Loc) (ls : Array Slot), INV s A ed dC dI cT cL x ou am cf ad E EM f H locs → REL6 cf E EM → lv_has ls 7 [(0, .ref b), (1, .ref x), (2, .ref (am 0)), (3, .ref ou), (4, .int i)] → W p l e room_1 s m #[Value.ref b] below meth c H locs (cn + 7) (sn + 3300) (lw_Z below #[Value.ref b] s) (F0 m 1859 ls []))) : W p l e room_1 s m #[Value.ref b] below meth c H locs cn sn (lw_Z below #[Value.ref b] s) (F0 m 1834 ls []) := by
  obtain ⟨hx, hb, hr, hml, hown, hts0, hX, hbl, hlocks, hgv⟩ := id C0
  have hts := fun w (h : w ∈ v_law) => hts0 w (v_law_in w h)
  have hbA : ¬ A b := F.hnA b hbl
  obtain rfl := V.hx
  obtain ⟨⟨⟨hR, hT⟩, hU⟩, hG⟩ := hR
  refine lv_aload_n hx hb dL_law_1834 rfl (lv_at hl 1 rfl) ?_
  refine lv_aload_n hx hb dL_law_1835 rfl (lv_at hl 0 rfl) ?_
  refine lv_iload hx hb dL_law_1836 (lv_at hl 4 rfl) ?_
  refine lv_iconst (v := 1) hx hb dL_law_1838 (by decide) ?_
  refine lv_iadd hx hb dL_law_1839 ?_
  refine va_sld hx hb hX hbl hbA V.hS (law_in (k := 1) hi0 hi8 hL (by decide) rfl) dL_law_1840 ?_
  have hI0 := V.hI
  have hC0 := V.hC
  have hM0 := V.hM
  have bn : (0 : Int) ≤ (xi (E 1) 0).toInt ∧ (xi (E 1) 0).toInt ≤ 400 := hI0.iv 1 (mF 1 rfl) rfl (Nat.le_of_ble_eq_true rfl) rfl
  have bb : (0 : Int) ≤ (xi (E 1) 1).toInt ∧ (xi (E 1) 1).toInt ≤ 16 := hI0.iv 1 (mF 1 rfl) rfl (Nat.le_of_ble_eq_true rfl) rfl
  obtain ⟨⟨k0, k1, k2, k3, k4, k5⟩, -⟩ := id hC0
  refine lC F V (fun r u h => h.1) (va_runV (As := [.int (xs (i + 1).toNatClampNeg)]) (rest := []) ⟨hx, hb, hml, hown, hts⟩ (q_u_countX l dC dI cT cf V.hC ad E H.size (xs (i + 1).toNatClampNeg) V.hI) (cwV 1 hts (gl_V (al_5 _ (List.mem_of_getElem? (i := 20) rfl)) (al_5 _ (List.mem_of_getElem? (i := 21) rfl)) (al_5 _ (List.mem_of_getElem? (i := 22) rfl)) (vl_A _ (in_4 _ (List.mem_of_getElem? (i := 23) rfl))) (vl_A _ (in_14 _ (List.mem_of_getElem? (i := 5) rfl)))) rfl rfl rfl (by decide +kernel) ⟨Nat.le_of_ble_eq_true rfl, Nat.le_of_ble_eq_true rfl⟩) ⟨HWL_bl, va_recv F.kc V.cp (ci := 13) (q0 := posL 0 (LC cf)) rfl (V.hI.ob 0 (mF 0 rfl) rfl), HWL_wi V.cp F.kc V.dc V.hS F.hA (V.ec F)⟩ rfl rfl hl.1 rfl (lv_room (Nat.le_of_ble_eq_true rfl)) dL_law_1841 ⟨by show cn + 0 ≤ 601024; omega, by show sn + 0 ≤ 7293034; omega⟩) (fun r1 E1 H locs hw1 V => ?_)
  have hcf : ∀ j, j < 6 → j ≠ 1 → cf j = cf j := fun _ _ _ => rfl
  have k6 : xi (E1 1) 0 = xi (E 1) 0 := xik hw1.2.1 (o := 1) (j := 0) (by first | rfl | (simp [wl]; done) | (simp [wl]; omega))
  have k7 : xi (E1 1) 1 = xi (E 1) 1 := xik hw1.2.1 (o := 1) (j := 1) (by first | rfl | (simp [wl]; done) | (simp [wl]; omega))
  have k8 : xi (E1 1) 2 = xi (E 1) 2 := xik hw1.2.1 (o := 1) (j := 2) (by first | rfl | (simp [wl]; done) | (simp [wl]; omega))
  have hp : PK X0 cf E E1 := fun t i j _ _ _ _ => xik hw1.2.1 (by first | exact wl_p rfl rfl (by omega) | (simp [wl]; done) | (simp [wl]; omega))
  refine lv_pop hx hb dL_law_1844 rfl ?_
  refine lv_aload_n hx hb dL_law_1845 rfl (lv_at hl 2 rfl) ?_
  refine lv_aload_n hx hb dL_law_1846 rfl (lv_at hl 0 rfl) ?_
  refine lv_iload hx hb dL_law_1847 (lv_at hl 4 rfl) ?_
  refine lv_iconst (v := 1) hx hb dL_law_1849 (by decide) ?_
  refine lv_iadd hx hb dL_law_1850 ?_
  refine va_sld hx hb hX hbl hbA V.hS (law_in (k := 1) hi0 hi8 hL (by decide) rfl) dL_law_1851 ?_
  refine lM F V (fun r u h => ⟨h.1, DIr_kp h.2.1 (fun _ => rfl) (fun _ => rfl) V.hDI⟩) (va_runV (As := [.int (xs (i + 1).toNatClampNeg)]) (rest := []) ⟨hx, hb, hml, hown, hts⟩ (q_countM l dC dI cT am EM H.size (xs (i + 1).toNatClampNeg) V.hM) (cwV 1 hts (gl_V (al_5 _ (List.mem_of_getElem? (i := 23) rfl)) (al_5 _ (List.mem_of_getElem? (i := 24) rfl)) (al_5 _ (List.mem_of_getElem? (i := 25) rfl)) (vl_A _ (in_24 _ (List.mem_of_getElem? (i := 15) rfl))) (vl_A _ (in_30 _ (List.mem_of_getElem? (i := 19) rfl)))) rfl rfl rfl (by decide +kernel) ⟨Nat.le_of_ble_eq_true rfl, Nat.le_of_ble_eq_true rfl⟩) ⟨HW_bl, va_recv F.km V.pm (ci := 14) (q0 := 0) rfl (V.hM.ob 0 (Nat.le_of_ble_eq_true rfl) rfl), HW_wi V.pm F.km V.dm V.hS F.hA F.hEV⟩ rfl rfl hl.1 rfl (lv_room (Nat.le_of_ble_eq_true rfl)) dL_law_1852 ⟨by show cn + 0 ≤ 601024; omega, by show sn + 0 ≤ 7293034; omega⟩) (fun r2 EM1 H locs hw2 V => ?_)
  have hG9 := hG
  have hT9 := hT
  have hT := hT.keep (cf' := cf) (E' := E1) rfl (xik hw1.2.1 (o := 2) (j := 1) (by first | rfl | (simp [wl]; done) | (simp [wl]; omega))) (fun j9 => xik hw1.2.1 (o := 21) (j := j9) (by first | rfl | (simp [wl]; done) | (simp [wl]; omega))) (fun i9 j9 _ => xik hw1.2.1 (o := 64 * (i9 + 1) + 1) (j := j9) (by first | exact wl_p rfl rfl (by omega) | (simp [wl]; done) | (simp [wl]; omega))) (xik hw2.2.1 (o := 0) (j := 16) rfl) (xik hw2.2.1 (o := 0) (j := 17) rfl) (fun j9 => xik hw2.2.1 (o := 7) (j := j9) rfl) (fun j9 => xik hw2.2.1 (o := 10) (j := j9) rfl) (fun j9 => xik hw2.2.1 (o := 11) (j := j9) rfl)
  have hU := hU.keep (cf' := cf) (E' := E1) rfl (fun _ _ => ⟨rfl, rfl⟩) (fun i9 _ t9 _ _ j9 => xik hw1.2.1 (o := 64 * (i9 + 1) + t9) (j := j9) (by first | exact wl_p rfl rfl (by omega) | (simp [wl]; done) | (simp [wl]; omega))) (fun j9 => xik hw2.2.1 (o := 8) (j := j9) rfl) (fun j9 => xik hw2.2.1 (o := 9) (j := j9) rfl)
  have hG := hG.keep (cf' := cf) (E' := E1) rfl (fun i9 j9 _ => xik hw1.2.1 (o := 64 * (i9 + 1) + 14) (j := j9) (by first | exact wl_p rfl rfl (by omega) | (simp [wl]; done) | (simp [wl]; omega))) (fun j9 => xik hw2.2.1 (o := 51) (j := j9) rfl)
  have e0 : (xi (E 1) 0).toInt = (xi (EM 0) 1).toInt := congrArg Int32.toInt hR.now
  have e1 : (xi (E 1) 1).toInt = (xi (EM 0) 8).toInt := congrArg Int32.toInt hR.boats
  have e2 : (xi (E 1) 2).toInt = (xi (EM 0) 48).toInt := congrArg Int32.toInt hR.red
  obtain ⟨q0, q2, q3, q4, q5⟩ := hR.cnt
  have lm : (-1 : Int32).toInt = -1 := rfl
  have l0 : (0 : Int32).toInt = 0 := rfl
  have l1 : (1 : Int32).toInt = 1 := rfl
  have l2 : (2 : Int32).toInt = 2 := rfl
  have lk : (1000 : Int32).toInt = 1000 := rfl
  have el : (xi (E 2) 1).toInt = (xi (EM 0) 16).toInt := by
    have b1 : (0 : Int) ≤ (xi (E 2) 1).toInt ∧ (xi (E 2) 1).toInt ≤ 200 := hI0.iv 2 (mF 2 rfl) rfl (Nat.le_of_ble_eq_true rfl) rfl
    have b2 : (0 : Int) ≤ (xi (EM 0) 16).toInt ∧ (xi (EM 0) 16).toInt ≤ 200 := hM0.iv 0 (Nat.le_of_ble_eq_true rfl) rfl (Nat.le_of_ble_eq_true rfl) rfl
    have h9 := hT9.1
    unfold tN lMn at h9
    rw [tn_, tn_] at h9
    omega
  have hru := hT9.2.2.1
  have hd : r1.toInt = r2.toInt ∧ True := by
    obtain ⟨-, -, u0, u1, u2, u3, u4, u5, u6, u7, u8, u9, u10, u11⟩ := id hw1
    obtain ⟨-, -, v0, v1, v2, v3, v4, v5, v6, v7, v8, v9, v10, v11⟩ := id hw2
    refine ⟨?_, trivial⟩
    rcases (show ¬ (0 ≤ (xs (i + 1).toNatClampNeg).toInt ∧ (xs (i + 1).toNatClampNeg).toInt ≤ 10) ∨ (xs (i + 1).toNatClampNeg).toInt = 0 ∨ (xs (i + 1).toNatClampNeg).toInt = 1 ∨ (xs (i + 1).toNatClampNeg).toInt = 2 ∨ (xs (i + 1).toNatClampNeg).toInt = 3 ∨ (xs (i + 1).toNatClampNeg).toInt = 4 ∨ (xs (i + 1).toNatClampNeg).toInt = 5 ∨ (xs (i + 1).toNatClampNeg).toInt = 6 ∨ (xs (i + 1).toNatClampNeg).toInt = 7 ∨ (xs (i + 1).toNatClampNeg).toInt = 8 ∨ (xs (i + 1).toNatClampNeg).toInt = 9 ∨ (xs (i + 1).toNatClampNeg).toInt = 10 by omega) with z | z | z | z | z | z | z | z | z | z | z | z
    · rw [u11 z, v11 z]
    · have x1 := u0 z; have x2 := v0 z; omega
    · have x1 := u1 z; have x2 := v1 z; omega
    · have x1 := u2 z; have x2 := v2 z; omega
    · have x1 := u3 z; have x2 := v3 z; omega
    · have x1 := u4 z; have x2 := v4 z; omega
    · have x1 := u5 z; have x2 := v5 z; omega
    · have x1 := u6 z; have x2 := v6 z; omega
    · have x1 := u7 z; have x2 := v7 z; omega
    · have x1 := u8 z; have x2 := v8 z; omega
    · have x1 := u9 z; have x2 := v9 z; omega
    · exact cnt_eq hR hG9 bn bb (u10 z) (v10 z)
  have hR := hR.keep hcf k6 k7 k8 hp (kpS hw2.2.1 rfl) (kpR hw2.2.1 rfl)
  refine lv_pop hx hb dL_law_1855 rfl ?_
  refine lv_goto (tgt := 1859) hx hb dL_law_1856 (by decide) ?_
  exact W.widen (k := cn + 7) (n := sn + 3300) (by omega) (by omega) (tail _ _ _ _ _ _ _ _ V ⟨⟨⟨hR, hT⟩, hU⟩, hG⟩ hl)
