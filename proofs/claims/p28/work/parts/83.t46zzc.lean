

/-! ===== what counts, by what was told ===== -/
def ctC (cf : Nat → Nat) (E : Nat → va_E) (b : Nat) (q : Int32) (r : Nat) : Prop := ∃ x : Int32, MdC cf E (nI r) q b x ∧ ¬ x.toInt = -1000000000
def scC (cf : Nat → Nat) (E : Nat → va_E) (b : Nat) (q : Int32) (r : Nat) : Int32 := xi (E (64 * ((lRC E (nI r) (nI b) q (cf 3)).toNatClampNeg + 1) + 12)) 3
def ftC (cf : Nat → Nat) (E : Nat → va_E) (b : Nat) (q : Int32) (v : Int) (r : Nat) (x : Int) : Prop := ∃ m : Int32, MdC cf E (nI r) q b m ∧ ¬ m.toInt = -1000000000 ∧ x = tFt (scC cf E b q r) m v
theorem MdO_iff {cf : Nat → Nat} {E u : Nat → va_E} {q : Int32} {b r : Nat} {x : Int32} (k : K64 E u) (hb : b < 16) (hr : r < 20) (l : ∀ o, o < 16 → LdB cf E u (nI r) q o) : MdO u r b x ↔ MdC cf E (nI r) q b x := by
  have hn : (nI r).toNatClampNeg = r := by
    have h9 : (nI r).toInt = (r : Int) := nI_toInt (by omega)
    rw [tn_, h9]
    omega
  constructor
  · intro h
    rw [← hn] at h
    exact h.c k hb l
  · intro h
    have lf : ∀ o, o < 16 → ((xi (u 43) (16 * r + o)).toInt = 1 ↔ CdR cf E (nI r) q o 0) := fun o ho => by
      have h9 := (l o ho).1
      rw [hn] at h9
      exact h9
    have lt : ∀ o, o < 16 → CdR cf E (nI r) q o 0 → xi (u 46) (16 * r + o) = tmC cf E (nI r) q o := fun o ho z => by
      have h9 := ((l o ho).2 z).1
      rw [hn] at h9
      exact h9
    unfold MdO
    rw [rcS_k k]
    unfold MdC at h
    rw [hn] at h
    exact h.cg (and_congr Iff.rfl (lf b hb).symm) (fun i hi => (lf i hi).symm) (fun i hi z => (lt i hi z).symm)
theorem MdC_ok {cf : Nat → Nat} {E : Nat → va_E} {q : Int32} {b r : Nat} {x : Int32} (h : MdC cf E (nI r) q b x) (hx : ¬ x.toInt = -1000000000) : CdR cf E (nI r) q b 0 := Classical.byContradiction (fun z => hx (h.1 (fun w => z w.2)))
theorem FtR.cg {P P' : Nat → Prop} {F F' : Int → Nat → Int → Prop} {R : Nat} {f : Int} (h : FtR P F R f) (e : ∀ r, r < R → (P r ↔ P' r)) (t : ∀ v r, r < R → P r → ∀ x, F v r x → F' v r x) : FtR P' F' R f := by
  refine ⟨fun z => h.1 (fun r hr hp => z r hr ((e r hr).mp hp)), fun ⟨r, hr, hp⟩ => ?_⟩
  obtain ⟨S, s1, s2, s3, s4⟩ := h.2 ⟨r, hr, (e r hr).mpr hp⟩
  exact ⟨S, fun v h1 h2 => (s1 v h1 h2).cg R _ e (fun r hr hp x hx => t v r hr hp x hx), s2, s3, s4⟩
theorem FtR.c {cf : Nat → Nat} {E u : Nat → va_E} {q : Int32} {b : Nat} {f : Int} (h : FtR (ctO u b) (fun v9 r9 x9 => ∃ m9 : Int32, MdO u r9 b m9 ∧ x9 = tFt (xi (u 44) (16 * r9 + b)) m9 v9) (cf 2) f) (k : K64 E u) (hb : b < 16) (h20 : cf 2 ≤ 20) (l : ∀ r, r < cf 2 → ∀ o, o < 16 → LdB cf E u (nI r) q o) : FtR (ctC cf E b q) (ftC cf E b q) (cf 2) f := by
  refine h.cg (fun r hr => ?_) (fun v r hr hp x hx => ?_)
  · unfold ctO ctC
    exact ⟨fun ⟨x, h1, h2⟩ => ⟨x, (MdO_iff k hb (by omega) (l r hr)).mp h1, h2⟩, fun ⟨x, h1, h2⟩ => ⟨x, (MdO_iff k hb (by omega) (l r hr)).mpr h1, h2⟩⟩
  · obtain ⟨m, h1, h2⟩ := hx
    obtain ⟨y, y1, y2⟩ := hp
    have e : m = y := MdV.fn h1 y1
    subst e
    have c1 := (MdO_iff k hb (by omega) (l r hr)).mp h1
    have hn : (nI r).toNatClampNeg = r := by
      have h9 : (nI r).toInt = (r : Int) := nI_toInt (by omega)
      rw [tn_, h9]
      omega
    have h9 := ((l r hr b hb).2 (MdC_ok c1 y2)).2.2
    rw [hn] at h9
    refine ⟨m, c1, y2, ?_⟩
    rw [h2, h9]
    rfl

def v_u_fitX : List Cond := .code yX12_fit cX12_fit 2 (some .int) :: vA
abbrev rm_u_fitX : Room := { frames := 8, cells := 0, slots := 0, locals := 320 }
def w_u_fitX : Nat → Nat → Bool := wl [19, 20, 26, 27, 28, 29, 30, 43, 44, 45, 46, 47, 48, 49, 51] [(3, 6), (3, 7), (3, 8)]
set_option maxHeartbeats 4000000 in
set_option maxRecDepth 100000 in
theorem q_u_fitX (l : Launch) (dC : Nat → ClassId) (dI : Nat → Nat → Nat) (cT : Nat → ClassId) (cf : Nat → Nat) (hC : CF cf) (ad : Nat → Nat) (E : Nat → va_E) (sz : Nat) (a0 : Int32) (hI0 : IXL cT (shC cf) (spC cf) (LC cf) ad E) (hh0 : RulAll cf E) : Met l yX12_fit v_u_fitX rm_u_fitX (va_Pc [.ref (ad 0), .int a0] (HWL dC dI (TYC cT) cf ad E sz)) (va_Qi (S := Nat → va_E) (fun r u => IXL cT (shC cf) (spC cf) (LC cf) ad u ∧ Kp w_u_fitX E u ∧ (((((0 ≤ a0.toInt ∧ a0.toInt < (xi (E 1) 1).toInt) → (FtR (ctC cf E a0.toNatClampNeg (xi (E 1) 0)) (ftC cf E a0.toNatClampNeg (xi (E 1) 0)) (cf 2) r.toInt)) ∧ (¬ (0 ≤ a0.toInt ∧ a0.toInt < (xi (E 1) 1).toInt) → (r.toInt = -1)))))) (HBL dC dI (LC cf) ad) (va_A (WL (LC cf) ad E) sz)) 0 0 (va_A (WL (LC cf) ad E) sz) := by
  obtain ⟨⟨hc0, hc1, hc2, hc3, hc4, hc5⟩, hcr⟩ := id hC
  refine Met.ofW (cc := cX12_fit) (maxL := 2) (ret := (some .int)) (by decide) rfl ?_
  intro p e s m args below meth c s₁ B hml hv
  obtain ⟨hargs, hsz, hP, hK, hD0, hEV⟩ := hv
  subst hsz
  have hx := B.exec
  have hb := B.bytes
  have hr := B.returns
  have hts := atoms_spec (ws := v_u_fitX) B.pre
  have hown : s.vm.findClass RX12 = some m.cls := findClass_of_methodNamed B.named
  have hlocks := B.notSynchronized
  have hinX12 : ∀ w ∈ u_ws RX12 TX12 6, w ∈ v_u_fitX := fun w h => vA_in _ w (in_X12 w h)
  generalize hAe : va_A (WL (LC cf) ad E) s.heap.size = A at hEV ⊢
  have hA : ∀ q : Nat, s.heap.size ≤ q → A q := fun q h => by rw [← hAe]; exact Or.inr h
  have hD : va_D A (WL (LC cf) ad E) := by rw [← hAe]; exact hD0.self
  have hS : va_S A s.heap s.heap [] := va_S.rf
  have hI := hI0
  have hKp : Kp w_u_fitX E E := Kp.rf
  have hl := lv_entry ([.ref (ad 0), .int a0]) (n := 2) (Nat.le_of_ble_eq_true rfl)
  obtain ⟨Q, hQ⟩ : ∃ Q, Q = MQ below (va_Qi (S := Nat → va_E) (fun r u => IXL cT (shC cf) (spC cf) (LC cf) ad u ∧ Kp w_u_fitX E u ∧ (((((0 ≤ a0.toInt ∧ a0.toInt < (xi (E 1) 1).toInt) → (FtR (ctC cf E a0.toNatClampNeg (xi (E 1) 0)) (ftC cf E a0.toNatClampNeg (xi (E 1) 0)) (cf 2) r.toInt)) ∧ (¬ (0 ≤ a0.toInt ∧ a0.toInt < (xi (E 1) 1).toInt) → (r.toInt = -1)))))) (HBL dC dI (LC cf) ad) (A)) args s 0 0 (A) := ⟨_, rfl⟩
  rw [← hQ, show entryFrame m args 2 = _ from (congrArg (fun z => entryFrame m z 2) hargs).trans (lg_entry_eq _ _ _)]
  generalize (lg_sl ([.ref (ad 0), .int a0]) ++ List.replicate (2 - (lg_sl ([.ref (ad 0), .int a0])).length) Slot.unset).toArray = ls at hl ⊢
  have hl : lv_has ls 2 [(0, .ref (ad 0)), (1, .int a0)] := hl
  refine lv_aload_n hx hb dX12_fit_0 rfl (lv_at hl 0 rfl) ?_
  refine th_getL (ci := 13) (C := RX12) (T := TX12) (N := 6) (v := .ref (ad 1)) hx hb hts hinX12 hown hK hP hI 0 (mF 0 rfl) rfl rfl 0 (Nat.le_of_ble_eq_true rfl) (hts _ (vA_in _ _ (in_10 _ (List.mem_of_getElem? (i := 17) rfl)))) (fun _ h9 => h9) (hI.fr 0 (mF 0 rfl) rfl (Nat.le_of_ble_eq_true rfl) 1 rfl) dX12_fit_1 ?_
  refine lv_iload_n hx hb dX12_fit_4 rfl (lv_at hl 1 rfl) ?_
  refine th_riL (va_runV (As := [.int a0]) (rest := []) ⟨hx, hb, hml, hown, hts⟩ (q_isBoatC l dC dI cT cf hC ad E s.heap.size a0 hI) (cwV 1 hts (gi_V (in_10 _ (List.mem_of_getElem? (i := 27) rfl)) (in_6 _ (List.mem_of_getElem? (i := 12) rfl)) (in_6 _ (List.mem_of_getElem? (i := 13) rfl)) (in_5 _ (List.mem_of_getElem? (i := 6) rfl)) (in_5 _ (List.mem_of_getElem? (i := 38) rfl))) rfl rfl rfl (by decide +kernel) ⟨Nat.le_of_ble_eq_true rfl, Nat.le_of_ble_eq_true rfl⟩) ⟨HWL_bl, va_recv hK hP (ci := 1) (q0 := posL 1 (LC cf)) rfl (hI.ob 1 (mF 1 rfl) rfl), (HWL_wi hP hK (WL_D hD) hS hA hEV)⟩ rfl rfl hl.1 rfl (lv_room (Nat.le_of_ble_eq_true rfl)) dX12_fit_5 ⟨Nat.le_of_ble_eq_true rfl, Nat.le_of_ble_eq_true rfl⟩) hS hP (fun r1 H locs hw hP hS => ?_)
  rcases hw with hw | hw
  · -- isBoatC, case 0
    obtain ⟨rfl, f2, f3⟩ := hw
    have i4 : 0 ≤ (xi (E 1) 1).toInt ∧ (xi (E 1) 1).toInt ≤ 16 := hI0.iv 1 (mF 1 rfl) rfl (Nat.le_of_ble_eq_true rfl) rfl
    refine lv_if_ne (tgt := 13) hx hb dX12_fit_8 (by decide) (fun c5 => ?_) (fun c5 => ?_)
    · --8 taken
      refine lv_aload_n hx hb dX12_fit_13 rfl (lv_at hl 0 rfl) ?_
      refine th_getL (ci := 13) (C := RX12) (T := TX12) (N := 6) (v := .ref (ad 6)) hx hb hts hinX12 hown hK hP hI 0 (mF 0 rfl) rfl rfl 5 (Nat.le_of_ble_eq_true rfl) (hts _ (vA_in _ _ (in_11 _ (List.mem_of_getElem? (i := 8) rfl)))) (fun _ h9 => h9) (hI.fr 0 (mF 0 rfl) rfl (Nat.le_of_ble_eq_true rfl) 6 rfl) dX12_fit_14 ?_
      refine th_vL (va_runV (As := []) (rest := []) ⟨hx, hb, hml, hown, hts⟩ (q_loadAllX l dC dI cT cf hC ad E H.size hI (by exact hh0)) (cwV 0 hts (gi_V (in_11 _ (List.mem_of_getElem? (i := 12) rfl)) (in_11 _ (List.mem_of_getElem? (i := 13) rfl)) (in_11 _ (List.mem_of_getElem? (i := 14) rfl)) (in_11 _ (List.mem_of_getElem? (i := 15) rfl)) (in_11 _ (List.mem_of_getElem? (i := 16) rfl))) rfl rfl rfl (by decide +kernel) ⟨Nat.le_of_ble_eq_true rfl, Nat.le_of_ble_eq_true rfl⟩) ⟨HWL_bl, va_recv hK hP (ci := 4) (q0 := posL 6 (LC cf)) rfl (hI.ob 6 (mF 6 rfl) rfl), (HWL_wi hP hK (WL_D hD) hS hA hEV)⟩ rfl rfl hl.1 rfl (lv_room (Nat.le_of_ble_eq_true rfl)) dX12_fit_17 ⟨Nat.le_of_ble_eq_true rfl, Nat.le_of_ble_eq_true rfl⟩) (WL_D hD) hS hA (fun E7 H locs hw hP hS => ?_)
      obtain ⟨hI, kq8, hw⟩ := hw
      have hKb := hKp
      have hKp := hKp.tr kq8 (wl_sub rfl rfl)
      have f9 := hw
      have i10 : 0 ≤ (xi (E 1) 0).toInt ∧ (xi (E 1) 0).toInt ≤ 400 := hI0.iv 1 (mF 1 rfl) rfl (Nat.le_of_ble_eq_true rfl) rfl
      refine lv_aload_n hx hb dX12_fit_20 rfl (lv_at hl 0 rfl) ?_
      refine th_getL (ci := 13) (C := RX12) (T := TX12) (N := 6) (v := .ref (ad 6)) hx hb hts hinX12 hown hK hP hI 0 (mF 0 rfl) rfl rfl 5 (Nat.le_of_ble_eq_true rfl) (hts _ (vA_in _ _ (in_11 _ (List.mem_of_getElem? (i := 8) rfl)))) (fun _ h9 => h9) (hI.fr 0 (mF 0 rfl) rfl (Nat.le_of_ble_eq_true rfl) 6 rfl) dX12_fit_21 ?_
      refine lv_iload_n hx hb dX12_fit_24 rfl (lv_at hl 1 rfl) ?_
      refine th_iL (va_runV (As := [.int a0]) (rest := []) ⟨hx, hb, hml, hown, hts⟩ (q_fitOfX l dC dI cT cf hC ad E7 H.size a0 hI f3) (cwV 1 hts (gi_V (in_18 _ (List.mem_of_getElem? (i := 18) rfl)) (in_17 _ (List.mem_of_getElem? (i := 7) rfl)) (in_17 _ (List.mem_of_getElem? (i := 8) rfl)) (in_11 _ (List.mem_of_getElem? (i := 15) rfl)) (in_17 _ (List.mem_of_getElem? (i := 9) rfl))) rfl rfl rfl (by decide +kernel) ⟨Nat.le_of_ble_eq_true rfl, Nat.le_of_ble_eq_true rfl⟩) ⟨HWL_bl, va_recv hK hP (ci := 4) (q0 := posL 6 (LC cf)) rfl (hI.ob 6 (mF 6 rfl) rfl), (HWL_wi hP hK (WL_D hD) hS hA hEV)⟩ rfl rfl hl.1 rfl (lv_room (Nat.le_of_ble_eq_true rfl)) dX12_fit_25 ⟨Nat.le_of_ble_eq_true rfl, Nat.le_of_ble_eq_true rfl⟩) (WL_D hD) hS hA (fun r11 E12 H locs hw hP hS => ?_)
      obtain ⟨hI, kq13, hw⟩ := hw
      have hKb := hKp
      have hKp := hKp.tr kq13 (wl_sub rfl rfl)
      obtain ⟨f14, f15⟩ := hw
      rw [hQ]
      exact W.iret (v := r11) hx hb hr (fun t ht hW => ⟨⟨r11, E12, rfl, ⟨hI, hKp, ⟨fun _ => FtR.c f15 (K64.of hKb (fun o9 ho9 j9 => wl_p rfl rfl ho9)) (by rw [tn_]; omega) (by omega) f9, fun g9 => by exfalso; omega⟩⟩, by show va_P (dC, dI) vwCl (WL (LC cf) ad E12) t.heap; rw [ht]; exact hP⟩, hS.F ht⟩) hS.2.2 dX12_fit_28
    · --8 not
      exact absurd c5 (by decide)
  · -- isBoatC, case 1
    obtain ⟨rfl, f16⟩ := hw
    have i17 : 0 ≤ (xi (E 1) 1).toInt ∧ (xi (E 1) 1).toInt ≤ 16 := hI0.iv 1 (mF 1 rfl) rfl (Nat.le_of_ble_eq_true rfl) rfl
    refine lv_if_ne (tgt := 13) hx hb dX12_fit_8 (by decide) (fun c18 => ?_) (fun c18 => ?_)
    · --8 taken
      exact absurd c18 (by decide)
    · --8 not
      refine lv_iconst (v := -1) hx hb dX12_fit_11 (by decide) ?_
      rw [hQ]
      exact W.iret (v := (-1)) hx hb hr (fun t ht hW => ⟨⟨(-1), E, rfl, ⟨hI, hKp, ⟨fun g9 => by exfalso; omega, fun _ => rfl⟩⟩, by show va_P (dC, dI) vwCl (WL (LC cf) ad E) t.heap; rw [ht]; exact hP⟩, hS.F ht⟩) hS.2.2 dX12_fit_12
