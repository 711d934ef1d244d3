

def v_boundX : List Cond := .code yX13_bound cX13_bound 2 (some .int) :: vA
abbrev rm_boundX : Room := { frames := 1, cells := 0, slots := 0, locals := 40 }
set_option maxHeartbeats 4000000 in
set_option maxRecDepth 100000 in
theorem q_boundX (l : Launch) (b0 : Int64)  : Met l yX13_bound v_boundX rm_boundX (va_Pc [.long b0] (fun _ => True)) (va_Qi (S := Unit) (fun r _ => (r.toInt = max (-10000000) (min 10000000 b0.toInt))) (fun _ _ => True) (fun _ => False)) 0 0 (fun _ => False) := by
  refine Met.ofW (cc := cX13_bound) (maxL := 2) (ret := (some .int)) (by decide) rfl ?_
  intro p e s m args below meth c s₁ B hml hv
  obtain ⟨hargs, -⟩ := hv
  have hx := B.exec
  have hb := B.bytes
  have hr := B.returns
  have hts := atoms_spec (ws := v_boundX) B.pre
  have hown : s.vm.findClass RX13 = some m.cls := findClass_of_methodNamed B.named
  have hlocks := B.notSynchronized
  have hS : va_S (fun _ : Nat => False) s.heap s.heap [] := va_S.rf
  have hl := lv_entry ([.long b0]) (n := 2) (Nat.le_of_ble_eq_true rfl)
  obtain ⟨Q, hQ⟩ : ∃ Q, Q = MQ below (va_Qi (S := Unit) (fun r _ => (r.toInt = max (-10000000) (min 10000000 b0.toInt))) (fun _ _ => True) (fun _ => False)) args s 0 0 (fun _ => False) := ⟨_, rfl⟩
  rw [← hQ, show entryFrame m args 2 = _ from (congrArg (fun z => entryFrame m z 2) hargs).trans (lg_entry_eq _ _ _)]
  generalize (lg_sl ([.long b0]) ++ List.replicate (2 - (lg_sl ([.long b0])).length) Slot.unset).toArray = ls at hl ⊢
  have hl : lv_has ls 2 [(0, .long b0)] := hl
  refine lv_ldc2 hx hb hown (hts _ (vA_in _ _ (in_26 _ (zs16 (zs16 (zs1 (zs1 (zs0)))))))) dX13_bound_0 ?_
  refine lv_topl (fun y1 ey1 => ?_)
  refine lv_ldc2 hx hb hown (hts _ (vA_in _ _ (in_26 _ (zs16 (zs16 (zs1 (zs1 (zs1 (zs0))))))))) dX13_bound_3 ?_
  refine lv_topl (fun y2 ey2 => ?_)
  refine lv_lload_n hx hb dX13_bound_6 rfl (lv_at hl 0 rfl) ?_
  refine va_mmin_long hx hb (by rw [hml]; exact hl.1.symm) hown (hts _ (vA_in _ _ (in_26 _ (zs16 (zs16 (zs4 (zs0))))))) (hts _ (vA_in _ _ (in_26 _ (zs16 (zs16 (zs4 (zs1 (zs0)))))))) (hts _ (vA_in _ _ (in_0 _ (zs16 (zs16 (zs1 (zs0))))))) (hts _ (vA_in _ _ (in_26 _ (zs16 (zs16 (zs4 (zs1 (zs1 (zs0))))))))) (Nat.le_of_ble_eq_true rfl) (Nat.le_of_ble_eq_true rfl) (Nat.le_of_ble_eq_true rfl) (Nat.le_of_ble_eq_true rfl) dX13_bound_7 ?_
  refine lv_topl (fun y3 ey3 => ?_)
  refine va_mmax_long hx hb (by rw [hml]; exact hl.1.symm) hown (hts _ (vA_in _ _ (in_26 _ (zs16 (zs16 (zs4 (zs1 (zs1 (zs1 (zs0)))))))))) (hts _ (vA_in _ _ (in_27 _ zs0))) (hts _ (vA_in _ _ (in_0 _ (zs16 (zs16 (zs1 (zs0))))))) (hts _ (vA_in _ _ (in_27 _ (zs1 (zs0))))) (Nat.le_of_ble_eq_true rfl) (Nat.le_of_ble_eq_true rfl) (Nat.le_of_ble_eq_true rfl) (Nat.le_of_ble_eq_true rfl) dX13_bound_10 ?_
  refine lv_topl (fun y4 ey4 => ?_)
  refine lv_l2i hx hb dX13_bound_13 rfl ?_
  refine lv_topi (fun y5 ey5 => ?_)
  rw [hQ]
  exact W.iret (v := y5) hx hb hr (fun t ht hW => ⟨⟨y5, (), rfl, bnd ey1 ey2 ey3 ey4 ey5, trivial⟩, hS.F ht⟩) hS.2.2 dX13_bound_14
def v_atomW : List Cond := .code yX13_atom cX13_atom 4 (some .int) :: vA
abbrev rm_atomW (n : Nat) : Room := { frames := 7 * n + 5, cells := 0, slots := 0, locals := 40 * (7 * n + 5) }
def w_atomW : Nat → Nat → Bool := wl [] [(0, 21), (0, 22), (0, 23)]
def C_atomW (l : Launch) (n : Nat) : Prop := ∀ (dC : Nat → ClassId) (dI : Nat → Nat → Nat) (cT : Nat → ClassId) (ad : Nat → Nat) (E : Nat → va_E) (sz : Nat) (k : Nat) (nl : Nat) (hI0 : IX cT shM spM 72 ad E) (hh0 : k < 72) (hh1 : shM k = (1, 1, nl)) (hh2 : ∀ j, spM k j = (0, -128, 127)) (hh3 : xv (E 0) 18 = .ref (ad k)) (hh4 : (xi (E 0) 19).toInt + 200 ≤ (nl : Int)) (hh5 : (xi (E 0) 23).toInt + (n : Int) = 8) (hh6 : (xi (E 0) 22).toInt = -1), Met l yX13_atom v_atomW (rm_atomW n) (va_Pc [.ref (ad 0)] (HW dC dI (TYM cT) 72 ad E sz)) (va_Qi (S := Nat → va_E) (fun r u => IX cT shM spM 72 ad u ∧ Kp w_atomW E u ∧ (((xi (E 0) 21).toInt ≤ (xi (u 0) 21).toInt) ∧ ((xi (E 0) 23).toInt ≤ (xi (u 0) 23).toInt) ∧ ((xi (u 0) 22).toInt = -1 → (xi (u 0) 23).toInt = (xi (E 0) 23).toInt) ∧ ((xi (u 0) 22).toInt = -1 → (xi (E 0) 22).toInt = -1) ∧ (RdM k (fun t m a => atomS true t m n a) E u) ∧ (RdW k [] (fun t m a => atomS true t m n a) E u r))) (HB dC dI 72 ad) (va_A (WX 72 ad E) sz)) 0 0 (va_A (WX 72 ad E) sz)
def v_termW : List Cond := .code yX13_term cX13_term 5 (some .int) :: vA
abbrev rm_termW (n : Nat) : Room := { frames := 7 * n + 6, cells := 0, slots := 0, locals := 40 * (7 * n + 6) }
def w_termW : Nat → Nat → Bool := wl [] [(0, 21), (0, 22), (0, 23)]
def C_termW (l : Launch) (n : Nat) : Prop := ∀ (dC : Nat → ClassId) (dI : Nat → Nat → Nat) (cT : Nat → ClassId) (ad : Nat → Nat) (E : Nat → va_E) (sz : Nat) (k : Nat) (nl : Nat) (hI0 : IX cT shM spM 72 ad E) (hh0 : k < 72) (hh1 : shM k = (1, 1, nl)) (hh2 : ∀ j, spM k j = (0, -128, 127)) (hh3 : xv (E 0) 18 = .ref (ad k)) (hh4 : (xi (E 0) 19).toInt + 200 ≤ (nl : Int)) (hh5 : (xi (E 0) 23).toInt + (n : Int) = 8) (hh6 : (xi (E 0) 22).toInt = -1), Met l yX13_term v_termW (rm_termW n) (va_Pc [.ref (ad 0)] (HW dC dI (TYM cT) 72 ad E sz)) (va_Qi (S := Nat → va_E) (fun r u => IX cT shM spM 72 ad u ∧ Kp w_termW E u ∧ (((xi (E 0) 21).toInt ≤ (xi (u 0) 21).toInt) ∧ ((xi (E 0) 23).toInt ≤ (xi (u 0) 23).toInt) ∧ ((xi (u 0) 22).toInt = -1 → (xi (u 0) 23).toInt = (xi (E 0) 23).toInt) ∧ ((xi (u 0) 22).toInt = -1 → (xi (E 0) 22).toInt = -1) ∧ (RdM k (fun t m a => termS true t m n a) E u) ∧ (RdW k [] (fun t m a => termS true t m n a) E u r))) (HB dC dI 72 ad) (va_A (WX 72 ad E) sz)) 0 0 (va_A (WX 72 ad E) sz)
def v_sumW : List Cond := .code yX13_sum cX13_sum 5 (some .int) :: vA
abbrev rm_sumW (n : Nat) : Room := { frames := 7 * n + 7, cells := 0, slots := 0, locals := 40 * (7 * n + 7) }
def w_sumW : Nat → Nat → Bool := wl [] [(0, 21), (0, 22), (0, 23)]
def C_sumW (l : Launch) (n : Nat) : Prop := ∀ (dC : Nat → ClassId) (dI : Nat → Nat → Nat) (cT : Nat → ClassId) (ad : Nat → Nat) (E : Nat → va_E) (sz : Nat) (k : Nat) (nl : Nat) (hI0 : IX cT shM spM 72 ad E) (hh0 : k < 72) (hh1 : shM k = (1, 1, nl)) (hh2 : ∀ j, spM k j = (0, -128, 127)) (hh3 : xv (E 0) 18 = .ref (ad k)) (hh4 : (xi (E 0) 19).toInt + 200 ≤ (nl : Int)) (hh5 : (xi (E 0) 23).toInt + (n : Int) = 8) (hh6 : (xi (E 0) 22).toInt = -1), Met l yX13_sum v_sumW (rm_sumW n) (va_Pc [.ref (ad 0)] (HW dC dI (TYM cT) 72 ad E sz)) (va_Qi (S := Nat → va_E) (fun r u => IX cT shM spM 72 ad u ∧ Kp w_sumW E u ∧ (((xi (E 0) 21).toInt ≤ (xi (u 0) 21).toInt) ∧ ((xi (E 0) 23).toInt ≤ (xi (u 0) 23).toInt) ∧ ((xi (u 0) 22).toInt = -1 → (xi (u 0) 23).toInt = (xi (E 0) 23).toInt) ∧ ((xi (u 0) 22).toInt = -1 → (xi (E 0) 22).toInt = -1) ∧ (RdM k (fun t m a => sumS true t m n a) E u) ∧ (RdW k [] (fun t m a => sumS true t m n a) E u r))) (HB dC dI 72 ad) (va_A (WX 72 ad E) sz)) 0 0 (va_A (WX 72 ad E) sz)
def v_comparesW : List Cond := .code yX13_compares cX13_compares 6 (some .boolean) :: vA
abbrev rm_comparesW (n : Nat) : Room := { frames := 7 * n + 8, cells := 0, slots := 0, locals := 40 * (7 * n + 8) }
def w_comparesW : Nat → Nat → Bool := wl [] [(0, 21), (0, 22), (0, 23)]
def C_comparesW (l : Launch) (n : Nat) : Prop := ∀ (dC : Nat → ClassId) (dI : Nat → Nat → Nat) (cT : Nat → ClassId) (ad : Nat → Nat) (E : Nat → va_E) (sz : Nat) (a0 : Int32) (a1 : Int32) (k : Nat) (nl : Nat) (hI0 : IX cT shM spM 72 ad E) (hh0 : k < 72) (hh1 : shM k = (1, 1, nl)) (hh2 : ∀ j, spM k j = (0, -128, 127)) (hh3 : xv (E 0) 18 = .ref (ad k)) (hh4 : (xi (E 0) 19).toInt + 200 ≤ (nl : Int)) (hh5 : (xi (E 0) 23).toInt + (n : Int) = 8) (hh6 : (xi (E 0) 22).toInt = -1) (hh7 : 0 ≤ a0.toInt ∧ a0.toInt ≤ 1), Met l yX13_compares v_comparesW (rm_comparesW n) (va_Pc [.ref (ad 0), .int a0, .int a1] (HW dC dI (TYM cT) 72 ad E sz)) (va_Qi (S := Nat → va_E) (fun r u => IX cT shM spM 72 ad u ∧ Kp w_comparesW E u ∧ ((0 ≤ r.toInt ∧ r.toInt ≤ 1) ∧ ((xi (E 0) 21).toInt ≤ (xi (u 0) 21).toInt) ∧ ((xi (E 0) 23).toInt ≤ (xi (u 0) 23).toInt) ∧ ((xi (u 0) 22).toInt = -1 → (xi (u 0) 23).toInt = (xi (E 0) 23).toInt) ∧ ((xi (u 0) 22).toInt = -1 → (xi (E 0) 22).toInt = -1) ∧ (RdM k (cpX a0 n) E u) ∧ (RdW k (pr a0 a1) (cpX a0 n) E u r))) (HB dC dI 72 ad) (va_A (WX 72 ad E) sz)) 0 0 (va_A (WX 72 ad E) sz)
def v_unitW : List Cond := .code yX13_unit cX13_unit 3 (some .boolean) :: vA
abbrev rm_unitW (n : Nat) : Room := { frames := 7 * n + 9, cells := 0, slots := 0, locals := 40 * (7 * n + 9) }
def w_unitW : Nat → Nat → Bool := wl [] [(0, 21), (0, 22), (0, 23)]
def C_unitW (l : Launch) (n : Nat) : Prop := ∀ (dC : Nat → ClassId) (dI : Nat → Nat → Nat) (cT : Nat → ClassId) (ad : Nat → Nat) (E : Nat → va_E) (sz : Nat) (k : Nat) (nl : Nat) (hI0 : IX cT shM spM 72 ad E) (hh0 : k < 72) (hh1 : shM k = (1, 1, nl)) (hh2 : ∀ j, spM k j = (0, -128, 127)) (hh3 : xv (E 0) 18 = .ref (ad k)) (hh4 : (xi (E 0) 19).toInt + 200 ≤ (nl : Int)) (hh5 : (xi (E 0) 23).toInt + (n : Int) = 8) (hh6 : (xi (E 0) 22).toInt = -1), Met l yX13_unit v_unitW (rm_unitW n) (va_Pc [.ref (ad 0)] (HW dC dI (TYM cT) 72 ad E sz)) (va_Qi (S := Nat → va_E) (fun r u => IX cT shM spM 72 ad u ∧ Kp w_unitW E u ∧ ((0 ≤ r.toInt ∧ r.toInt ≤ 1) ∧ ((xi (E 0) 21).toInt ≤ (xi (u 0) 21).toInt) ∧ ((xi (E 0) 23).toInt ≤ (xi (u 0) 23).toInt) ∧ ((xi (u 0) 22).toInt = -1 → (xi (u 0) 23).toInt = (xi (E 0) 23).toInt) ∧ ((xi (u 0) 22).toInt = -1 → (xi (E 0) 22).toInt = -1) ∧ (RdM k (unY 0 n) E u) ∧ (RdW k [] (unY 0 n) E u r))) (HB dC dI 72 ad) (va_A (WX 72 ad E) sz)) 0 0 (va_A (WX 72 ad E) sz)
def v_partW : List Cond := .code yX13_part cX13_part 5 (some .boolean) :: vA
abbrev rm_partW (n : Nat) : Room := { frames := 7 * n + 10, cells := 0, slots := 0, locals := 40 * (7 * n + 10) }
def w_partW : Nat → Nat → Bool := wl [] [(0, 21), (0, 22), (0, 23)]
def C_partW (l : Launch) (n : Nat) : Prop := ∀ (dC : Nat → ClassId) (dI : Nat → Nat → Nat) (cT : Nat → ClassId) (ad : Nat → Nat) (E : Nat → va_E) (sz : Nat) (a0 : Int32) (a1 : Int32) (k : Nat) (nl : Nat) (hI0 : IX cT shM spM 72 ad E) (hh0 : k < 72) (hh1 : shM k = (1, 1, nl)) (hh2 : ∀ j, spM k j = (0, -128, 127)) (hh3 : xv (E 0) 18 = .ref (ad k)) (hh4 : (xi (E 0) 19).toInt + 200 ≤ (nl : Int)) (hh5 : (xi (E 0) 23).toInt + (n : Int) = 8) (hh6 : (xi (E 0) 22).toInt = -1) (hh7 : 0 ≤ a0.toInt ∧ a0.toInt ≤ 1), Met l yX13_part v_partW (rm_partW n) (va_Pc [.ref (ad 0), .int a0, .int a1] (HW dC dI (TYM cT) 72 ad E sz)) (va_Qi (S := Nat → va_E) (fun r u => IX cT shM spM 72 ad u ∧ Kp w_partW E u ∧ ((0 ≤ r.toInt ∧ r.toInt ≤ 1) ∧ ((xi (E 0) 21).toInt ≤ (xi (u 0) 21).toInt) ∧ ((xi (E 0) 23).toInt ≤ (xi (u 0) 23).toInt) ∧ ((xi (u 0) 22).toInt = -1 → (xi (u 0) 23).toInt = (xi (E 0) 23).toInt) ∧ ((xi (u 0) 22).toInt = -1 → (xi (E 0) 22).toInt = -1) ∧ (RdM k (paY a0 n) E u) ∧ (RdW k (pr a0 a1) (paY a0 n) E u r))) (HB dC dI 72 ad) (va_A (WX 72 ad E) sz)) 0 0 (va_A (WX 72 ad E) sz)
def v_conditionW : List Cond := .code yX13_condition cX13_condition 5 (some .boolean) :: vA
abbrev rm_conditionW (n : Nat) : Room := { frames := 7 * n + 11, cells := 0, slots := 0, locals := 40 * (7 * n + 11) }
def w_conditionW : Nat → Nat → Bool := wl [] [(0, 21), (0, 22), (0, 23)]
def C_conditionW (l : Launch) (n : Nat) : Prop := ∀ (dC : Nat → ClassId) (dI : Nat → Nat → Nat) (cT : Nat → ClassId) (ad : Nat → Nat) (E : Nat → va_E) (sz : Nat) (a0 : Int32) (a1 : Int32) (k : Nat) (nl : Nat) (hI0 : IX cT shM spM 72 ad E) (hh0 : k < 72) (hh1 : shM k = (1, 1, nl)) (hh2 : ∀ j, spM k j = (0, -128, 127)) (hh3 : xv (E 0) 18 = .ref (ad k)) (hh4 : (xi (E 0) 19).toInt + 200 ≤ (nl : Int)) (hh5 : (xi (E 0) 23).toInt + (n : Int) = 8) (hh6 : (xi (E 0) 22).toInt = -1) (hh7 : 0 ≤ a0.toInt ∧ a0.toInt ≤ 1), Met l yX13_condition v_conditionW (rm_conditionW n) (va_Pc [.ref (ad 0), .int a0, .int a1] (HW dC dI (TYM cT) 72 ad E sz)) (va_Qi (S := Nat → va_E) (fun r u => IX cT shM spM 72 ad u ∧ Kp w_conditionW E u ∧ ((0 ≤ r.toInt ∧ r.toInt ≤ 1) ∧ ((xi (E 0) 21).toInt ≤ (xi (u 0) 21).toInt) ∧ ((xi (E 0) 23).toInt ≤ (xi (u 0) 23).toInt) ∧ ((xi (u 0) 22).toInt = -1 → (xi (u 0) 23).toInt = (xi (E 0) 23).toInt) ∧ ((xi (u 0) 22).toInt = -1 → (xi (E 0) 22).toInt = -1) ∧ (RdM k (coY a0 n) E u) ∧ (RdW k (pr a0 a1) (coY a0 n) E u r))) (HB dC dI 72 ad) (va_A (WX 72 ad E) sz)) 0 0 (va_A (WX 72 ad E) sz)
set_option maxHeartbeats 4000000 in
set_option maxRecDepth 100000 in
theorem q_atomW (l : Launch) (n : Nat) (gSum : ∀ k, k < n → C_sumW l k) : C_atomW l n := by
  intro dC dI cT ad E sz k nl hI0 hh0 hh1 hh2 hh3 hh4 hh5 hh6
  refine Met.ofW (cc := cX13_atom) (maxL := 4) (ret := (some .int)) (by decide) rfl ?_
  intro p e s m args below meth c s₁ B hml hv
  obtain ⟨hargs, hsz, hP, hK, hD0, hEV⟩ := hv
  subst hsz
  have hx := B.exec
  have hb := B.bytes
  have hr := B.returns
  have hts := atoms_spec (ws := v_atomW) B.pre
  have hown : s.vm.findClass RX13 = some m.cls := findClass_of_methodNamed B.named
  have hlocks := B.notSynchronized
  have hinX13 : ∀ w ∈ u_ws RX13 TX13 97, w ∈ v_atomW := fun w h => vA_in _ w (in_X13 w h)
  generalize hAe : va_A (WX 72 ad E) s.heap.size = A at hEV ⊢
  have hA : ∀ q : Nat, s.heap.size ≤ q → A q := fun q h => by rw [← hAe]; exact Or.inr h
  have hD : va_D A (WX 72 ad E) := by rw [← hAe]; exact hD0.self
  have hS : va_S A s.heap s.heap [] := va_S.rf
  have hI := hI0
  have hKp : Kp w_atomW E E := Kp.rf
  have hl := lv_entry ([.ref (ad 0)]) (n := 4) (Nat.le_of_ble_eq_true rfl)
  obtain ⟨Q, hQ⟩ : ∃ Q, Q = MQ below (va_Qi (S := Nat → va_E) (fun r u => IX cT shM spM 72 ad u ∧ Kp w_atomW E u ∧ (((xi (E 0) 21).toInt ≤ (xi (u 0) 21).toInt) ∧ ((xi (E 0) 23).toInt ≤ (xi (u 0) 23).toInt) ∧ ((xi (u 0) 22).toInt = -1 → (xi (u 0) 23).toInt = (xi (E 0) 23).toInt) ∧ ((xi (u 0) 22).toInt = -1 → (xi (E 0) 22).toInt = -1) ∧ (RdM k (fun t m a => atomS true t m n a) E u) ∧ (RdW k [] (fun t m a => atomS true t m n a) E u r))) (HB dC dI 72 ad) (A)) args s 0 0 (A) := ⟨_, rfl⟩
  rw [← hQ, show entryFrame m args 4 = _ from (congrArg (fun z => entryFrame m z 4) hargs).trans (lg_entry_eq _ _ _)]
  generalize (lg_sl ([.ref (ad 0)]) ++ List.replicate (4 - (lg_sl ([.ref (ad 0)])).length) Slot.unset).toArray = ls at hl ⊢
  have hl : lv_has ls 4 [(0, .ref (ad 0))] := hl
  obtain ⟨y1, ey1⟩ : ∃ y, xi (E 0) 21 = y := ⟨_, rfl⟩
  have fy1 : xv (E 0) 21 = .int y1 := (hI.fi 0 (Nat.le_of_ble_eq_true rfl) rfl (Nat.le_of_ble_eq_true rfl) rfl).trans (congrArg Value.int ey1)
  have iy1 : 0 ≤ y1.toInt ∧ y1.toInt ≤ 201 := by rw [← ey1]; exact hI.iv 0 (Nat.le_of_ble_eq_true rfl) rfl (Nat.le_of_ble_eq_true rfl) rfl
  obtain ⟨y2, ey2⟩ : ∃ y, xi (E 0) 22 = y := ⟨_, rfl⟩
  have fy2 : xv (E 0) 22 = .int y2 := (hI.fi 0 (Nat.le_of_ble_eq_true rfl) rfl (Nat.le_of_ble_eq_true rfl) rfl).trans (congrArg Value.int ey2)
  have iy2 : -1 ≤ y2.toInt ∧ y2.toInt ≤ 201 := by rw [← ey2]; exact hI.iv 0 (Nat.le_of_ble_eq_true rfl) rfl (Nat.le_of_ble_eq_true rfl) rfl
  rw [ey2] at hh6
  obtain ⟨y3, ey3⟩ : ∃ y, xi (E 0) 23 = y := ⟨_, rfl⟩
  have fy3 : xv (E 0) 23 = .int y3 := (hI.fi 0 (Nat.le_of_ble_eq_true rfl) rfl (Nat.le_of_ble_eq_true rfl) rfl).trans (congrArg Value.int ey3)
  have iy3 : 0 ≤ y3.toInt ∧ y3.toInt ≤ 8 := by rw [← ey3]; exact hI.iv 0 (Nat.le_of_ble_eq_true rfl) rfl (Nat.le_of_ble_eq_true rfl) rfl
  rw [ey3] at hh5
  have hk0 : ¬ k = 0 := fun q9 => by rw [q9] at hh1; exact absurd (show (shM 0).1 = 1 from congrArg Prod.fst hh1) (by decide)
  refine lv_aload_n hx hb dX13_atom_0 rfl (lv_at hl 0 rfl) ?_
  refine th_i (va_runV (As := []) (rest := []) ⟨hx, hb, hml, hown, hts⟩ (q_lookX l dC dI cT ad E s.heap.size k nl hI (by exact hh0) (by exact hh1) (by exact hh2) (by exact hh3) (by exact hh4)) (cwV 0 hts (gi_V (in_26 _ (zs1 (zs1 (zs0)))) (in_26 _ (zs1 (zs1 (zs1 (zs0))))) (in_26 _ (zs4 (zs0))) (in_24 _ (zs4 (zs4 (zs4 (zs1 (zs1 (zs1 (zs0)))))))) (in_26 _ (zs4 (zs1 (zs0))))) rfl rfl rfl ⟨rfl, hz_yX13_look_0⟩ ⟨(show 0 + 1 ≤ 7 * n + 5 from nl_1 (Nat.le_of_ble_eq_true rfl)), (show 8 + (1 + 11) + 40 * (0) ≤ 40 * (7 * n + 5) from nl_2 (Nat.le_of_ble_eq_true rfl))⟩) ⟨HW_bl, va_recv hK hP (ci := 14) (q0 := 0) rfl (hI.ob 0 (Nat.le_of_ble_eq_true rfl) rfl), (HW_wi hP hK (WX_D hD) hS hA hEV)⟩ rfl rfl hl.1 rfl (lv_room (Nat.le_of_ble_eq_true rfl)) dX13_atom_1 ⟨Nat.le_of_ble_eq_true rfl, Nat.le_of_ble_eq_true rfl⟩) (WX_D hD) hS hA (fun r4 E5 H locs hw hP hS => ?_)
  obtain ⟨hI, kq6, hw⟩ := hw
  have hKb := hKp
  have hKp := hKp.tr kq6 (wl_sub rfl rfl)
  obtain ⟨y7, ey7⟩ : ∃ y, xi (E5 0) 21 = y := ⟨_, rfl⟩
  have fy7 : xv (E5 0) 21 = .int y7 := (hI.fi 0 (Nat.le_of_ble_eq_true rfl) rfl (Nat.le_of_ble_eq_true rfl) rfl).trans (congrArg Value.int ey7)
  have iy7 : 0 ≤ y7.toInt ∧ y7.toInt ≤ 201 := by rw [← ey7]; exact hI.iv 0 (Nat.le_of_ble_eq_true rfl) rfl (Nat.le_of_ble_eq_true rfl) rfl
  obtain ⟨f8, f9, f10, f11, f12⟩ := hw
  have i13 : 0 ≤ (xi (E 0) 19).toInt ∧ (xi (E 0) 19).toInt ≤ 3000 := (show 0 ≤ (xi (E 0) 19).toInt ∧ (xi (E 0) 19).toInt ≤ 3000 from hI0.iv 0 (Nat.le_of_ble_eq_true rfl) rfl (Nat.le_of_ble_eq_true rfl) rfl)
  have i14 : 0 ≤ (xi (E 0) 20).toInt ∧ (xi (E 0) 20).toInt ≤ 200 := (show 0 ≤ (xi (E 0) 20).toInt ∧ (xi (E 0) 20).toInt ≤ 200 from hI0.iv 0 (Nat.le_of_ble_eq_true rfl) rfl (Nat.le_of_ble_eq_true rfl) rfl)
  try rw [(show xi (E 0) 21 = y1 from vi_e fy1)] at f9
  try rw [(show xi (E5 0) 21 = y7 from vi_e fy7)] at f9
  try rw [(show xi (E 0) 21 = y1 from vi_e fy1)] at f10
  try rw [(show xi (E5 0) 21 = y7 from vi_e fy7)] at f10
  try rw [(show xi (E 0) 21 = y1 from vi_e fy1)] at f11
  try rw [(show xi (E5 0) 21 = y7 from vi_e fy7)] at f11
  refine lv_istore_n (lv' := [(1, .int r4), (0, .ref (ad 0))]) hx hb dX13_atom_4 rfl hl (by decide) rfl (fun ls hl => ?_)
  refine lv_iload_n hx hb dX13_atom_5 rfl (lv_at hl 0 rfl) ?_
  refine lv_iconst (v := -1) hx hb dX13_atom_6 (by decide) ?_
  refine lv_icmp_eq (tgt := 37) hx hb dX13_atom_7 (by decide) (fun c15 => ?_) (fun c15 => ?_)
  · --7 taken
    have t16 : r4.toInt = -1 := ti_eq c15
    have i17 : -1 ≤ r4.toInt ∧ r4.toInt ≤ -1 := iv_eqi t16 f8 (il_ (-1)) (by decide)
    refine lv_iload_n hx hb dX13_atom_37 rfl (lv_at hl 0 rfl) ?_
    refine lv_bipush (v := 91) hx hb dX13_atom_38 (by decide) ?_
    refine lv_icmp_ne (tgt := 80) hx hb dX13_atom_40 (by decide) (fun c18 => ?_) (fun c18 => ?_)
    · --40 taken
      have t19 : ¬ r4.toInt = 91 := ti_ne c18
      refine lv_aload_n hx hb dX13_atom_80 rfl (lv_at hl 1 rfl) ?_
      refine th_ri (va_runV (As := []) (rest := []) ⟨hx, hb, hml, hown, hts⟩ (q_isDigitX l dC dI cT ad E5 H.size k nl hI (by exact hh0) (by exact hh1) (by exact hh2) (by exact (hKp 0 18 rfl).trans hh3) (by (try rw [hKp.ei 0 19 rfl]); exact hh4)) (cwV 0 hts (gi_V (in_26 _ (zs16 (zs4 (zs1 (zs1 (zs1 (zs0))))))) (in_26 _ (zs16 (zs4 (zs4 (zs0))))) (in_26 _ (zs16 (zs4 (zs4 (zs1 (zs0)))))) (in_24 _ (zs4 (zs4 (zs4 (zs1 (zs1 (zs1 (zs0)))))))) (in_26 _ (zs16 (zs4 (zs4 (zs1 (zs1 (zs0)))))))) rfl rfl rfl ⟨rfl, hz_yX13_isDigit_0⟩ ⟨(show 0 + 1 ≤ 7 * n + 5 from nl_1 (Nat.le_of_ble_eq_true rfl)), (show 8 + (1 + 11) + 40 * (0) ≤ 40 * (7 * n + 5) from nl_2 (Nat.le_of_ble_eq_true rfl))⟩) ⟨HW_bl, va_recv hK hP (ci := 14) (q0 := 0) rfl (hI.ob 0 (Nat.le_of_ble_eq_true rfl) rfl), (HW_wi hP hK (WX_D hD) hS hA hEV)⟩ rfl rfl hl.1 rfl (lv_room (Nat.le_of_ble_eq_true rfl)) dX13_atom_81 ⟨Nat.le_of_ble_eq_true rfl, Nat.le_of_ble_eq_true rfl⟩) hS hP (fun r20 H locs hw hP hS => ?_)
      rcases hw with hw | hw
      · -- isDigitX, case 0
        obtain ⟨rfl, f21, f22⟩ := hw
        try rw [(show xi (E5 0) 21 = y7 from vi_e fy7)] at f21
        try rw [hKp.ei 0 20 rfl] at f21
        refine lv_if_ne (tgt := 92) hx hb dX13_atom_84 (by decide) (fun c23 => ?_) (fun c23 => ?_)
        · --84 taken
          refine lv_iconst (v := 0) hx hb dX13_atom_92 (by decide) ?_
          refine lv_istore_n (lv' := [(2, .int 0), (1, .int r4), (0, .ref (ad 0))]) hx hb dX13_atom_93 rfl hl (by decide) rfl (fun ls hl => ?_)
          have k24 : MZ E E5 := MZ.kp hKp (fun _ => rfl)
          refine lv_iconst (v := 0) hx hb dX13_atom_94 (by decide) ?_
          refine lv_istore_n (lv' := [(3, .int 0), (2, .int 0), (1, .int r4), (0, .ref (ad 0))]) hx hb dX13_atom_95 rfl hl (by decide) rfl (fun ls hl => ?_)
          have hL96 : ∀ d : Nat, ∀ (w96_0_21 : Int32) (w96_0_22 : Int32) (w96_0_23 : Int32) (v96_3 : Int32) (v96_2 : Int32) (E96_ : Nat → va_E) (H : Heap) (locs : List Loc) (ls : Array Slot), 0 ≤ w96_0_21.toInt ∧ w96_0_21.toInt ≤ 201 → -1 ≤ w96_0_22.toInt ∧ w96_0_22.toInt ≤ 201 → 0 ≤ w96_0_23.toInt ∧ w96_0_23.toInt ≤ 8 → y1.toInt ≤ w96_0_21.toInt → y3.toInt ≤ w96_0_23.toInt → (w96_0_22.toInt = -1 → w96_0_23.toInt = y3.toInt) → (w96_0_22.toInt = -1 → y2.toInt = -1) → NumM k v96_3 E5 E96_ → (0 ≤ v96_3.toInt ∧ v96_3.toInt ≤ 5) → NumX k v96_3 v96_2 E5 E96_ → 201 - w96_0_21.toInt < (d : Int) → IX cT shM spM 72 ad E96_ → Kp w_atomW E E96_ → xv (E96_ 0) 21 = .int w96_0_21 → xv (E96_ 0) 22 = .int w96_0_22 → xv (E96_ 0) 23 = .int w96_0_23 → va_P (dC, dI) vwCl (WX 72 ad E96_) H → va_S A s.heap H locs → lv_has ls 4 [(3, .int v96_3), (2, .int v96_2), (1, .int r4), (0, .ref (ad 0))] → W p l e (headSpec v_atomW (rm_atomW n)).room s m args below meth c H locs 0 0 Q (F0 m 96 ls []) := by
            intro d
            induction d with
            | zero =>
              intro w96_0_21 w96_0_22 w96_0_23 v96_3 v96_2 E96_ H locs ls hw96_0_21 hw96_0_22 hw96_0_23 hx96_0 hx96_1 hx96_2 hx96_3 hx96_4 hx96_5 hx96_6 hx96_7 hI hKp hs96_0_21 hs96_0_22 hs96_0_23 hP hS hl
              exact absurd hx96_7 (by first | exact ms_zu hw96_0_21.2 | omega)
            | succ d ih96 =>
              intro w96_0_21 w96_0_22 w96_0_23 v96_3 v96_2 E96_ H locs ls hw96_0_21 hw96_0_22 hw96_0_23 hx96_0 hx96_1 hx96_2 hx96_3 hx96_4 hx96_5 hx96_6 hx96_7 hI hKp hs96_0_21 hs96_0_22 hs96_0_23 hP hS hl
              refine lv_aload_n hx hb dX13_atom_96 rfl (lv_at hl 3 rfl) ?_
              refine th_ri (va_runV (As := []) (rest := []) ⟨hx, hb, hml, hown, hts⟩ (q_isDigitX l dC dI cT ad E96_ H.size k nl hI (by exact hh0) (by exact hh1) (by exact hh2) (by exact (hKp 0 18 rfl).trans hh3) (by (try rw [hKp.ei 0 19 rfl]); exact hh4)) (cwV 0 hts (gi_V (in_26 _ (zs16 (zs4 (zs1 (zs1 (zs1 (zs0))))))) (in_26 _ (zs16 (zs4 (zs4 (zs0))))) (in_26 _ (zs16 (zs4 (zs4 (zs1 (zs0)))))) (in_24 _ (zs4 (zs4 (zs4 (zs1 (zs1 (zs1 (zs0)))))))) (in_26 _ (zs16 (zs4 (zs4 (zs1 (zs1 (zs0)))))))) rfl rfl rfl ⟨rfl, hz_yX13_isDigit_0⟩ ⟨(show 0 + 1 ≤ 7 * n + 5 from nl_1 (Nat.le_of_ble_eq_true rfl)), (show 8 + (1 + 11) + 40 * (0) ≤ 40 * (7 * n + 5) from nl_2 (Nat.le_of_ble_eq_true rfl))⟩) ⟨HW_bl, va_recv hK hP (ci := 14) (q0 := 0) rfl (hI.ob 0 (Nat.le_of_ble_eq_true rfl) rfl), (HW_wi hP hK (WX_D hD) hS hA hEV)⟩ rfl rfl hl.1 rfl (lv_room (Nat.le_of_ble_eq_true rfl)) dX13_atom_97 ⟨Nat.le_of_ble_eq_true rfl, Nat.le_of_ble_eq_true rfl⟩) hS hP (fun r25 H locs hw hP hS => ?_)
              rcases hw with hw | hw
              · -- isDigitX, case 0
                obtain ⟨rfl, f26, f27⟩ := hw
                try rw [(show xi (E96_ 0) 21 = w96_0_21 from vi_e hs96_0_21)] at f26
                try rw [hKp.ei 0 20 rfl] at f26
                refine lv_if_eq (tgt := 162) hx hb dX13_atom_100 (by decide) (fun c28 => ?_) (fun c28 => ?_)
                · --100 taken
                  exact absurd c28 (by decide)
                · --100 not
                  refine lv_aload_n hx hb dX13_atom_103 rfl (lv_at hl 3 rfl) ?_
                  refine th_get (ci := 14) (C := RX13) (T := TX13) (N := 97) (v := .int w96_0_22) hx hb hts hinX13 hown hK hP hI 0 (Nat.le_of_ble_eq_true rfl) rfl rfl 22 (Nat.le_of_ble_eq_true rfl) (hts _ (vA_in _ _ (in_25 _ (zs16 (zs16 (zs4 (zs1 (zs1 (zs1 (zs0)))))))))) (fun _ h9 => h9) hs96_0_22 dX13_atom_104 ?_
                  refine lv_iconst (v := -1) hx hb dX13_atom_107 (by decide) ?_
                  refine lv_icmp_ne (tgt := 162) hx hb dX13_atom_108 (by decide) (fun c29 => ?_) (fun c29 => ?_)
                  · --108 taken
                    have t30 : ¬ w96_0_22.toInt = -1 := ti_ne c29
                    have i31 : 0 ≤ w96_0_22.toInt ∧ w96_0_22.toInt ≤ 201 := iv_ne_l t30 hw96_0_22 (il_ (-1))
                    refine lv_iload_n hx hb dX13_atom_162 rfl (lv_at hl 1 rfl) ?_
                    rw [hQ]
                    exact W.iret (v := v96_2) hx hb hr (fun t ht hW => ⟨⟨v96_2, E96_, rfl, ⟨hI, hKp, ⟨by (try rw [(show xi (E96_ 0) 21 = w96_0_21 from vi_e hs96_0_21)]); (try rw [ey1]); first | done | exact hx96_0 | all_goals omega, by (try rw [(show xi (E96_ 0) 23 = w96_0_23 from vi_e hs96_0_23)]); (try rw [ey3]); first | done | exact hx96_1 | all_goals omega, by (try rw [(show xi (E96_ 0) 22 = w96_0_22 from vi_e hs96_0_22)]); (try rw [(show xi (E96_ 0) 23 = w96_0_23 from vi_e hs96_0_23)]); (try rw [ey2]); (try rw [ey3]); first | done | exact fun q9 => absurd (q9) t30 | all_goals omega, by (try rw [(show xi (E96_ 0) 22 = w96_0_22 from vi_e hs96_0_22)]); (try rw [ey2]); first | done | exact fun q9 => absurd (q9) t30 | all_goals omega, absurd (hx96_4.2.1.trans (by show (xi (E5 0) 22).toInt = -1; rw [show xi (E5 0) 22 = y2 from vi_e ((kq6 0 22 rfl).trans fy2)]; omega)) (by show ¬ (xi (E96_ 0) 22).toInt = -1; rw [show xi (E96_ 0) 22 = w96_0_22 from vi_e hs96_0_22]; omega), RdW.nf (by show ¬ (xi (E96_ 0) 22).toInt = -1; rw [show xi (E96_ 0) 22 = w96_0_22 from vi_e hs96_0_22]; omega)⟩⟩, by show va_P (dC, dI) vwCl (WX 72 ad E96_) t.heap; rw [ht]; exact hP⟩, hS.F ht⟩) hS.2.2 dX13_atom_163
                  · --108 not
                    have t32 : w96_0_22.toInt = -1 := ti_eq c29
                    have i33 : -1 ≤ w96_0_22.toInt ∧ w96_0_22.toInt ≤ -1 := iv_eqi t32 hw96_0_22 (il_ (-1)) (by decide)
                    refine lv_iload_n hx hb dX13_atom_111 rfl (lv_at hl 0 rfl) ?_
                    refine lv_iconst (v := 5) hx hb dX13_atom_112 (by decide) ?_
                    refine lv_icmp_ne (tgt := 123) hx hb dX13_atom_113 (by decide) (fun c34 => ?_) (fun c34 => ?_)
                    · --113 taken
                      have t35 : ¬ v96_3.toInt = 5 := ti_ne c34
                      refine lv_bipush (v := 10) hx hb dX13_atom_123 (by decide) ?_
                      refine lv_iload_n hx hb dX13_atom_125 rfl (lv_at hl 1 rfl) ?_
                      refine lv_imul hx hb dX13_atom_126 ?_
                      refine lv_topi (fun y36 ey36 => ?_)
                      refine lv_aload_n hx hb dX13_atom_127 rfl (lv_at hl 3 rfl) ?_
                      refine th_get (ci := 14) (C := RX13) (T := TX13) (N := 97) (v := .ref (ad k)) hx hb hts hinX13 hown hK hP hI 0 (Nat.le_of_ble_eq_true rfl) rfl rfl 18 (Nat.le_of_ble_eq_true rfl) (hts _ (vA_in _ _ (in_26 _ zs0))) (fun _ h9 => h9) ((hKp 0 18 rfl).trans hh3) dX13_atom_128 ?_
                      refine lv_aload_n hx hb dX13_atom_131 rfl (lv_at hl 3 rfl) ?_
                      refine th_get (ci := 14) (C := RX13) (T := TX13) (N := 97) (v := .int (xi (E 0) 19)) hx hb hts hinX13 hown hK hP hI 0 (Nat.le_of_ble_eq_true rfl) rfl rfl 19 (Nat.le_of_ble_eq_true rfl) (hts _ (vA_in _ _ (in_26 _ (zs1 (zs0))))) (fun _ h9 => h9) (th_v0 hKp hI0 0 (Nat.le_of_ble_eq_true rfl) rfl (Nat.le_of_ble_eq_true rfl) rfl rfl) dX13_atom_132 ?_
                      refine lv_aload_n hx hb dX13_atom_135 rfl (lv_at hl 3 rfl) ?_
                      refine th_get (ci := 14) (C := RX13) (T := TX13) (N := 97) (v := .int w96_0_21) hx hb hts hinX13 hown hK hP hI 0 (Nat.le_of_ble_eq_true rfl) rfl rfl 21 (Nat.le_of_ble_eq_true rfl) (hts _ (vA_in _ _ (in_25 _ (zs16 (zs16 (zs4 (zs0))))))) (fun _ h9 => h9) hs96_0_21 dX13_atom_136 ?_
                      refine lv_iadd hx hb dX13_atom_139 ?_
                      refine lv_topi (fun y37 ey37 => ?_)
                      obtain ⟨ty37, iy37⟩ := ti_add (e := 0) (f := 3201) i13 hw96_0_21 ey37 (by decide)
                      have ty37 : y37.toInt = (xi (E 0) 19).toInt + w96_0_21.toInt := ty37
                      have iy37 : 0 ≤ y37.toInt ∧ y37.toInt ≤ 3201 := iy37
                      have n39 : vp_in y37 nl := (vp_in_iff.mpr ⟨by omega, by omega⟩)
                      refine th_bald hx hb hK hP hI k hh0 hh1 rfl n39 dX13_atom_140 (fun y38 ey38 => ?_)
                      have iy38 : -128 ≤ y38.toInt ∧ y38.toInt ≤ 127 := hI.el k hh0 hh1 n39 hh2 ey38
                      refine lv_iadd hx hb dX13_atom_141 ?_
                      refine lv_topi (fun y40 ey40 => ?_)
                      refine lv_bipush (v := 48) hx hb dX13_atom_142 (by decide) ?_
                      refine lv_isub hx hb dX13_atom_144 ?_
                      refine lv_topi (fun y41 ey41 => ?_)
                      refine lv_istore_n (lv' := [(2, .int y41), (3, .int v96_3), (1, .int r4), (0, .ref (ad 0))]) hx hb dX13_atom_145 rfl hl (by decide) rfl (fun ls hl => ?_)
                      have k42 : mT k E96_ (mA E96_) = y38.toInt := by have q9 := mT_e (k := k) hs96_0_21 (by omega) ey38 (by rw [hKp.ei 0 19 rfl]; omega) (by rw [hKp.ei 0 19 rfl]; omega); have q8 := (f27).2; rw [q9] at q8; unfold dgt at q8; rw [q9]; omega
                      refine lv_aload_n hx hb dX13_atom_146 rfl (lv_at hl 3 rfl) ?_
                      refine lv_dup hx hb dX13_atom_147 rfl ?_
                      refine th_get (ci := 14) (C := RX13) (T := TX13) (N := 97) (v := .int w96_0_21) hx hb hts hinX13 hown hK hP hI 0 (Nat.le_of_ble_eq_true rfl) rfl rfl 21 (Nat.le_of_ble_eq_true rfl) (hts _ (vA_in _ _ (in_25 _ (zs16 (zs16 (zs4 (zs0))))))) (fun _ h9 => h9) hs96_0_21 dX13_atom_148 ?_
                      refine lv_iconst (v := 1) hx hb dX13_atom_151 (by decide) ?_
                      refine lv_iadd hx hb dX13_atom_152 ?_
                      refine lv_topi (fun y43 ey43 => ?_)
                      obtain ⟨ty43, iy43⟩ := ti_add (e := 1) (f := 202) hw96_0_21 ln_1 ey43 (by decide)
                      have ty43 : y43.toInt = w96_0_21.toInt + 1 := ty43
                      have iy43 : 1 ≤ y43.toInt ∧ y43.toInt ≤ 202 := iy43
                      have i44 : 1 ≤ y43.toInt ∧ y43.toInt ≤ 201 := by omega
                      refine th_put (ci := 14) (C := RX13) (T := TX13) (N := 97) (v := .int y43) (ty := .int) hx hb hts hinX13 tyX13 tyX13_ok nmX13 hown hK hP (WX_D hD) hS hI 0 (Nat.le_of_ble_eq_true rfl) rfl rfl 21 (Nat.le_of_ble_eq_true rfl) (hts _ (vA_in _ _ (in_25 _ (zs16 (zs16 (zs4 (zs0))))))) (fun _ h9 => h9) rfl (by decide +kernel) rfl rfl (okI rfl (iv_w i44 (by decide))) dX13_atom_153 (fun H locs E45 pw46 hI hP hS => ?_)
                      have hKp := hKp.pw pw46 rfl
                      have k47 : AtM k E96_ E45 := AtM.pw pw46.2 hk0 (vi_e hs96_0_21) (vi_e pw46.1) ty43 (by omega)
                      obtain ⟨y48, ey48⟩ : ∃ y : Int32, y = v96_3 + (1 : Int32) := ⟨_, rfl⟩
                      refine lv_iinc (v := y48) (lv' := [(3, .int y48), (2, .int y41), (1, .int r4), (0, .ref (ad 0))]) hx hb dX13_atom_156 hl (k := 1) rfl (by rw [ey48]; rfl) (by decide) rfl (fun ls hl => ?_)
                      refine lv_goto (tgt := 96) hx hb dX13_atom_159 (by decide) ?_
                      exact ih96 y43 w96_0_22 w96_0_23 y48 y41 E45 _ _ _ (iv_w i44 (by decide)) (iv_w i33 (by decide)) hw96_0_23 (by  first | exact (Int.le_trans hx96_0 (Int.le_trans (Int.le_add_of_nonneg_right (by decide)) (Int.le_of_eq ty43.symm))) | omega) (by  first | exact hx96_1 | omega) (by  first | exact fun q9 => (hx96_2 (q9)) | omega) (by  first | exact fun q9 => hx96_3 (q9) | omega) (hx96_4.step k47 f27 (by omega) (show y48.toInt = v96_3.toInt + 1 from (ti_add (a := 0) (b := 4) (c := 1) (d := 1) (e := 1) (f := 5) ⟨by omega, by omega⟩ (by decide) ey48 (by decide)).1)) (by have t9 := (show y48.toInt = v96_3.toInt + 1 from (ti_add (a := 0) (b := 4) (c := 1) (d := 1) (e := 1) (f := 5) ⟨by omega, by omega⟩ (by decide) ey48 (by decide)).1); omega) (hx96_6.step hx96_4 k47 f27 k42 (by omega) (show y48.toInt = v96_3.toInt + 1 from (ti_add (a := 0) (b := 4) (c := 1) (d := 1) (e := 1) (f := 5) ⟨by omega, by omega⟩ (by decide) ey48 (by decide)).1) ey36 ey40 ey41) (by omega) hI hKp pw46.1 ((pw46.2 0 22 (fun q9 => absurd q9.2 (Nat.ne_of_beq_eq_false rfl))).trans hs96_0_22) ((pw46.2 0 23 (fun q9 => absurd q9.2 (Nat.ne_of_beq_eq_false rfl))).trans hs96_0_23) hP hS (lv_sub hl [0, 1, 2, 3] rfl)
                    · --113 not
                      have t49 : v96_3.toInt = 5 := ti_eq c34
                      have i50 : 5 ≤ v96_3.toInt ∧ v96_3.toInt ≤ 5 := iv_eqi t49 (iv_all _) (il_ 5) (by decide)
                      refine lv_aload_n hx hb dX13_atom_116 rfl (lv_at hl 3 rfl) ?_
                      refine th_i (va_runV (As := []) (rest := []) ⟨hx, hb, hml, hown, hts⟩ (q_stopX l dC dI cT ad E96_ H.size k nl hI (by exact hh0) (by exact hh1) (by exact hh2) (by exact (hKp 0 18 rfl).trans hh3) (by (try rw [hKp.ei 0 19 rfl]); exact hh4)) (cwV 0 hts (gi_V (in_26 _ (zs4 (zs4 (zs4 (zs0))))) (in_26 _ (zs4 (zs4 (zs4 (zs1 (zs0)))))) (in_26 _ (zs4 (zs4 (zs4 (zs1 (zs1 (zs0))))))) (in_24 _ (zs4 (zs4 (zs4 (zs1 (zs1 (zs1 (zs0)))))))) (in_26 _ (zs4 (zs4 (zs4 (zs1 (zs1 (zs1 (zs0))))))))) rfl rfl rfl ⟨rfl, hz_yX13_stop_0⟩ ⟨(show 0 + 1 ≤ 7 * n + 5 from nl_1 (Nat.le_of_ble_eq_true rfl)), (show 8 + (1 + 11) + 40 * (0) ≤ 40 * (7 * n + 5) from nl_2 (Nat.le_of_ble_eq_true rfl))⟩) ⟨HW_bl, va_recv hK hP (ci := 14) (q0 := 0) rfl (hI.ob 0 (Nat.le_of_ble_eq_true rfl) rfl), (HW_wi hP hK (WX_D hD) hS hA hEV)⟩ rfl rfl hl.1 rfl (lv_room (Nat.le_of_ble_eq_true rfl)) dX13_atom_117 ⟨Nat.le_of_ble_eq_true rfl, Nat.le_of_ble_eq_true rfl⟩) (WX_D hD) hS hA (fun r51 E52 H locs hw hP hS => ?_)
                      obtain ⟨hI, kq53, hw⟩ := hw
                      have hKb := hKp
                      have hKp := hKp.tr kq53 (wl_sub rfl rfl)
                      obtain ⟨y54, ey54⟩ : ∃ y, xi (E52 0) 22 = y := ⟨_, rfl⟩
                      have fy54 : xv (E52 0) 22 = .int y54 := (hI.fi 0 (Nat.le_of_ble_eq_true rfl) rfl (Nat.le_of_ble_eq_true rfl) rfl).trans (congrArg Value.int ey54)
                      have iy54 : -1 ≤ y54.toInt ∧ y54.toInt ≤ 201 := by rw [← ey54]; exact hI.iv 0 (Nat.le_of_ble_eq_true rfl) rfl (Nat.le_of_ble_eq_true rfl) rfl
                      obtain ⟨rfl, f55, f56⟩ := hw
                      try rw [(show xi (E96_ 0) 22 = w96_0_22 from vi_e hs96_0_22)] at f55
                      try rw [(show xi (E52 0) 22 = y54 from vi_e fy54)] at f55
                      refine lv_pop hx hb dX13_atom_120 rfl ?_
                      refine lv_iconst (v := 0) hx hb dX13_atom_121 (by decide) ?_
                      rw [hQ]
                      exact W.iret (v := 0) hx hb hr (fun t ht hW => ⟨⟨0, E52, rfl, ⟨hI, hKp, ⟨by (try rw [(show xi (E52 0) 21 = w96_0_21 from vi_e ((kq53 0 21 rfl).trans hs96_0_21))]); (try rw [ey1]); first | done | exact hx96_0 | have h8 := ln_0; all_goals omega, by (try rw [(show xi (E52 0) 23 = w96_0_23 from vi_e ((kq53 0 23 rfl).trans hs96_0_23))]); (try rw [ey3]); first | done | exact hx96_1 | have h8 := ln_0; all_goals omega, by (try rw [(show xi (E52 0) 22 = y54 from vi_e fy54)]); (try rw [(show xi (E52 0) 23 = w96_0_23 from vi_e ((kq53 0 23 rfl).trans hs96_0_23))]); (try rw [ey2]); (try rw [ey3]); first | done | exact fun q9 => absurd (q9) f55 | have h8 := ln_0; all_goals omega, by (try rw [(show xi (E52 0) 22 = y54 from vi_e fy54)]); (try rw [ey2]); first | done | exact fun q9 => absurd (q9) f55 | have h8 := ln_0; all_goals omega, atM_num f12 (pkM_d f12 (by show (xi (E 0) 22).toInt = -1; rw [ey2]; omega) f22) (hx96_4.six f56 (by omega) f27), RdW.nf (by show ¬ (xi (E52 0) 22).toInt = -1; rw [show xi (E52 0) 22 = y54 from vi_e fy54]; omega)⟩⟩, by show va_P (dC, dI) vwCl (WX 72 ad E52) t.heap; rw [ht]; exact hP⟩, hS.F ht⟩) hS.2.2 dX13_atom_122
              · -- isDigitX, case 1
                obtain ⟨rfl, f57⟩ := hw
                refine lv_if_eq (tgt := 162) hx hb dX13_atom_100 (by decide) (fun c58 => ?_) (fun c58 => ?_)
                · --100 taken
                  refine lv_iload_n hx hb dX13_atom_162 rfl (lv_at hl 1 rfl) ?_
                  rw [hQ]
                  exact W.iret (v := v96_2) hx hb hr (fun t ht hW => ⟨⟨v96_2, E96_, rfl, ⟨hI, hKp, ⟨by (try rw [(show xi (E96_ 0) 21 = w96_0_21 from vi_e hs96_0_21)]); (try rw [ey1]); first | done | exact hx96_0 | all_goals omega, by (try rw [(show xi (E96_ 0) 23 = w96_0_23 from vi_e hs96_0_23)]); (try rw [ey3]); first | done | exact hx96_1 | all_goals omega, by (try rw [(show xi (E96_ 0) 22 = w96_0_22 from vi_e hs96_0_22)]); (try rw [(show xi (E96_ 0) 23 = w96_0_23 from vi_e hs96_0_23)]); (try rw [ey2]); (try rw [ey3]); first | done | exact fun q9 => (hx96_2 (q9)) | all_goals omega, by (try rw [(show xi (E96_ 0) 22 = w96_0_22 from vi_e hs96_0_22)]); (try rw [ey2]); first | done | exact fun q9 => hx96_3 (q9) | all_goals omega, atM_num f12 (pkM_d f12 (by show (xi (E 0) 22).toInt = -1; rw [ey2]; omega) f22) (hx96_4.out f57), atW_num f12 (pkM_d f12 (by show (xi (E 0) 22).toInt = -1; rw [ey2]; omega) f22) k24 (hx96_6.out hx96_4 f57)⟩⟩, by show va_P (dC, dI) vwCl (WX 72 ad E96_) t.heap; rw [ht]; exact hP⟩, hS.F ht⟩) hS.2.2 dX13_atom_163
                · --100 not
                  exact absurd c58 (by decide)
          exact hL96 (202) y7 y2 y3 (0 : Int32) (0 : Int32) E5 _ _ _ iy7 iy2 iy3 (by  first | exact f9 | omega) (by  first | exact Int.le_refl _ | omega) (by  first | exact fun q9 => rfl | omega) (by  first | exact fun q9 => q9 | omega) NumM.rf (by decide) NumX.rf (by have h9 := iy7; first | exact ms_bu h9.1 (by decide) | omega) hI hKp fy7 ((kq6 0 22 rfl).trans fy2) ((kq6 0 23 rfl).trans fy3) hP hS (lv_sub hl [0, 1, 2, 3] rfl)
        · --84 not
          exact absurd c23 (by decide)
      · -- isDigitX, case 1
        obtain ⟨rfl, f59⟩ := hw
        refine lv_if_ne (tgt := 92) hx hb dX13_atom_84 (by decide) (fun c60 => ?_) (fun c60 => ?_)
        · --84 taken
          exact absurd c60 (by decide)
        · --84 not
          refine lv_aload_n hx hb dX13_atom_87 rfl (lv_at hl 1 rfl) ?_
          refine th_i (va_runV (As := []) (rest := []) ⟨hx, hb, hml, hown, hts⟩ (q_stopX l dC dI cT ad E5 H.size k nl hI (by exact hh0) (by exact hh1) (by exact hh2) (by exact (hKp 0 18 rfl).trans hh3) (by (try rw [hKp.ei 0 19 rfl]); exact hh4)) (cwV 0 hts (gi_V (in_26 _ (zs4 (zs4 (zs4 (zs0))))) (in_26 _ (zs4 (zs4 (zs4 (zs1 (zs0)))))) (in_26 _ (zs4 (zs4 (zs4 (zs1 (zs1 (zs0))))))) (in_24 _ (zs4 (zs4 (zs4 (zs1 (zs1 (zs1 (zs0)))))))) (in_26 _ (zs4 (zs4 (zs4 (zs1 (zs1 (zs1 (zs0))))))))) rfl rfl rfl ⟨rfl, hz_yX13_stop_0⟩ ⟨(show 0 + 1 ≤ 7 * n + 5 from nl_1 (Nat.le_of_ble_eq_true rfl)), (show 8 + (1 + 11) + 40 * (0) ≤ 40 * (7 * n + 5) from nl_2 (Nat.le_of_ble_eq_true rfl))⟩) ⟨HW_bl, va_recv hK hP (ci := 14) (q0 := 0) rfl (hI.ob 0 (Nat.le_of_ble_eq_true rfl) rfl), (HW_wi hP hK (WX_D hD) hS hA hEV)⟩ rfl rfl hl.1 rfl (lv_room (Nat.le_of_ble_eq_true rfl)) dX13_atom_88 ⟨Nat.le_of_ble_eq_true rfl, Nat.le_of_ble_eq_true rfl⟩) (WX_D hD) hS hA (fun r61 E62 H locs hw hP hS => ?_)
          obtain ⟨hI, kq63, hw⟩ := hw
          have hKb := hKp
          have hKp := hKp.tr kq63 (wl_sub rfl rfl)
          obtain ⟨y64, ey64⟩ : ∃ y, xi (E62 0) 22 = y := ⟨_, rfl⟩
          have fy64 : xv (E62 0) 22 = .int y64 := (hI.fi 0 (Nat.le_of_ble_eq_true rfl) rfl (Nat.le_of_ble_eq_true rfl) rfl).trans (congrArg Value.int ey64)
          have iy64 : -1 ≤ y64.toInt ∧ y64.toInt ≤ 201 := by rw [← ey64]; exact hI.iv 0 (Nat.le_of_ble_eq_true rfl) rfl (Nat.le_of_ble_eq_true rfl) rfl
          obtain ⟨rfl, f65, f66⟩ := hw
          try rw [(show xi (E5 0) 22 = y2 from vi_e ((kq6 0 22 rfl).trans fy2))] at f65
          try rw [(show xi (E62 0) 22 = y64 from vi_e fy64)] at f65
          refine lv_pop hx hb dX13_atom_91 rfl ?_
          refine lv_iconst (v := 0) hx hb dX13_atom_92 (by decide) ?_
          refine lv_istore_n (lv' := [(2, .int 0), (1, .int r4), (0, .ref (ad 0))]) hx hb dX13_atom_93 rfl hl (by decide) rfl (fun ls hl => ?_)
          have k67 : MZ E E62 := MZ.kp hKp (fun _ => rfl)
          refine lv_iconst (v := 0) hx hb dX13_atom_94 (by decide) ?_
          refine lv_istore_n (lv' := [(3, .int 0), (2, .int 0), (1, .int r4), (0, .ref (ad 0))]) hx hb dX13_atom_95 rfl hl (by decide) rfl (fun ls hl => ?_)
          have hL96 : ∀ d : Nat, ∀ (w96_0_21 : Int32) (w96_0_22 : Int32) (w96_0_23 : Int32) (v96_3 : Int32) (v96_2 : Int32) (E96_ : Nat → va_E) (H : Heap) (locs : List Loc) (ls : Array Slot), 0 ≤ w96_0_21.toInt ∧ w96_0_21.toInt ≤ 201 → -1 ≤ w96_0_22.toInt ∧ w96_0_22.toInt ≤ 201 → 0 ≤ w96_0_23.toInt ∧ w96_0_23.toInt ≤ 8 → y1.toInt ≤ w96_0_21.toInt → y3.toInt ≤ w96_0_23.toInt → (w96_0_22.toInt = -1 → w96_0_23.toInt = y3.toInt) → (w96_0_22.toInt = -1 → y2.toInt = -1) → NumM k v96_3 E62 E96_ → (0 ≤ v96_3.toInt ∧ v96_3.toInt ≤ 5) → NumX k v96_3 v96_2 E62 E96_ → 201 - w96_0_21.toInt < (d : Int) → IX cT shM spM 72 ad E96_ → Kp w_atomW E E96_ → xv (E96_ 0) 21 = .int w96_0_21 → xv (E96_ 0) 22 = .int w96_0_22 → xv (E96_ 0) 23 = .int w96_0_23 → va_P (dC, dI) vwCl (WX 72 ad E96_) H → va_S A s.heap H locs → lv_has ls 4 [(3, .int v96_3), (2, .int v96_2), (1, .int r4), (0, .ref (ad 0))] → W p l e (headSpec v_atomW (rm_atomW n)).room s m args below meth c H locs 0 0 Q (F0 m 96 ls []) := by
            intro d
            induction d with
            | zero =>
              intro w96_0_21 w96_0_22 w96_0_23 v96_3 v96_2 E96_ H locs ls hw96_0_21 hw96_0_22 hw96_0_23 hx96_0 hx96_1 hx96_2 hx96_3 hx96_4 hx96_5 hx96_6 hx96_7 hI hKp hs96_0_21 hs96_0_22 hs96_0_23 hP hS hl
              exact absurd hx96_7 (by first | exact ms_zu hw96_0_21.2 | omega)
            | succ d ih96 =>
              intro w96_0_21 w96_0_22 w96_0_23 v96_3 v96_2 E96_ H locs ls hw96_0_21 hw96_0_22 hw96_0_23 hx96_0 hx96_1 hx96_2 hx96_3 hx96_4 hx96_5 hx96_6 hx96_7 hI hKp hs96_0_21 hs96_0_22 hs96_0_23 hP hS hl
              refine lv_aload_n hx hb dX13_atom_96 rfl (lv_at hl 3 rfl) ?_
              refine th_ri (va_runV (As := []) (rest := []) ⟨hx, hb, hml, hown, hts⟩ (q_isDigitX l dC dI cT ad E96_ H.size k nl hI (by exact hh0) (by exact hh1) (by exact hh2) (by exact (hKp 0 18 rfl).trans hh3) (by (try rw [hKp.ei 0 19 rfl]); exact hh4)) (cwV 0 hts (gi_V (in_26 _ (zs16 (zs4 (zs1 (zs1 (zs1 (zs0))))))) (in_26 _ (zs16 (zs4 (zs4 (zs0))))) (in_26 _ (zs16 (zs4 (zs4 (zs1 (zs0)))))) (in_24 _ (zs4 (zs4 (zs4 (zs1 (zs1 (zs1 (zs0)))))))) (in_26 _ (zs16 (zs4 (zs4 (zs1 (zs1 (zs0)))))))) rfl rfl rfl ⟨rfl, hz_yX13_isDigit_0⟩ ⟨(show 0 + 1 ≤ 7 * n + 5 from nl_1 (Nat.le_of_ble_eq_true rfl)), (show 8 + (1 + 11) + 40 * (0) ≤ 40 * (7 * n + 5) from nl_2 (Nat.le_of_ble_eq_true rfl))⟩) ⟨HW_bl, va_recv hK hP (ci := 14) (q0 := 0) rfl (hI.ob 0 (Nat.le_of_ble_eq_true rfl) rfl), (HW_wi hP hK (WX_D hD) hS hA hEV)⟩ rfl rfl hl.1 rfl (lv_room (Nat.le_of_ble_eq_true rfl)) dX13_atom_97 ⟨Nat.le_of_ble_eq_true rfl, Nat.le_of_ble_eq_true rfl⟩) hS hP (fun r68 H locs hw hP hS => ?_)
              rcases hw with hw | hw
              · -- isDigitX, case 0
                obtain ⟨rfl, f69, f70⟩ := hw
                try rw [(show xi (E96_ 0) 21 = w96_0_21 from vi_e hs96_0_21)] at f69
                try rw [hKp.ei 0 20 rfl] at f69
                refine lv_if_eq (tgt := 162) hx hb dX13_atom_100 (by decide) (fun c71 => ?_) (fun c71 => ?_)
                · --100 taken
                  exact absurd c71 (by decide)
                · --100 not
                  refine lv_aload_n hx hb dX13_atom_103 rfl (lv_at hl 3 rfl) ?_
                  refine th_get (ci := 14) (C := RX13) (T := TX13) (N := 97) (v := .int w96_0_22) hx hb hts hinX13 hown hK hP hI 0 (Nat.le_of_ble_eq_true rfl) rfl rfl 22 (Nat.le_of_ble_eq_true rfl) (hts _ (vA_in _ _ (in_25 _ (zs16 (zs16 (zs4 (zs1 (zs1 (zs1 (zs0)))))))))) (fun _ h9 => h9) hs96_0_22 dX13_atom_104 ?_
                  refine lv_iconst (v := -1) hx hb dX13_atom_107 (by decide) ?_
                  refine lv_icmp_ne (tgt := 162) hx hb dX13_atom_108 (by decide) (fun c72 => ?_) (fun c72 => ?_)
                  · --108 taken
                    have t73 : ¬ w96_0_22.toInt = -1 := ti_ne c72
                    have i74 : 0 ≤ w96_0_22.toInt ∧ w96_0_22.toInt ≤ 201 := iv_ne_l t73 hw96_0_22 (il_ (-1))
                    refine lv_iload_n hx hb dX13_atom_162 rfl (lv_at hl 1 rfl) ?_
                    rw [hQ]
                    exact W.iret (v := v96_2) hx hb hr (fun t ht hW => ⟨⟨v96_2, E96_, rfl, ⟨hI, hKp, ⟨by (try rw [(show xi (E96_ 0) 21 = w96_0_21 from vi_e hs96_0_21)]); (try rw [ey1]); first | done | exact hx96_0 | all_goals omega, by (try rw [(show xi (E96_ 0) 23 = w96_0_23 from vi_e hs96_0_23)]); (try rw [ey3]); first | done | exact hx96_1 | all_goals omega, by (try rw [(show xi (E96_ 0) 22 = w96_0_22 from vi_e hs96_0_22)]); (try rw [(show xi (E96_ 0) 23 = w96_0_23 from vi_e hs96_0_23)]); (try rw [ey2]); (try rw [ey3]); first | done | exact fun q9 => absurd (q9) t73 | all_goals omega, by (try rw [(show xi (E96_ 0) 22 = w96_0_22 from vi_e hs96_0_22)]); (try rw [ey2]); first | done | exact fun q9 => absurd (q9) t73 | all_goals omega, (atM_no f12 (pkM_n f12 (by show (xi (E 0) 22).toInt = -1; rw [ey2]; omega) f59) (by rw [show r4.toInt = -1 by omega]; decide) (by omega) f66).fk (by show ¬ (xi (E62 0) 22).toInt = -1; rw [show xi (E62 0) 22 = y64 from vi_e fy64]; omega) hx96_4, RdW.nf (fun q9 => absurd (hx96_4.2.1.symm.trans q9) (show ¬ mFa E62 = -1 from (by show ¬ (xi (E62 0) 22).toInt = -1; rw [show xi (E62 0) 22 = y64 from vi_e fy64]; omega)))⟩⟩, by show va_P (dC, dI) vwCl (WX 72 ad E96_) t.heap; rw [ht]; exact hP⟩, hS.F ht⟩) hS.2.2 dX13_atom_163
                  · --108 not
                    have t75 : w96_0_22.toInt = -1 := ti_eq c72
                    have i76 : -1 ≤ w96_0_22.toInt ∧ w96_0_22.toInt ≤ -1 := iv_eqi t75 hw96_0_22 (il_ (-1)) (by decide)
                    refine lv_iload_n hx hb dX13_atom_111 rfl (lv_at hl 0 rfl) ?_
                    refine lv_iconst (v := 5) hx hb dX13_atom_112 (by decide) ?_
                    refine lv_icmp_ne (tgt := 123) hx hb dX13_atom_113 (by decide) (fun c77 => ?_) (fun c77 => ?_)
                    · --113 taken
                      have t78 : ¬ v96_3.toInt = 5 := ti_ne c77
                      refine lv_bipush (v := 10) hx hb dX13_atom_123 (by decide) ?_
                      refine lv_iload_n hx hb dX13_atom_125 rfl (lv_at hl 1 rfl) ?_
                      refine lv_imul hx hb dX13_atom_126 ?_
                      refine lv_topi (fun y79 ey79 => ?_)
                      refine lv_aload_n hx hb dX13_atom_127 rfl (lv_at hl 3 rfl) ?_
                      refine th_get (ci := 14) (C := RX13) (T := TX13) (N := 97) (v := .ref (ad k)) hx hb hts hinX13 hown hK hP hI 0 (Nat.le_of_ble_eq_true rfl) rfl rfl 18 (Nat.le_of_ble_eq_true rfl) (hts _ (vA_in _ _ (in_26 _ zs0))) (fun _ h9 => h9) ((hKp 0 18 rfl).trans hh3) dX13_atom_128 ?_
                      refine lv_aload_n hx hb dX13_atom_131 rfl (lv_at hl 3 rfl) ?_
                      refine th_get (ci := 14) (C := RX13) (T := TX13) (N := 97) (v := .int (xi (E 0) 19)) hx hb hts hinX13 hown hK hP hI 0 (Nat.le_of_ble_eq_true rfl) rfl rfl 19 (Nat.le_of_ble_eq_true rfl) (hts _ (vA_in _ _ (in_26 _ (zs1 (zs0))))) (fun _ h9 => h9) (th_v0 hKp hI0 0 (Nat.le_of_ble_eq_true rfl) rfl (Nat.le_of_ble_eq_true rfl) rfl rfl) dX13_atom_132 ?_
                      refine lv_aload_n hx hb dX13_atom_135 rfl (lv_at hl 3 rfl) ?_
                      refine th_get (ci := 14) (C := RX13) (T := TX13) (N := 97) (v := .int w96_0_21) hx hb hts hinX13 hown hK hP hI 0 (Nat.le_of_ble_eq_true rfl) rfl rfl 21 (Nat.le_of_ble_eq_true rfl) (hts _ (vA_in _ _ (in_25 _ (zs16 (zs16 (zs4 (zs0))))))) (fun _ h9 => h9) hs96_0_21 dX13_atom_136 ?_
                      refine lv_iadd hx hb dX13_atom_139 ?_
                      refine lv_topi (fun y80 ey80 => ?_)
                      obtain ⟨ty80, iy80⟩ := ti_add (e := 0) (f := 3201) i13 hw96_0_21 ey80 (by decide)
                      have ty80 : y80.toInt = (xi (E 0) 19).toInt + w96_0_21.toInt := ty80
                      have iy80 : 0 ≤ y80.toInt ∧ y80.toInt ≤ 3201 := iy80
                      have n82 : vp_in y80 nl := (vp_in_iff.mpr ⟨by omega, by omega⟩)
                      refine th_bald hx hb hK hP hI k hh0 hh1 rfl n82 dX13_atom_140 (fun y81 ey81 => ?_)
                      have iy81 : -128 ≤ y81.toInt ∧ y81.toInt ≤ 127 := hI.el k hh0 hh1 n82 hh2 ey81
                      refine lv_iadd hx hb dX13_atom_141 ?_
                      refine lv_topi (fun y83 ey83 => ?_)
                      refine lv_bipush (v := 48) hx hb dX13_atom_142 (by decide) ?_
                      refine lv_isub hx hb dX13_atom_144 ?_
                      refine lv_topi (fun y84 ey84 => ?_)
                      refine lv_istore_n (lv' := [(2, .int y84), (3, .int v96_3), (1, .int r4), (0, .ref (ad 0))]) hx hb dX13_atom_145 rfl hl (by decide) rfl (fun ls hl => ?_)
                      have k85 : mT k E96_ (mA E96_) = y81.toInt := by have q9 := mT_e (k := k) hs96_0_21 (by omega) ey81 (by rw [hKp.ei 0 19 rfl]; omega) (by rw [hKp.ei 0 19 rfl]; omega); have q8 := (f70).2; rw [q9] at q8; unfold dgt at q8; rw [q9]; omega
                      refine lv_aload_n hx hb dX13_atom_146 rfl (lv_at hl 3 rfl) ?_
                      refine lv_dup hx hb dX13_atom_147 rfl ?_
                      refine th_get (ci := 14) (C := RX13) (T := TX13) (N := 97) (v := .int w96_0_21) hx hb hts hinX13 hown hK hP hI 0 (Nat.le_of_ble_eq_true rfl) rfl rfl 21 (Nat.le_of_ble_eq_true rfl) (hts _ (vA_in _ _ (in_25 _ (zs16 (zs16 (zs4 (zs0))))))) (fun _ h9 => h9) hs96_0_21 dX13_atom_148 ?_
                      refine lv_iconst (v := 1) hx hb dX13_atom_151 (by decide) ?_
                      refine lv_iadd hx hb dX13_atom_152 ?_
                      refine lv_topi (fun y86 ey86 => ?_)
                      obtain ⟨ty86, iy86⟩ := ti_add (e := 1) (f := 202) hw96_0_21 ln_1 ey86 (by decide)
                      have ty86 : y86.toInt = w96_0_21.toInt + 1 := ty86
                      have iy86 : 1 ≤ y86.toInt ∧ y86.toInt ≤ 202 := iy86
                      have i87 : 1 ≤ y86.toInt ∧ y86.toInt ≤ 201 := by omega
                      refine th_put (ci := 14) (C := RX13) (T := TX13) (N := 97) (v := .int y86) (ty := .int) hx hb hts hinX13 tyX13 tyX13_ok nmX13 hown hK hP (WX_D hD) hS hI 0 (Nat.le_of_ble_eq_true rfl) rfl rfl 21 (Nat.le_of_ble_eq_true rfl) (hts _ (vA_in _ _ (in_25 _ (zs16 (zs16 (zs4 (zs0))))))) (fun _ h9 => h9) rfl (by decide +kernel) rfl rfl (okI rfl (iv_w i87 (by decide))) dX13_atom_153 (fun H locs E88 pw89 hI hP hS => ?_)
                      have hKp := hKp.pw pw89 rfl
                      have k90 : AtM k E96_ E88 := AtM.pw pw89.2 hk0 (vi_e hs96_0_21) (vi_e pw89.1) ty86 (by omega)
                      obtain ⟨y91, ey91⟩ : ∃ y : Int32, y = v96_3 + (1 : Int32) := ⟨_, rfl⟩
                      refine lv_iinc (v := y91) (lv' := [(3, .int y91), (2, .int y84), (1, .int r4), (0, .ref (ad 0))]) hx hb dX13_atom_156 hl (k := 1) rfl (by rw [ey91]; rfl) (by decide) rfl (fun ls hl => ?_)
                      refine lv_goto (tgt := 96) hx hb dX13_atom_159 (by decide) ?_
                      exact ih96 y86 w96_0_22 w96_0_23 y91 y84 E88 _ _ _ (iv_w i87 (by decide)) (iv_w i76 (by decide)) hw96_0_23 (by  first | exact (Int.le_trans hx96_0 (Int.le_trans (Int.le_add_of_nonneg_right (by decide)) (Int.le_of_eq ty86.symm))) | omega) (by  first | exact hx96_1 | omega) (by  first | exact fun q9 => (hx96_2 (q9)) | omega) (by  first | exact fun q9 => hx96_3 (q9) | omega) (hx96_4.step k90 f70 (by omega) (show y91.toInt = v96_3.toInt + 1 from (ti_add (a := 0) (b := 4) (c := 1) (d := 1) (e := 1) (f := 5) ⟨by omega, by omega⟩ (by decide) ey91 (by decide)).1)) (by have t9 := (show y91.toInt = v96_3.toInt + 1 from (ti_add (a := 0) (b := 4) (c := 1) (d := 1) (e := 1) (f := 5) ⟨by omega, by omega⟩ (by decide) ey91 (by decide)).1); omega) (hx96_6.step hx96_4 k90 f70 k85 (by omega) (show y91.toInt = v96_3.toInt + 1 from (ti_add (a := 0) (b := 4) (c := 1) (d := 1) (e := 1) (f := 5) ⟨by omega, by omega⟩ (by decide) ey91 (by decide)).1) ey79 ey83 ey84) (by omega) hI hKp pw89.1 ((pw89.2 0 22 (fun q9 => absurd q9.2 (Nat.ne_of_beq_eq_false rfl))).trans hs96_0_22) ((pw89.2 0 23 (fun q9 => absurd q9.2 (Nat.ne_of_beq_eq_false rfl))).trans hs96_0_23) hP hS (lv_sub hl [0, 1, 2, 3] rfl)
                    · --113 not
                      have t92 : v96_3.toInt = 5 := ti_eq c77
                      have i93 : 5 ≤ v96_3.toInt ∧ v96_3.toInt ≤ 5 := iv_eqi t92 (iv_all _) (il_ 5) (by decide)
                      refine lv_aload_n hx hb dX13_atom_116 rfl (lv_at hl 3 rfl) ?_
                      refine th_i (va_runV (As := []) (rest := []) ⟨hx, hb, hml, hown, hts⟩ (q_stopX l dC dI cT ad E96_ H.size k nl hI (by exact hh0) (by exact hh1) (by exact hh2) (by exact (hKp 0 18 rfl).trans hh3) (by (try rw [hKp.ei 0 19 rfl]); exact hh4)) (cwV 0 hts (gi_V (in_26 _ (zs4 (zs4 (zs4 (zs0))))) (in_26 _ (zs4 (zs4 (zs4 (zs1 (zs0)))))) (in_26 _ (zs4 (zs4 (zs4 (zs1 (zs1 (zs0))))))) (in_24 _ (zs4 (zs4 (zs4 (zs1 (zs1 (zs1 (zs0)))))))) (in_26 _ (zs4 (zs4 (zs4 (zs1 (zs1 (zs1 (zs0))))))))) rfl rfl rfl ⟨rfl, hz_yX13_stop_0⟩ ⟨(show 0 + 1 ≤ 7 * n + 5 from nl_1 (Nat.le_of_ble_eq_true rfl)), (show 8 + (1 + 11) + 40 * (0) ≤ 40 * (7 * n + 5) from nl_2 (Nat.le_of_ble_eq_true rfl))⟩) ⟨HW_bl, va_recv hK hP (ci := 14) (q0 := 0) rfl (hI.ob 0 (Nat.le_of_ble_eq_true rfl) rfl), (HW_wi hP hK (WX_D hD) hS hA hEV)⟩ rfl rfl hl.1 rfl (lv_room (Nat.le_of_ble_eq_true rfl)) dX13_atom_117 ⟨Nat.le_of_ble_eq_true rfl, Nat.le_of_ble_eq_true rfl⟩) (WX_D hD) hS hA (fun r94 E95 H locs hw hP hS => ?_)
                      obtain ⟨hI, kq96, hw⟩ := hw
                      have hKb := hKp
                      have hKp := hKp.tr kq96 (wl_sub rfl rfl)
                      obtain ⟨y97, ey97⟩ : ∃ y, xi (E95 0) 22 = y := ⟨_, rfl⟩
                      have fy97 : xv (E95 0) 22 = .int y97 := (hI.fi 0 (Nat.le_of_ble_eq_true rfl) rfl (Nat.le_of_ble_eq_true rfl) rfl).trans (congrArg Value.int ey97)
                      have iy97 : -1 ≤ y97.toInt ∧ y97.toInt ≤ 201 := by rw [← ey97]; exact hI.iv 0 (Nat.le_of_ble_eq_true rfl) rfl (Nat.le_of_ble_eq_true rfl) rfl
                      obtain ⟨rfl, f98, f99⟩ := hw
                      try rw [(show xi (E96_ 0) 22 = w96_0_22 from vi_e hs96_0_22)] at f98
                      try rw [(show xi (E95 0) 22 = y97 from vi_e fy97)] at f98
                      refine lv_pop hx hb dX13_atom_120 rfl ?_
                      refine lv_iconst (v := 0) hx hb dX13_atom_121 (by decide) ?_
                      rw [hQ]
                      exact W.iret (v := 0) hx hb hr (fun t ht hW => ⟨⟨0, E95, rfl, ⟨hI, hKp, ⟨by (try rw [(show xi (E95 0) 21 = w96_0_21 from vi_e ((kq96 0 21 rfl).trans hs96_0_21))]); (try rw [ey1]); first | done | exact hx96_0 | have h8 := ln_0; all_goals omega, by (try rw [(show xi (E95 0) 23 = w96_0_23 from vi_e ((kq96 0 23 rfl).trans hs96_0_23))]); (try rw [ey3]); first | done | exact hx96_1 | have h8 := ln_0; all_goals omega, by (try rw [(show xi (E95 0) 22 = y97 from vi_e fy97)]); (try rw [(show xi (E95 0) 23 = w96_0_23 from vi_e ((kq96 0 23 rfl).trans hs96_0_23))]); (try rw [ey2]); (try rw [ey3]); first | done | exact fun q9 => absurd (q9) f98 | have h8 := ln_0; all_goals omega, by (try rw [(show xi (E95 0) 22 = y97 from vi_e fy97)]); (try rw [ey2]); first | done | exact fun q9 => absurd (q9) f98 | have h8 := ln_0; all_goals omega, absurd (hx96_4.2.1.symm.trans (by show (xi (E96_ 0) 22).toInt = -1; rw [show xi (E96_ 0) 22 = w96_0_22 from vi_e hs96_0_22]; first | exact t75 | omega)) (by show ¬ (xi (E62 0) 22).toInt = -1; rw [show xi (E62 0) 22 = y64 from vi_e fy64]; omega), RdW.nf (by show ¬ (xi (E95 0) 22).toInt = -1; rw [show xi (E95 0) 22 = y97 from vi_e fy97]; omega)⟩⟩, by show va_P (dC, dI) vwCl (WX 72 ad E95) t.heap; rw [ht]; exact hP⟩, hS.F ht⟩) hS.2.2 dX13_atom_122
              · -- isDigitX, case 1
                obtain ⟨rfl, f100⟩ := hw
                refine lv_if_eq (tgt := 162) hx hb dX13_atom_100 (by decide) (fun c101 => ?_) (fun c101 => ?_)
                · --100 taken
                  refine lv_iload_n hx hb dX13_atom_162 rfl (lv_at hl 1 rfl) ?_
                  rw [hQ]
                  exact W.iret (v := v96_2) hx hb hr (fun t ht hW => ⟨⟨v96_2, E96_, rfl, ⟨hI, hKp, ⟨by (try rw [(show xi (E96_ 0) 21 = w96_0_21 from vi_e hs96_0_21)]); (try rw [ey1]); first | done | exact hx96_0 | all_goals omega, by (try rw [(show xi (E96_ 0) 23 = w96_0_23 from vi_e hs96_0_23)]); (try rw [ey3]); first | done | exact hx96_1 | all_goals omega, by (try rw [(show xi (E96_ 0) 22 = w96_0_22 from vi_e hs96_0_22)]); (try rw [(show xi (E96_ 0) 23 = w96_0_23 from vi_e hs96_0_23)]); (try rw [ey2]); (try rw [ey3]); first | done | exact fun q9 => (hx96_2 (q9)) | all_goals omega, by (try rw [(show xi (E96_ 0) 22 = w96_0_22 from vi_e hs96_0_22)]); (try rw [ey2]); first | done | exact fun q9 => hx96_3 (q9) | all_goals omega, (atM_no f12 (pkM_n f12 (by show (xi (E 0) 22).toInt = -1; rw [ey2]; omega) f59) (by rw [show r4.toInt = -1 by omega]; decide) (by omega) f66).fk (by show ¬ (xi (E62 0) 22).toInt = -1; rw [show xi (E62 0) 22 = y64 from vi_e fy64]; omega) hx96_4, RdW.nf (fun q9 => absurd (hx96_4.2.1.symm.trans q9) (show ¬ mFa E62 = -1 from (by show ¬ (xi (E62 0) 22).toInt = -1; rw [show xi (E62 0) 22 = y64 from vi_e fy64]; omega)))⟩⟩, by show va_P (dC, dI) vwCl (WX 72 ad E96_) t.heap; rw [ht]; exact hP⟩, hS.F ht⟩) hS.2.2 dX13_atom_163
                · --100 not
                  exact absurd c101 (by decide)
          exact hL96 (202) y7 y64 y3 (0 : Int32) (0 : Int32) E62 _ _ _ iy7 iy64 iy3 (by  first | exact f9 | omega) (by  first | exact Int.le_refl _ | omega) (by  first | exact fun q9 => absurd (q9) f65 | omega) (by  first | exact fun q9 => absurd (q9) f65 | omega) NumM.rf (by decide) NumX.rf (by have h9 := iy7; first | exact ms_bu h9.1 (by decide) | omega) hI hKp ((kq63 0 21 rfl).trans fy7) fy64 ((kq63 0 23 rfl).trans ((kq6 0 23 rfl).trans fy3)) hP hS (lv_sub hl [0, 1, 2, 3] rfl)
    · --40 not
      have t102 : r4.toInt = 91 := ti_eq c18
      have i103 : 91 ≤ r4.toInt ∧ r4.toInt ≤ -1 := iv_eqi t102 i17 (il_ 91) (by decide)
      exact iv_no i103 (by decide)
  · --7 not
    have t104 : ¬ r4.toInt = -1 := ti_ne c15
    have i105 : 0 ≤ r4.toInt ∧ r4.toInt ≤ 255 := iv_ne_l t104 f8 (il_ (-1))
    obtain ⟨qs, vs, hqR, hSS⟩ := hEV.2.1
    refine th_ldcwS hx hb hown hqR dX13_atom_10 ?_
    refine lv_iload_n hx hb dX13_atom_13 rfl (lv_at hl 0 rfl) ?_
    refine th_pi (va_runV (As := [.int r4]) (rest := []) ⟨hx, hb, hml, hown, hts⟩ (q_indexOf l qs vs tLET r4 (by decide) (by decide)) (cwV 1 hts (gi_V (in_26 _ (zs4 (zs1 (zs1 (zs1 (zs0)))))) (in_8 _ (zs16 (zs16 (zs1 (zs0))))) (in_8 _ (zs16 (zs16 (zs1 (zs1 (zs0)))))) (in_0 _ (zs4 (zs4 (zs4 (zs1 (zs0)))))) (in_0 _ (zs4 (zs4 (zs1 (zs0)))))) rfl rfl rfl ⟨rfl, hz_yJ0_indexOf_0f7a4_1⟩ ⟨(show 3 + 1 ≤ 7 * n + 5 from nl_1 (Nat.le_of_ble_eq_true rfl)), (show 8 + (2 + 11) + 40 * (3) ≤ 40 * (7 * n + 5) from nl_2 (Nat.le_of_ble_eq_true rfl))⟩) ⟨fun a U g mk q => ⟨q.1, SS_c q.2⟩, va_Orecv hSS.1 hS, fun U hU hW => ⟨rfl, SS_w hU hW hS (fun _ h => h.elim) hSS⟩⟩ rfl rfl hl.1 rfl (lv_room (Nat.le_of_ble_eq_true rfl)) dX13_atom_14 ⟨Nat.le_of_ble_eq_true rfl, Nat.le_of_ble_eq_true rfl⟩) hS (fun r106 H1 locs1 hw hk1 hS => ?_)
    have hP := ub_keep hP hk1
    generalize H1 = H at hP hS ⊢
    generalize locs1 = locs at hS ⊢
    obtain ⟨f107, f108⟩ := hw
    refine lv_if_lt (tgt := 37) hx hb dX13_atom_17 (by decide) (fun c109 => ?_) (fun c109 => ?_)
    · --17 taken
      have t110 : r106.toInt < 0 := ti_lt c109
      have i111 : -1 ≤ r106.toInt ∧ r106.toInt ≤ -1 := iv_lt_l t110 f107 (il_ 0) (by decide)
      refine lv_iload_n hx hb dX13_atom_37 rfl (lv_at hl 0 rfl) ?_
      refine lv_bipush (v := 91) hx hb dX13_atom_38 (by decide) ?_
      refine lv_icmp_ne (tgt := 80) hx hb dX13_atom_40 (by decide) (fun c112 => ?_) (fun c112 => ?_)
      · --40 taken
        have t113 : ¬ r4.toInt = 91 := ti_ne c112
        refine lv_aload_n hx hb dX13_atom_80 rfl (lv_at hl 1 rfl) ?_
        refine th_ri (va_runV (As := []) (rest := []) ⟨hx, hb, hml, hown, hts⟩ (q_isDigitX l dC dI cT ad E5 H.size k nl hI (by exact hh0) (by exact hh1) (by exact hh2) (by exact (hKp 0 18 rfl).trans hh3) (by (try rw [hKp.ei 0 19 rfl]); exact hh4)) (cwV 0 hts (gi_V (in_26 _ (zs16 (zs4 (zs1 (zs1 (zs1 (zs0))))))) (in_26 _ (zs16 (zs4 (zs4 (zs0))))) (in_26 _ (zs16 (zs4 (zs4 (zs1 (zs0)))))) (in_24 _ (zs4 (zs4 (zs4 (zs1 (zs1 (zs1 (zs0)))))))) (in_26 _ (zs16 (zs4 (zs4 (zs1 (zs1 (zs0)))))))) rfl rfl rfl ⟨rfl, hz_yX13_isDigit_0⟩ ⟨(show 0 + 1 ≤ 7 * n + 5 from nl_1 (Nat.le_of_ble_eq_true rfl)), (show 8 + (1 + 11) + 40 * (0) ≤ 40 * (7 * n + 5) from nl_2 (Nat.le_of_ble_eq_true rfl))⟩) ⟨HW_bl, va_recv hK hP (ci := 14) (q0 := 0) rfl (hI.ob 0 (Nat.le_of_ble_eq_true rfl) rfl), (HW_wi hP hK (WX_D hD) hS hA hEV)⟩ rfl rfl hl.1 rfl (lv_room (Nat.le_of_ble_eq_true rfl)) dX13_atom_81 ⟨Nat.le_of_ble_eq_true rfl, Nat.le_of_ble_eq_true rfl⟩) hS hP (fun r114 H locs hw hP hS => ?_)
        rcases hw with hw | hw
        · -- isDigitX, case 0
          obtain ⟨rfl, f115, f116⟩ := hw
          try rw [(show xi (E5 0) 21 = y7 from vi_e fy7)] at f115
          try rw [hKp.ei 0 20 rfl] at f115
          refine lv_if_ne (tgt := 92) hx hb dX13_atom_84 (by decide) (fun c117 => ?_) (fun c117 => ?_)
          · --84 taken
            refine lv_iconst (v := 0) hx hb dX13_atom_92 (by decide) ?_
            refine lv_istore_n (lv' := [(2, .int 0), (1, .int r4), (0, .ref (ad 0))]) hx hb dX13_atom_93 rfl hl (by decide) rfl (fun ls hl => ?_)
            have k118 : MZ E E5 := MZ.kp hKp (fun _ => rfl)
            refine lv_iconst (v := 0) hx hb dX13_atom_94 (by decide) ?_
            refine lv_istore_n (lv' := [(3, .int 0), (2, .int 0), (1, .int r4), (0, .ref (ad 0))]) hx hb dX13_atom_95 rfl hl (by decide) rfl (fun ls hl => ?_)
            have hL96 : ∀ d : Nat, ∀ (w96_0_21 : Int32) (w96_0_22 : Int32) (w96_0_23 : Int32) (v96_3 : Int32) (v96_2 : Int32) (E96_ : Nat → va_E) (H : Heap) (locs : List Loc) (ls : Array Slot), 0 ≤ w96_0_21.toInt ∧ w96_0_21.toInt ≤ 201 → -1 ≤ w96_0_22.toInt ∧ w96_0_22.toInt ≤ 201 → 0 ≤ w96_0_23.toInt ∧ w96_0_23.toInt ≤ 8 → y1.toInt ≤ w96_0_21.toInt → y3.toInt ≤ w96_0_23.toInt → (w96_0_22.toInt = -1 → w96_0_23.toInt = y3.toInt) → (w96_0_22.toInt = -1 → y2.toInt = -1) → NumM k v96_3 E5 E96_ → (0 ≤ v96_3.toInt ∧ v96_3.toInt ≤ 5) → NumX k v96_3 v96_2 E5 E96_ → 201 - w96_0_21.toInt < (d : Int) → IX cT shM spM 72 ad E96_ → Kp w_atomW E E96_ → xv (E96_ 0) 21 = .int w96_0_21 → xv (E96_ 0) 22 = .int w96_0_22 → xv (E96_ 0) 23 = .int w96_0_23 → va_P (dC, dI) vwCl (WX 72 ad E96_) H → va_S A s.heap H locs → lv_has ls 4 [(3, .int v96_3), (2, .int v96_2), (1, .int r4), (0, .ref (ad 0))] → W p l e (headSpec v_atomW (rm_atomW n)).room s m args below meth c H locs 0 0 Q (F0 m 96 ls []) := by
              intro d
              induction d with
              | zero =>
                intro w96_0_21 w96_0_22 w96_0_23 v96_3 v96_2 E96_ H locs ls hw96_0_21 hw96_0_22 hw96_0_23 hx96_0 hx96_1 hx96_2 hx96_3 hx96_4 hx96_5 hx96_6 hx96_7 hI hKp hs96_0_21 hs96_0_22 hs96_0_23 hP hS hl
                exact absurd hx96_7 (by first | exact ms_zu hw96_0_21.2 | omega)
              | succ d ih96 =>
                intro w96_0_21 w96_0_22 w96_0_23 v96_3 v96_2 E96_ H locs ls hw96_0_21 hw96_0_22 hw96_0_23 hx96_0 hx96_1 hx96_2 hx96_3 hx96_4 hx96_5 hx96_6 hx96_7 hI hKp hs96_0_21 hs96_0_22 hs96_0_23 hP hS hl
                refine lv_aload_n hx hb dX13_atom_96 rfl (lv_at hl 3 rfl) ?_
                refine th_ri (va_runV (As := []) (rest := []) ⟨hx, hb, hml, hown, hts⟩ (q_isDigitX l dC dI cT ad E96_ H.size k nl hI (by exact hh0) (by exact hh1) (by exact hh2) (by exact (hKp 0 18 rfl).trans hh3) (by (try rw [hKp.ei 0 19 rfl]); exact hh4)) (cwV 0 hts (gi_V (in_26 _ (zs16 (zs4 (zs1 (zs1 (zs1 (zs0))))))) (in_26 _ (zs16 (zs4 (zs4 (zs0))))) (in_26 _ (zs16 (zs4 (zs4 (zs1 (zs0)))))) (in_24 _ (zs4 (zs4 (zs4 (zs1 (zs1 (zs1 (zs0)))))))) (in_26 _ (zs16 (zs4 (zs4 (zs1 (zs1 (zs0)))))))) rfl rfl rfl ⟨rfl, hz_yX13_isDigit_0⟩ ⟨(show 0 + 1 ≤ 7 * n + 5 from nl_1 (Nat.le_of_ble_eq_true rfl)), (show 8 + (1 + 11) + 40 * (0) ≤ 40 * (7 * n + 5) from nl_2 (Nat.le_of_ble_eq_true rfl))⟩) ⟨HW_bl, va_recv hK hP (ci := 14) (q0 := 0) rfl (hI.ob 0 (Nat.le_of_ble_eq_true rfl) rfl), (HW_wi hP hK (WX_D hD) hS hA hEV)⟩ rfl rfl hl.1 rfl (lv_room (Nat.le_of_ble_eq_true rfl)) dX13_atom_97 ⟨Nat.le_of_ble_eq_true rfl, Nat.le_of_ble_eq_true rfl⟩) hS hP (fun r119 H locs hw hP hS => ?_)
                rcases hw with hw | hw
                · -- isDigitX, case 0
                  obtain ⟨rfl, f120, f121⟩ := hw
                  try rw [(show xi (E96_ 0) 21 = w96_0_21 from vi_e hs96_0_21)] at f120
                  try rw [hKp.ei 0 20 rfl] at f120
                  refine lv_if_eq (tgt := 162) hx hb dX13_atom_100 (by decide) (fun c122 => ?_) (fun c122 => ?_)
                  · --100 taken
                    exact absurd c122 (by decide)
                  · --100 not
                    refine lv_aload_n hx hb dX13_atom_103 rfl (lv_at hl 3 rfl) ?_
                    refine th_get (ci := 14) (C := RX13) (T := TX13) (N := 97) (v := .int w96_0_22) hx hb hts hinX13 hown hK hP hI 0 (Nat.le_of_ble_eq_true rfl) rfl rfl 22 (Nat.le_of_ble_eq_true rfl) (hts _ (vA_in _ _ (in_25 _ (zs16 (zs16 (zs4 (zs1 (zs1 (zs1 (zs0)))))))))) (fun _ h9 => h9) hs96_0_22 dX13_atom_104 ?_
                    refine lv_iconst (v := -1) hx hb dX13_atom_107 (by decide) ?_
                    refine lv_icmp_ne (tgt := 162) hx hb dX13_atom_108 (by decide) (fun c123 => ?_) (fun c123 => ?_)
                    · --108 taken
                      have t124 : ¬ w96_0_22.toInt = -1 := ti_ne c123
                      have i125 : 0 ≤ w96_0_22.toInt ∧ w96_0_22.toInt ≤ 201 := iv_ne_l t124 hw96_0_22 (il_ (-1))
                      refine lv_iload_n hx hb dX13_atom_162 rfl (lv_at hl 1 rfl) ?_
                      rw [hQ]
                      exact W.iret (v := v96_2) hx hb hr (fun t ht hW => ⟨⟨v96_2, E96_, rfl, ⟨hI, hKp, ⟨by (try rw [(show xi (E96_ 0) 21 = w96_0_21 from vi_e hs96_0_21)]); (try rw [ey1]); first | done | exact hx96_0 | all_goals omega, by (try rw [(show xi (E96_ 0) 23 = w96_0_23 from vi_e hs96_0_23)]); (try rw [ey3]); first | done | exact hx96_1 | all_goals omega, by (try rw [(show xi (E96_ 0) 22 = w96_0_22 from vi_e hs96_0_22)]); (try rw [(show xi (E96_ 0) 23 = w96_0_23 from vi_e hs96_0_23)]); (try rw [ey2]); (try rw [ey3]); first | done | exact fun q9 => absurd (q9) t124 | all_goals omega, by (try rw [(show xi (E96_ 0) 22 = w96_0_22 from vi_e hs96_0_22)]); (try rw [ey2]); first | done | exact fun q9 => absurd (q9) t124 | all_goals omega, absurd (hx96_4.2.1.trans (by show (xi (E5 0) 22).toInt = -1; rw [show xi (E5 0) 22 = y2 from vi_e ((kq6 0 22 rfl).trans fy2)]; omega)) (by show ¬ (xi (E96_ 0) 22).toInt = -1; rw [show xi (E96_ 0) 22 = w96_0_22 from vi_e hs96_0_22]; omega), RdW.nf (by show ¬ (xi (E96_ 0) 22).toInt = -1; rw [show xi (E96_ 0) 22 = w96_0_22 from vi_e hs96_0_22]; omega)⟩⟩, by show va_P (dC, dI) vwCl (WX 72 ad E96_) t.heap; rw [ht]; exact hP⟩, hS.F ht⟩) hS.2.2 dX13_atom_163
                    · --108 not
                      have t126 : w96_0_22.toInt = -1 := ti_eq c123
                      have i127 : -1 ≤ w96_0_22.toInt ∧ w96_0_22.toInt ≤ -1 := iv_eqi t126 hw96_0_22 (il_ (-1)) (by decide)
                      refine lv_iload_n hx hb dX13_atom_111 rfl (lv_at hl 0 rfl) ?_
                      refine lv_iconst (v := 5) hx hb dX13_atom_112 (by decide) ?_
                      refine lv_icmp_ne (tgt := 123) hx hb dX13_atom_113 (by decide) (fun c128 => ?_) (fun c128 => ?_)
                      · --113 taken
                        have t129 : ¬ v96_3.toInt = 5 := ti_ne c128
                        refine lv_bipush (v := 10) hx hb dX13_atom_123 (by decide) ?_
                        refine lv_iload_n hx hb dX13_atom_125 rfl (lv_at hl 1 rfl) ?_
                        refine lv_imul hx hb dX13_atom_126 ?_
                        refine lv_topi (fun y130 ey130 => ?_)
                        refine lv_aload_n hx hb dX13_atom_127 rfl (lv_at hl 3 rfl) ?_
                        refine th_get (ci := 14) (C := RX13) (T := TX13) (N := 97) (v := .ref (ad k)) hx hb hts hinX13 hown hK hP hI 0 (Nat.le_of_ble_eq_true rfl) rfl rfl 18 (Nat.le_of_ble_eq_true rfl) (hts _ (vA_in _ _ (in_26 _ zs0))) (fun _ h9 => h9) ((hKp 0 18 rfl).trans hh3) dX13_atom_128 ?_
                        refine lv_aload_n hx hb dX13_atom_131 rfl (lv_at hl 3 rfl) ?_
                        refine th_get (ci := 14) (C := RX13) (T := TX13) (N := 97) (v := .int (xi (E 0) 19)) hx hb hts hinX13 hown hK hP hI 0 (Nat.le_of_ble_eq_true rfl) rfl rfl 19 (Nat.le_of_ble_eq_true rfl) (hts _ (vA_in _ _ (in_26 _ (zs1 (zs0))))) (fun _ h9 => h9) (th_v0 hKp hI0 0 (Nat.le_of_ble_eq_true rfl) rfl (Nat.le_of_ble_eq_true rfl) rfl rfl) dX13_atom_132 ?_
                        refine lv_aload_n hx hb dX13_atom_135 rfl (lv_at hl 3 rfl) ?_
                        refine th_get (ci := 14) (C := RX13) (T := TX13) (N := 97) (v := .int w96_0_21) hx hb hts hinX13 hown hK hP hI 0 (Nat.le_of_ble_eq_true rfl) rfl rfl 21 (Nat.le_of_ble_eq_true rfl) (hts _ (vA_in _ _ (in_25 _ (zs16 (zs16 (zs4 (zs0))))))) (fun _ h9 => h9) hs96_0_21 dX13_atom_136 ?_
                        refine lv_iadd hx hb dX13_atom_139 ?_
                        refine lv_topi (fun y131 ey131 => ?_)
                        obtain ⟨ty131, iy131⟩ := ti_add (e := 0) (f := 3201) i13 hw96_0_21 ey131 (by decide)
                        have ty131 : y131.toInt = (xi (E 0) 19).toInt + w96_0_21.toInt := ty131
                        have iy131 : 0 ≤ y131.toInt ∧ y131.toInt ≤ 3201 := iy131
                        have n133 : vp_in y131 nl := (vp_in_iff.mpr ⟨by omega, by omega⟩)
                        refine th_bald hx hb hK hP hI k hh0 hh1 rfl n133 dX13_atom_140 (fun y132 ey132 => ?_)
                        have iy132 : -128 ≤ y132.toInt ∧ y132.toInt ≤ 127 := hI.el k hh0 hh1 n133 hh2 ey132
                        refine lv_iadd hx hb dX13_atom_141 ?_
                        refine lv_topi (fun y134 ey134 => ?_)
                        refine lv_bipush (v := 48) hx hb dX13_atom_142 (by decide) ?_
                        refine lv_isub hx hb dX13_atom_144 ?_
                        refine lv_topi (fun y135 ey135 => ?_)
                        refine lv_istore_n (lv' := [(2, .int y135), (3, .int v96_3), (1, .int r4), (0, .ref (ad 0))]) hx hb dX13_atom_145 rfl hl (by decide) rfl (fun ls hl => ?_)
                        have k136 : mT k E96_ (mA E96_) = y132.toInt := by have q9 := mT_e (k := k) hs96_0_21 (by omega) ey132 (by rw [hKp.ei 0 19 rfl]; omega) (by rw [hKp.ei 0 19 rfl]; omega); have q8 := (f121).2; rw [q9] at q8; unfold dgt at q8; rw [q9]; omega
                        refine lv_aload_n hx hb dX13_atom_146 rfl (lv_at hl 3 rfl) ?_
                        refine lv_dup hx hb dX13_atom_147 rfl ?_
                        refine th_get (ci := 14) (C := RX13) (T := TX13) (N := 97) (v := .int w96_0_21) hx hb hts hinX13 hown hK hP hI 0 (Nat.le_of_ble_eq_true rfl) rfl rfl 21 (Nat.le_of_ble_eq_true rfl) (hts _ (vA_in _ _ (in_25 _ (zs16 (zs16 (zs4 (zs0))))))) (fun _ h9 => h9) hs96_0_21 dX13_atom_148 ?_
                        refine lv_iconst (v := 1) hx hb dX13_atom_151 (by decide) ?_
                        refine lv_iadd hx hb dX13_atom_152 ?_
                        refine lv_topi (fun y137 ey137 => ?_)
                        obtain ⟨ty137, iy137⟩ := ti_add (e := 1) (f := 202) hw96_0_21 ln_1 ey137 (by decide)
                        have ty137 : y137.toInt = w96_0_21.toInt + 1 := ty137
                        have iy137 : 1 ≤ y137.toInt ∧ y137.toInt ≤ 202 := iy137
                        have i138 : 1 ≤ y137.toInt ∧ y137.toInt ≤ 201 := by omega
                        refine th_put (ci := 14) (C := RX13) (T := TX13) (N := 97) (v := .int y137) (ty := .int) hx hb hts hinX13 tyX13 tyX13_ok nmX13 hown hK hP (WX_D hD) hS hI 0 (Nat.le_of_ble_eq_true rfl) rfl rfl 21 (Nat.le_of_ble_eq_true rfl) (hts _ (vA_in _ _ (in_25 _ (zs16 (zs16 (zs4 (zs0))))))) (fun _ h9 => h9) rfl (by decide +kernel) rfl rfl (okI rfl (iv_w i138 (by decide))) dX13_atom_153 (fun H locs E139 pw140 hI hP hS => ?_)
                        have hKp := hKp.pw pw140 rfl
                        have k141 : AtM k E96_ E139 := AtM.pw pw140.2 hk0 (vi_e hs96_0_21) (vi_e pw140.1) ty137 (by omega)
                        obtain ⟨y142, ey142⟩ : ∃ y : Int32, y = v96_3 + (1 : Int32) := ⟨_, rfl⟩
                        refine lv_iinc (v := y142) (lv' := [(3, .int y142), (2, .int y135), (1, .int r4), (0, .ref (ad 0))]) hx hb dX13_atom_156 hl (k := 1) rfl (by rw [ey142]; rfl) (by decide) rfl (fun ls hl => ?_)
                        refine lv_goto (tgt := 96) hx hb dX13_atom_159 (by decide) ?_
                        exact ih96 y137 w96_0_22 w96_0_23 y142 y135 E139 _ _ _ (iv_w i138 (by decide)) (iv_w i127 (by decide)) hw96_0_23 (by  first | exact (Int.le_trans hx96_0 (Int.le_trans (Int.le_add_of_nonneg_right (by decide)) (Int.le_of_eq ty137.symm))) | omega) (by  first | exact hx96_1 | omega) (by  first | exact fun q9 => (hx96_2 (q9)) | omega) (by  first | exact fun q9 => hx96_3 (q9) | omega) (hx96_4.step k141 f121 (by omega) (show y142.toInt = v96_3.toInt + 1 from (ti_add (a := 0) (b := 4) (c := 1) (d := 1) (e := 1) (f := 5) ⟨by omega, by omega⟩ (by decide) ey142 (by decide)).1)) (by have t9 := (show y142.toInt = v96_3.toInt + 1 from (ti_add (a := 0) (b := 4) (c := 1) (d := 1) (e := 1) (f := 5) ⟨by omega, by omega⟩ (by decide) ey142 (by decide)).1); omega) (hx96_6.step hx96_4 k141 f121 k136 (by omega) (show y142.toInt = v96_3.toInt + 1 from (ti_add (a := 0) (b := 4) (c := 1) (d := 1) (e := 1) (f := 5) ⟨by omega, by omega⟩ (by decide) ey142 (by decide)).1) ey130 ey134 ey135) (by omega) hI hKp pw140.1 ((pw140.2 0 22 (fun q9 => absurd q9.2 (Nat.ne_of_beq_eq_false rfl))).trans hs96_0_22) ((pw140.2 0 23 (fun q9 => absurd q9.2 (Nat.ne_of_beq_eq_false rfl))).trans hs96_0_23) hP hS (lv_sub hl [0, 1, 2, 3] rfl)
                      · --113 not
                        have t143 : v96_3.toInt = 5 := ti_eq c128
                        have i144 : 5 ≤ v96_3.toInt ∧ v96_3.toInt ≤ 5 := iv_eqi t143 (iv_all _) (il_ 5) (by decide)
                        refine lv_aload_n hx hb dX13_atom_116 rfl (lv_at hl 3 rfl) ?_
                        refine th_i (va_runV (As := []) (rest := []) ⟨hx, hb, hml, hown, hts⟩ (q_stopX l dC dI cT ad E96_ H.size k nl hI (by exact hh0) (by exact hh1) (by exact hh2) (by exact (hKp 0 18 rfl).trans hh3) (by (try rw [hKp.ei 0 19 rfl]); exact hh4)) (cwV 0 hts (gi_V (in_26 _ (zs4 (zs4 (zs4 (zs0))))) (in_26 _ (zs4 (zs4 (zs4 (zs1 (zs0)))))) (in_26 _ (zs4 (zs4 (zs4 (zs1 (zs1 (zs0))))))) (in_24 _ (zs4 (zs4 (zs4 (zs1 (zs1 (zs1 (zs0)))))))) (in_26 _ (zs4 (zs4 (zs4 (zs1 (zs1 (zs1 (zs0))))))))) rfl rfl rfl ⟨rfl, hz_yX13_stop_0⟩ ⟨(show 0 + 1 ≤ 7 * n + 5 from nl_1 (Nat.le_of_ble_eq_true rfl)), (show 8 + (1 + 11) + 40 * (0) ≤ 40 * (7 * n + 5) from nl_2 (Nat.le_of_ble_eq_true rfl))⟩) ⟨HW_bl, va_recv hK hP (ci := 14) (q0 := 0) rfl (hI.ob 0 (Nat.le_of_ble_eq_true rfl) rfl), (HW_wi hP hK (WX_D hD) hS hA hEV)⟩ rfl rfl hl.1 rfl (lv_room (Nat.le_of_ble_eq_true rfl)) dX13_atom_117 ⟨Nat.le_of_ble_eq_true rfl, Nat.le_of_ble_eq_true rfl⟩) (WX_D hD) hS hA (fun r145 E146 H locs hw hP hS => ?_)
                        obtain ⟨hI, kq147, hw⟩ := hw
                        have hKb := hKp
                        have hKp := hKp.tr kq147 (wl_sub rfl rfl)
                        obtain ⟨y148, ey148⟩ : ∃ y, xi (E146 0) 22 = y := ⟨_, rfl⟩
                        have fy148 : xv (E146 0) 22 = .int y148 := (hI.fi 0 (Nat.le_of_ble_eq_true rfl) rfl (Nat.le_of_ble_eq_true rfl) rfl).trans (congrArg Value.int ey148)
                        have iy148 : -1 ≤ y148.toInt ∧ y148.toInt ≤ 201 := by rw [← ey148]; exact hI.iv 0 (Nat.le_of_ble_eq_true rfl) rfl (Nat.le_of_ble_eq_true rfl) rfl
                        obtain ⟨rfl, f149, f150⟩ := hw
                        try rw [(show xi (E96_ 0) 22 = w96_0_22 from vi_e hs96_0_22)] at f149
                        try rw [(show xi (E146 0) 22 = y148 from vi_e fy148)] at f149
                        refine lv_pop hx hb dX13_atom_120 rfl ?_
                        refine lv_iconst (v := 0) hx hb dX13_atom_121 (by decide) ?_
                        rw [hQ]
                        exact W.iret (v := 0) hx hb hr (fun t ht hW => ⟨⟨0, E146, rfl, ⟨hI, hKp, ⟨by (try rw [(show xi (E146 0) 21 = w96_0_21 from vi_e ((kq147 0 21 rfl).trans hs96_0_21))]); (try rw [ey1]); first | done | exact hx96_0 | have h8 := ln_0; all_goals omega, by (try rw [(show xi (E146 0) 23 = w96_0_23 from vi_e ((kq147 0 23 rfl).trans hs96_0_23))]); (try rw [ey3]); first | done | exact hx96_1 | have h8 := ln_0; all_goals omega, by (try rw [(show xi (E146 0) 22 = y148 from vi_e fy148)]); (try rw [(show xi (E146 0) 23 = w96_0_23 from vi_e ((kq147 0 23 rfl).trans hs96_0_23))]); (try rw [ey2]); (try rw [ey3]); first | done | exact fun q9 => absurd (q9) f149 | have h8 := ln_0; all_goals omega, by (try rw [(show xi (E146 0) 22 = y148 from vi_e fy148)]); (try rw [ey2]); first | done | exact fun q9 => absurd (q9) f149 | have h8 := ln_0; all_goals omega, atM_num f12 (pkM_d f12 (by show (xi (E 0) 22).toInt = -1; rw [ey2]; omega) f116) (hx96_4.six f150 (by omega) f121), RdW.nf (by show ¬ (xi (E146 0) 22).toInt = -1; rw [show xi (E146 0) 22 = y148 from vi_e fy148]; omega)⟩⟩, by show va_P (dC, dI) vwCl (WX 72 ad E146) t.heap; rw [ht]; exact hP⟩, hS.F ht⟩) hS.2.2 dX13_atom_122
                · -- isDigitX, case 1
                  obtain ⟨rfl, f151⟩ := hw
                  refine lv_if_eq (tgt := 162) hx hb dX13_atom_100 (by decide) (fun c152 => ?_) (fun c152 => ?_)
                  · --100 taken
                    refine lv_iload_n hx hb dX13_atom_162 rfl (lv_at hl 1 rfl) ?_
                    rw [hQ]
                    exact W.iret (v := v96_2) hx hb hr (fun t ht hW => ⟨⟨v96_2, E96_, rfl, ⟨hI, hKp, ⟨by (try rw [(show xi (E96_ 0) 21 = w96_0_21 from vi_e hs96_0_21)]); (try rw [ey1]); first | done | exact hx96_0 | all_goals omega, by (try rw [(show xi (E96_ 0) 23 = w96_0_23 from vi_e hs96_0_23)]); (try rw [ey3]); first | done | exact hx96_1 | all_goals omega, by (try rw [(show xi (E96_ 0) 22 = w96_0_22 from vi_e hs96_0_22)]); (try rw [(show xi (E96_ 0) 23 = w96_0_23 from vi_e hs96_0_23)]); (try rw [ey2]); (try rw [ey3]); first | done | exact fun q9 => (hx96_2 (q9)) | all_goals omega, by (try rw [(show xi (E96_ 0) 22 = w96_0_22 from vi_e hs96_0_22)]); (try rw [ey2]); first | done | exact fun q9 => hx96_3 (q9) | all_goals omega, atM_num f12 (pkM_d f12 (by show (xi (E 0) 22).toInt = -1; rw [ey2]; omega) f116) (hx96_4.out f151), atW_num f12 (pkM_d f12 (by show (xi (E 0) 22).toInt = -1; rw [ey2]; omega) f116) k118 (hx96_6.out hx96_4 f151)⟩⟩, by show va_P (dC, dI) vwCl (WX 72 ad E96_) t.heap; rw [ht]; exact hP⟩, hS.F ht⟩) hS.2.2 dX13_atom_163
                  · --100 not
                    exact absurd c152 (by decide)
            exact hL96 (202) y7 y2 y3 (0 : Int32) (0 : Int32) E5 _ _ _ iy7 iy2 iy3 (by  first | exact f9 | omega) (by  first | exact Int.le_refl _ | omega) (by  first | exact fun q9 => rfl | omega) (by  first | exact fun q9 => q9 | omega) NumM.rf (by decide) NumX.rf (by have h9 := iy7; first | exact ms_bu h9.1 (by decide) | omega) hI hKp fy7 ((kq6 0 22 rfl).trans fy2) ((kq6 0 23 rfl).trans fy3) hP hS (lv_sub hl [0, 1, 2, 3] rfl)
          · --84 not
            exact absurd c117 (by decide)
        · -- isDigitX, case 1
          obtain ⟨rfl, f153⟩ := hw
          refine lv_if_ne (tgt := 92) hx hb dX13_atom_84 (by decide) (fun c154 => ?_) (fun c154 => ?_)
          · --84 taken
            exact absurd c154 (by decide)
          · --84 not
            refine lv_aload_n hx hb dX13_atom_87 rfl (lv_at hl 1 rfl) ?_
            refine th_i (va_runV (As := []) (rest := []) ⟨hx, hb, hml, hown, hts⟩ (q_stopX l dC dI cT ad E5 H.size k nl hI (by exact hh0) (by exact hh1) (by exact hh2) (by exact (hKp 0 18 rfl).trans hh3) (by (try rw [hKp.ei 0 19 rfl]); exact hh4)) (cwV 0 hts (gi_V (in_26 _ (zs4 (zs4 (zs4 (zs0))))) (in_26 _ (zs4 (zs4 (zs4 (zs1 (zs0)))))) (in_26 _ (zs4 (zs4 (zs4 (zs1 (zs1 (zs0))))))) (in_24 _ (zs4 (zs4 (zs4 (zs1 (zs1 (zs1 (zs0)))))))) (in_26 _ (zs4 (zs4 (zs4 (zs1 (zs1 (zs1 (zs0))))))))) rfl rfl rfl ⟨rfl, hz_yX13_stop_0⟩ ⟨(show 0 + 1 ≤ 7 * n + 5 from nl_1 (Nat.le_of_ble_eq_true rfl)), (show 8 + (1 + 11) + 40 * (0) ≤ 40 * (7 * n + 5) from nl_2 (Nat.le_of_ble_eq_true rfl))⟩) ⟨HW_bl, va_recv hK hP (ci := 14) (q0 := 0) rfl (hI.ob 0 (Nat.le_of_ble_eq_true rfl) rfl), (HW_wi hP hK (WX_D hD) hS hA hEV)⟩ rfl rfl hl.1 rfl (lv_room (Nat.le_of_ble_eq_true rfl)) dX13_atom_88 ⟨Nat.le_of_ble_eq_true rfl, Nat.le_of_ble_eq_true rfl⟩) (WX_D hD) hS hA (fun r155 E156 H locs hw hP hS => ?_)
            obtain ⟨hI, kq157, hw⟩ := hw
            have hKb := hKp
            have hKp := hKp.tr kq157 (wl_sub rfl rfl)
            obtain ⟨y158, ey158⟩ : ∃ y, xi (E156 0) 22 = y := ⟨_, rfl⟩
            have fy158 : xv (E156 0) 22 = .int y158 := (hI.fi 0 (Nat.le_of_ble_eq_true rfl) rfl (Nat.le_of_ble_eq_true rfl) rfl).trans (congrArg Value.int ey158)
            have iy158 : -1 ≤ y158.toInt ∧ y158.toInt ≤ 201 := by rw [← ey158]; exact hI.iv 0 (Nat.le_of_ble_eq_true rfl) rfl (Nat.le_of_ble_eq_true rfl) rfl
            obtain ⟨rfl, f159, f160⟩ := hw
            try rw [(show xi (E5 0) 22 = y2 from vi_e ((kq6 0 22 rfl).trans fy2))] at f159
            try rw [(show xi (E156 0) 22 = y158 from vi_e fy158)] at f159
            refine lv_pop hx hb dX13_atom_91 rfl ?_
            refine lv_iconst (v := 0) hx hb dX13_atom_92 (by decide) ?_
            refine lv_istore_n (lv' := [(2, .int 0), (1, .int r4), (0, .ref (ad 0))]) hx hb dX13_atom_93 rfl hl (by decide) rfl (fun ls hl => ?_)
            have k161 : MZ E E156 := MZ.kp hKp (fun _ => rfl)
            refine lv_iconst (v := 0) hx hb dX13_atom_94 (by decide) ?_
            refine lv_istore_n (lv' := [(3, .int 0), (2, .int 0), (1, .int r4), (0, .ref (ad 0))]) hx hb dX13_atom_95 rfl hl (by decide) rfl (fun ls hl => ?_)
            have hL96 : ∀ d : Nat, ∀ (w96_0_21 : Int32) (w96_0_22 : Int32) (w96_0_23 : Int32) (v96_3 : Int32) (v96_2 : Int32) (E96_ : Nat → va_E) (H : Heap) (locs : List Loc) (ls : Array Slot), 0 ≤ w96_0_21.toInt ∧ w96_0_21.toInt ≤ 201 → -1 ≤ w96_0_22.toInt ∧ w96_0_22.toInt ≤ 201 → 0 ≤ w96_0_23.toInt ∧ w96_0_23.toInt ≤ 8 → y1.toInt ≤ w96_0_21.toInt → y3.toInt ≤ w96_0_23.toInt → (w96_0_22.toInt = -1 → w96_0_23.toInt = y3.toInt) → (w96_0_22.toInt = -1 → y2.toInt = -1) → NumM k v96_3 E156 E96_ → (0 ≤ v96_3.toInt ∧ v96_3.toInt ≤ 5) → NumX k v96_3 v96_2 E156 E96_ → 201 - w96_0_21.toInt < (d : Int) → IX cT shM spM 72 ad E96_ → Kp w_atomW E E96_ → xv (E96_ 0) 21 = .int w96_0_21 → xv (E96_ 0) 22 = .int w96_0_22 → xv (E96_ 0) 23 = .int w96_0_23 → va_P (dC, dI) vwCl (WX 72 ad E96_) H → va_S A s.heap H locs → lv_has ls 4 [(3, .int v96_3), (2, .int v96_2), (1, .int r4), (0, .ref (ad 0))] → W p l e (headSpec v_atomW (rm_atomW n)).room s m args below meth c H locs 0 0 Q (F0 m 96 ls []) := by
              intro d
              induction d with
              | zero =>
                intro w96_0_21 w96_0_22 w96_0_23 v96_3 v96_2 E96_ H locs ls hw96_0_21 hw96_0_22 hw96_0_23 hx96_0 hx96_1 hx96_2 hx96_3 hx96_4 hx96_5 hx96_6 hx96_7 hI hKp hs96_0_21 hs96_0_22 hs96_0_23 hP hS hl
                exact absurd hx96_7 (by first | exact ms_zu hw96_0_21.2 | omega)
              | succ d ih96 =>
                intro w96_0_21 w96_0_22 w96_0_23 v96_3 v96_2 E96_ H locs ls hw96_0_21 hw96_0_22 hw96_0_23 hx96_0 hx96_1 hx96_2 hx96_3 hx96_4 hx96_5 hx96_6 hx96_7 hI hKp hs96_0_21 hs96_0_22 hs96_0_23 hP hS hl
                refine lv_aload_n hx hb dX13_atom_96 rfl (lv_at hl 3 rfl) ?_
                refine th_ri (va_runV (As := []) (rest := []) ⟨hx, hb, hml, hown, hts⟩ (q_isDigitX l dC dI cT ad E96_ H.size k nl hI (by exact hh0) (by exact hh1) (by exact hh2) (by exact (hKp 0 18 rfl).trans hh3) (by (try rw [hKp.ei 0 19 rfl]); exact hh4)) (cwV 0 hts (gi_V (in_26 _ (zs16 (zs4 (zs1 (zs1 (zs1 (zs0))))))) (in_26 _ (zs16 (zs4 (zs4 (zs0))))) (in_26 _ (zs16 (zs4 (zs4 (zs1 (zs0)))))) (in_24 _ (zs4 (zs4 (zs4 (zs1 (zs1 (zs1 (zs0)))))))) (in_26 _ (zs16 (zs4 (zs4 (zs1 (zs1 (zs0)))))))) rfl rfl rfl ⟨rfl, hz_yX13_isDigit_0⟩ ⟨(show 0 + 1 ≤ 7 * n + 5 from nl_1 (Nat.le_of_ble_eq_true rfl)), (show 8 + (1 + 11) + 40 * (0) ≤ 40 * (7 * n + 5) from nl_2 (Nat.le_of_ble_eq_true rfl))⟩) ⟨HW_bl, va_recv hK hP (ci := 14) (q0 := 0) rfl (hI.ob 0 (Nat.le_of_ble_eq_true rfl) rfl), (HW_wi hP hK (WX_D hD) hS hA hEV)⟩ rfl rfl hl.1 rfl (lv_room (Nat.le_of_ble_eq_true rfl)) dX13_atom_97 ⟨Nat.le_of_ble_eq_true rfl, Nat.le_of_ble_eq_true rfl⟩) hS hP (fun r162 H locs hw hP hS => ?_)
                rcases hw with hw | hw
                · -- isDigitX, case 0
                  obtain ⟨rfl, f163, f164⟩ := hw
                  try rw [(show xi (E96_ 0) 21 = w96_0_21 from vi_e hs96_0_21)] at f163
                  try rw [hKp.ei 0 20 rfl] at f163
                  refine lv_if_eq (tgt := 162) hx hb dX13_atom_100 (by decide) (fun c165 => ?_) (fun c165 => ?_)
                  · --100 taken
                    exact absurd c165 (by decide)
                  · --100 not
                    refine lv_aload_n hx hb dX13_atom_103 rfl (lv_at hl 3 rfl) ?_
                    refine th_get (ci := 14) (C := RX13) (T := TX13) (N := 97) (v := .int w96_0_22) hx hb hts hinX13 hown hK hP hI 0 (Nat.le_of_ble_eq_true rfl) rfl rfl 22 (Nat.le_of_ble_eq_true rfl) (hts _ (vA_in _ _ (in_25 _ (zs16 (zs16 (zs4 (zs1 (zs1 (zs1 (zs0)))))))))) (fun _ h9 => h9) hs96_0_22 dX13_atom_104 ?_
                    refine lv_iconst (v := -1) hx hb dX13_atom_107 (by decide) ?_
                    refine lv_icmp_ne (tgt := 162) hx hb dX13_atom_108 (by decide) (fun c166 => ?_) (fun c166 => ?_)
                    · --108 taken
                      have t167 : ¬ w96_0_22.toInt = -1 := ti_ne c166
                      have i168 : 0 ≤ w96_0_22.toInt ∧ w96_0_22.toInt ≤ 201 := iv_ne_l t167 hw96_0_22 (il_ (-1))
                      refine lv_iload_n hx hb dX13_atom_162 rfl (lv_at hl 1 rfl) ?_
                      rw [hQ]
                      exact W.iret (v := v96_2) hx hb hr (fun t ht hW => ⟨⟨v96_2, E96_, rfl, ⟨hI, hKp, ⟨by (try rw [(show xi (E96_ 0) 21 = w96_0_21 from vi_e hs96_0_21)]); (try rw [ey1]); first | done | exact hx96_0 | all_goals omega, by (try rw [(show xi (E96_ 0) 23 = w96_0_23 from vi_e hs96_0_23)]); (try rw [ey3]); first | done | exact hx96_1 | all_goals omega, by (try rw [(show xi (E96_ 0) 22 = w96_0_22 from vi_e hs96_0_22)]); (try rw [(show xi (E96_ 0) 23 = w96_0_23 from vi_e hs96_0_23)]); (try rw [ey2]); (try rw [ey3]); first | done | exact fun q9 => absurd (q9) t167 | all_goals omega, by (try rw [(show xi (E96_ 0) 22 = w96_0_22 from vi_e hs96_0_22)]); (try rw [ey2]); first | done | exact fun q9 => absurd (q9) t167 | all_goals omega, (atM_no f12 (pkM_n f12 (by show (xi (E 0) 22).toInt = -1; rw [ey2]; omega) f153) (fun q9 => by have q8 := ix_let.mpr q9; rw [← f108] at q8; omega) (by omega) f160).fk (by show ¬ (xi (E156 0) 22).toInt = -1; rw [show xi (E156 0) 22 = y158 from vi_e fy158]; omega) hx96_4, RdW.nf (fun q9 => absurd (hx96_4.2.1.symm.trans q9) (show ¬ mFa E156 = -1 from (by show ¬ (xi (E156 0) 22).toInt = -1; rw [show xi (E156 0) 22 = y158 from vi_e fy158]; omega)))⟩⟩, by show va_P (dC, dI) vwCl (WX 72 ad E96_) t.heap; rw [ht]; exact hP⟩, hS.F ht⟩) hS.2.2 dX13_atom_163
                    · --108 not
                      have t169 : w96_0_22.toInt = -1 := ti_eq c166
                      have i170 : -1 ≤ w96_0_22.toInt ∧ w96_0_22.toInt ≤ -1 := iv_eqi t169 hw96_0_22 (il_ (-1)) (by decide)
                      refine lv_iload_n hx hb dX13_atom_111 rfl (lv_at hl 0 rfl) ?_
                      refine lv_iconst (v := 5) hx hb dX13_atom_112 (by decide) ?_
                      refine lv_icmp_ne (tgt := 123) hx hb dX13_atom_113 (by decide) (fun c171 => ?_) (fun c171 => ?_)
                      · --113 taken
                        have t172 : ¬ v96_3.toInt = 5 := ti_ne c171
                        refine lv_bipush (v := 10) hx hb dX13_atom_123 (by decide) ?_
                        refine lv_iload_n hx hb dX13_atom_125 rfl (lv_at hl 1 rfl) ?_
                        refine lv_imul hx hb dX13_atom_126 ?_
                        refine lv_topi (fun y173 ey173 => ?_)
                        refine lv_aload_n hx hb dX13_atom_127 rfl (lv_at hl 3 rfl) ?_
                        refine th_get (ci := 14) (C := RX13) (T := TX13) (N := 97) (v := .ref (ad k)) hx hb hts hinX13 hown hK hP hI 0 (Nat.le_of_ble_eq_true rfl) rfl rfl 18 (Nat.le_of_ble_eq_true rfl) (hts _ (vA_in _ _ (in_26 _ zs0))) (fun _ h9 => h9) ((hKp 0 18 rfl).trans hh3) dX13_atom_128 ?_
                        refine lv_aload_n hx hb dX13_atom_131 rfl (lv_at hl 3 rfl) ?_
                        refine th_get (ci := 14) (C := RX13) (T := TX13) (N := 97) (v := .int (xi (E 0) 19)) hx hb hts hinX13 hown hK hP hI 0 (Nat.le_of_ble_eq_true rfl) rfl rfl 19 (Nat.le_of_ble_eq_true rfl) (hts _ (vA_in _ _ (in_26 _ (zs1 (zs0))))) (fun _ h9 => h9) (th_v0 hKp hI0 0 (Nat.le_of_ble_eq_true rfl) rfl (Nat.le_of_ble_eq_true rfl) rfl rfl) dX13_atom_132 ?_
                        refine lv_aload_n hx hb dX13_atom_135 rfl (lv_at hl 3 rfl) ?_
                        refine th_get (ci := 14) (C := RX13) (T := TX13) (N := 97) (v := .int w96_0_21) hx hb hts hinX13 hown hK hP hI 0 (Nat.le_of_ble_eq_true rfl) rfl rfl 21 (Nat.le_of_ble_eq_true rfl) (hts _ (vA_in _ _ (in_25 _ (zs16 (zs16 (zs4 (zs0))))))) (fun _ h9 => h9) hs96_0_21 dX13_atom_136 ?_
                        refine lv_iadd hx hb dX13_atom_139 ?_
                        refine lv_topi (fun y174 ey174 => ?_)
                        obtain ⟨ty174, iy174⟩ := ti_add (e := 0) (f := 3201) i13 hw96_0_21 ey174 (by decide)
                        have ty174 : y174.toInt = (xi (E 0) 19).toInt + w96_0_21.toInt := ty174
                        have iy174 : 0 ≤ y174.toInt ∧ y174.toInt ≤ 3201 := iy174
                        have n176 : vp_in y174 nl := (vp_in_iff.mpr ⟨by omega, by omega⟩)
                        refine th_bald hx hb hK hP hI k hh0 hh1 rfl n176 dX13_atom_140 (fun y175 ey175 => ?_)
                        have iy175 : -128 ≤ y175.toInt ∧ y175.toInt ≤ 127 := hI.el k hh0 hh1 n176 hh2 ey175
                        refine lv_iadd hx hb dX13_atom_141 ?_
                        refine lv_topi (fun y177 ey177 => ?_)
                        refine lv_bipush (v := 48) hx hb dX13_atom_142 (by decide) ?_
                        refine lv_isub hx hb dX13_atom_144 ?_
                        refine lv_topi (fun y178 ey178 => ?_)
                        refine lv_istore_n (lv' := [(2, .int y178), (3, .int v96_3), (1, .int r4), (0, .ref (ad 0))]) hx hb dX13_atom_145 rfl hl (by decide) rfl (fun ls hl => ?_)
                        have k179 : mT k E96_ (mA E96_) = y175.toInt := by have q9 := mT_e (k := k) hs96_0_21 (by omega) ey175 (by rw [hKp.ei 0 19 rfl]; omega) (by rw [hKp.ei 0 19 rfl]; omega); have q8 := (f164).2; rw [q9] at q8; unfold dgt at q8; rw [q9]; omega
                        refine lv_aload_n hx hb dX13_atom_146 rfl (lv_at hl 3 rfl) ?_
                        refine lv_dup hx hb dX13_atom_147 rfl ?_
                        refine th_get (ci := 14) (C := RX13) (T := TX13) (N := 97) (v := .int w96_0_21) hx hb hts hinX13 hown hK hP hI 0 (Nat.le_of_ble_eq_true rfl) rfl rfl 21 (Nat.le_of_ble_eq_true rfl) (hts _ (vA_in _ _ (in_25 _ (zs16 (zs16 (zs4 (zs0))))))) (fun _ h9 => h9) hs96_0_21 dX13_atom_148 ?_
                        refine lv_iconst (v := 1) hx hb dX13_atom_151 (by decide) ?_
                        refine lv_iadd hx hb dX13_atom_152 ?_
                        refine lv_topi (fun y180 ey180 => ?_)
                        obtain ⟨ty180, iy180⟩ := ti_add (e := 1) (f := 202) hw96_0_21 ln_1 ey180 (by decide)
                        have ty180 : y180.toInt = w96_0_21.toInt + 1 := ty180
                        have iy180 : 1 ≤ y180.toInt ∧ y180.toInt ≤ 202 := iy180
                        have i181 : 1 ≤ y180.toInt ∧ y180.toInt ≤ 201 := by omega
                        refine th_put (ci := 14) (C := RX13) (T := TX13) (N := 97) (v := .int y180) (ty := .int) hx hb hts hinX13 tyX13 tyX13_ok nmX13 hown hK hP (WX_D hD) hS hI 0 (Nat.le_of_ble_eq_true rfl) rfl rfl 21 (Nat.le_of_ble_eq_true rfl) (hts _ (vA_in _ _ (in_25 _ (zs16 (zs16 (zs4 (zs0))))))) (fun _ h9 => h9) rfl (by decide +kernel) rfl rfl (okI rfl (iv_w i181 (by decide))) dX13_atom_153 (fun H locs E182 pw183 hI hP hS => ?_)
                        have hKp := hKp.pw pw183 rfl
                        have k184 : AtM k E96_ E182 := AtM.pw pw183.2 hk0 (vi_e hs96_0_21) (vi_e pw183.1) ty180 (by omega)
                        obtain ⟨y185, ey185⟩ : ∃ y : Int32, y = v96_3 + (1 : Int32) := ⟨_, rfl⟩
                        refine lv_iinc (v := y185) (lv' := [(3, .int y185), (2, .int y178), (1, .int r4), (0, .ref (ad 0))]) hx hb dX13_atom_156 hl (k := 1) rfl (by rw [ey185]; rfl) (by decide) rfl (fun ls hl => ?_)
                        refine lv_goto (tgt := 96) hx hb dX13_atom_159 (by decide) ?_
                        exact ih96 y180 w96_0_22 w96_0_23 y185 y178 E182 _ _ _ (iv_w i181 (by decide)) (iv_w i170 (by decide)) hw96_0_23 (by  first | exact (Int.le_trans hx96_0 (Int.le_trans (Int.le_add_of_nonneg_right (by decide)) (Int.le_of_eq ty180.symm))) | omega) (by  first | exact hx96_1 | omega) (by  first | exact fun q9 => (hx96_2 (q9)) | omega) (by  first | exact fun q9 => hx96_3 (q9) | omega) (hx96_4.step k184 f164 (by omega) (show y185.toInt = v96_3.toInt + 1 from (ti_add (a := 0) (b := 4) (c := 1) (d := 1) (e := 1) (f := 5) ⟨by omega, by omega⟩ (by decide) ey185 (by decide)).1)) (by have t9 := (show y185.toInt = v96_3.toInt + 1 from (ti_add (a := 0) (b := 4) (c := 1) (d := 1) (e := 1) (f := 5) ⟨by omega, by omega⟩ (by decide) ey185 (by decide)).1); omega) (hx96_6.step hx96_4 k184 f164 k179 (by omega) (show y185.toInt = v96_3.toInt + 1 from (ti_add (a := 0) (b := 4) (c := 1) (d := 1) (e := 1) (f := 5) ⟨by omega, by omega⟩ (by decide) ey185 (by decide)).1) ey173 ey177 ey178) (by omega) hI hKp pw183.1 ((pw183.2 0 22 (fun q9 => absurd q9.2 (Nat.ne_of_beq_eq_false rfl))).trans hs96_0_22) ((pw183.2 0 23 (fun q9 => absurd q9.2 (Nat.ne_of_beq_eq_false rfl))).trans hs96_0_23) hP hS (lv_sub hl [0, 1, 2, 3] rfl)
                      · --113 not
                        have t186 : v96_3.toInt = 5 := ti_eq c171
                        have i187 : 5 ≤ v96_3.toInt ∧ v96_3.toInt ≤ 5 := iv_eqi t186 (iv_all _) (il_ 5) (by decide)
                        refine lv_aload_n hx hb dX13_atom_116 rfl (lv_at hl 3 rfl) ?_
                        refine th_i (va_runV (As := []) (rest := []) ⟨hx, hb, hml, hown, hts⟩ (q_stopX l dC dI cT ad E96_ H.size k nl hI (by exact hh0) (by exact hh1) (by exact hh2) (by exact (hKp 0 18 rfl).trans hh3) (by (try rw [hKp.ei 0 19 rfl]); exact hh4)) (cwV 0 hts (gi_V (in_26 _ (zs4 (zs4 (zs4 (zs0))))) (in_26 _ (zs4 (zs4 (zs4 (zs1 (zs0)))))) (in_26 _ (zs4 (zs4 (zs4 (zs1 (zs1 (zs0))))))) (in_24 _ (zs4 (zs4 (zs4 (zs1 (zs1 (zs1 (zs0)))))))) (in_26 _ (zs4 (zs4 (zs4 (zs1 (zs1 (zs1 (zs0))))))))) rfl rfl rfl ⟨rfl, hz_yX13_stop_0⟩ ⟨(show 0 + 1 ≤ 7 * n + 5 from nl_1 (Nat.le_of_ble_eq_true rfl)), (show 8 + (1 + 11) + 40 * (0) ≤ 40 * (7 * n + 5) from nl_2 (Nat.le_of_ble_eq_true rfl))⟩) ⟨HW_bl, va_recv hK hP (ci := 14) (q0 := 0) rfl (hI.ob 0 (Nat.le_of_ble_eq_true rfl) rfl), (HW_wi hP hK (WX_D hD) hS hA hEV)⟩ rfl rfl hl.1 rfl (lv_room (Nat.le_of_ble_eq_true rfl)) dX13_atom_117 ⟨Nat.le_of_ble_eq_true rfl, Nat.le_of_ble_eq_true rfl⟩) (WX_D hD) hS hA (fun r188 E189 H locs hw hP hS => ?_)
                        obtain ⟨hI, kq190, hw⟩ := hw
                        have hKb := hKp
                        have hKp := hKp.tr kq190 (wl_sub rfl rfl)
                        obtain ⟨y191, ey191⟩ : ∃ y, xi (E189 0) 22 = y := ⟨_, rfl⟩
                        have fy191 : xv (E189 0) 22 = .int y191 := (hI.fi 0 (Nat.le_of_ble_eq_true rfl) rfl (Nat.le_of_ble_eq_true rfl) rfl).trans (congrArg Value.int ey191)
                        have iy191 : -1 ≤ y191.toInt ∧ y191.toInt ≤ 201 := by rw [← ey191]; exact hI.iv 0 (Nat.le_of_ble_eq_true rfl) rfl (Nat.le_of_ble_eq_true rfl) rfl
                        obtain ⟨rfl, f192, f193⟩ := hw
                        try rw [(show xi (E96_ 0) 22 = w96_0_22 from vi_e hs96_0_22)] at f192
                        try rw [(show xi (E189 0) 22 = y191 from vi_e fy191)] at f192
                        refine lv_pop hx hb dX13_atom_120 rfl ?_
                        refine lv_iconst (v := 0) hx hb dX13_atom_121 (by decide) ?_
                        rw [hQ]
                        exact W.iret (v := 0) hx hb hr (fun t ht hW => ⟨⟨0, E189, rfl, ⟨hI, hKp, ⟨by (try rw [(show xi (E189 0) 21 = w96_0_21 from vi_e ((kq190 0 21 rfl).trans hs96_0_21))]); (try rw [ey1]); first | done | exact hx96_0 | have h8 := ln_0; all_goals omega, by (try rw [(show xi (E189 0) 23 = w96_0_23 from vi_e ((kq190 0 23 rfl).trans hs96_0_23))]); (try rw [ey3]); first | done | exact hx96_1 | have h8 := ln_0; all_goals omega, by (try rw [(show xi (E189 0) 22 = y191 from vi_e fy191)]); (try rw [(show xi (E189 0) 23 = w96_0_23 from vi_e ((kq190 0 23 rfl).trans hs96_0_23))]); (try rw [ey2]); (try rw [ey3]); first | done | exact fun q9 => absurd (q9) f192 | have h8 := ln_0; all_goals omega, by (try rw [(show xi (E189 0) 22 = y191 from vi_e fy191)]); (try rw [ey2]); first | done | exact fun q9 => absurd (q9) f192 | have h8 := ln_0; all_goals omega, absurd (hx96_4.2.1.symm.trans (by show (xi (E96_ 0) 22).toInt = -1; rw [show xi (E96_ 0) 22 = w96_0_22 from vi_e hs96_0_22]; first | exact t169 | omega)) (by show ¬ (xi (E156 0) 22).toInt = -1; rw [show xi (E156 0) 22 = y158 from vi_e fy158]; omega), RdW.nf (by show ¬ (xi (E189 0) 22).toInt = -1; rw [show xi (E189 0) 22 = y191 from vi_e fy191]; omega)⟩⟩, by show va_P (dC, dI) vwCl (WX 72 ad E189) t.heap; rw [ht]; exact hP⟩, hS.F ht⟩) hS.2.2 dX13_atom_122
                · -- isDigitX, case 1
                  obtain ⟨rfl, f194⟩ := hw
                  refine lv_if_eq (tgt := 162) hx hb dX13_atom_100 (by decide) (fun c195 => ?_) (fun c195 => ?_)
                  · --100 taken
                    refine lv_iload_n hx hb dX13_atom_162 rfl (lv_at hl 1 rfl) ?_
                    rw [hQ]
                    exact W.iret (v := v96_2) hx hb hr (fun t ht hW => ⟨⟨v96_2, E96_, rfl, ⟨hI, hKp, ⟨by (try rw [(show xi (E96_ 0) 21 = w96_0_21 from vi_e hs96_0_21)]); (try rw [ey1]); first | done | exact hx96_0 | all_goals omega, by (try rw [(show xi (E96_ 0) 23 = w96_0_23 from vi_e hs96_0_23)]); (try rw [ey3]); first | done | exact hx96_1 | all_goals omega, by (try rw [(show xi (E96_ 0) 22 = w96_0_22 from vi_e hs96_0_22)]); (try rw [(show xi (E96_ 0) 23 = w96_0_23 from vi_e hs96_0_23)]); (try rw [ey2]); (try rw [ey3]); first | done | exact fun q9 => (hx96_2 (q9)) | all_goals omega, by (try rw [(show xi (E96_ 0) 22 = w96_0_22 from vi_e hs96_0_22)]); (try rw [ey2]); first | done | exact fun q9 => hx96_3 (q9) | all_goals omega, (atM_no f12 (pkM_n f12 (by show (xi (E 0) 22).toInt = -1; rw [ey2]; omega) f153) (fun q9 => by have q8 := ix_let.mpr q9; rw [← f108] at q8; omega) (by omega) f160).fk (by show ¬ (xi (E156 0) 22).toInt = -1; rw [show xi (E156 0) 22 = y158 from vi_e fy158]; omega) hx96_4, RdW.nf (fun q9 => absurd (hx96_4.2.1.symm.trans q9) (show ¬ mFa E156 = -1 from (by show ¬ (xi (E156 0) 22).toInt = -1; rw [show xi (E156 0) 22 = y158 from vi_e fy158]; omega)))⟩⟩, by show va_P (dC, dI) vwCl (WX 72 ad E96_) t.heap; rw [ht]; exact hP⟩, hS.F ht⟩) hS.2.2 dX13_atom_163
                  · --100 not
                    exact absurd c195 (by decide)
            exact hL96 (202) y7 y158 y3 (0 : Int32) (0 : Int32) E156 _ _ _ iy7 iy158 iy3 (by  first | exact f9 | omega) (by  first | exact Int.le_refl _ | omega) (by  first | exact fun q9 => absurd (q9) f159 | omega) (by  first | exact fun q9 => absurd (q9) f159 | omega) NumM.rf (by decide) NumX.rf (by have h9 := iy7; first | exact ms_bu h9.1 (by decide) | omega) hI hKp ((kq157 0 21 rfl).trans fy7) fy158 ((kq157 0 23 rfl).trans ((kq6 0 23 rfl).trans fy3)) hP hS (lv_sub hl [0, 1, 2, 3] rfl)
      · --40 not
        have t196 : r4.toInt = 91 := ti_eq c112
        have i197 : 91 ≤ r4.toInt ∧ r4.toInt ≤ 91 := iv_eqi t196 i105 (il_ 91) (by decide)
        refine lv_aload_n hx hb dX13_atom_43 rfl (lv_at hl 1 rfl) ?_
        refine th_i (va_runV (As := []) (rest := []) ⟨hx, hb, hml, hown, hts⟩ (q_goesInX l dC dI cT ad E5 H.size k nl hI (by exact hh0) (by exact hh1) (by exact hh2) (by exact (hKp 0 18 rfl).trans hh3) (by (try rw [hKp.ei 0 19 rfl]); exact hh4) (by (try rw [(show xi (E5 0) 21 = y7 from vi_e fy7)]); omega)) (cwV 0 hts (gi_V (in_26 _ (zs4 (zs4 (zs0)))) (in_26 _ (zs4 (zs4 (zs1 (zs0))))) (in_26 _ (zs4 (zs4 (zs1 (zs1 (zs0)))))) (in_24 _ (zs4 (zs4 (zs4 (zs1 (zs1 (zs1 (zs0)))))))) (in_26 _ (zs4 (zs4 (zs1 (zs1 (zs1 (zs0)))))))) rfl rfl rfl ⟨rfl, hz_yX13_goesIn_0⟩ ⟨(show 1 + 1 ≤ 7 * n + 5 from nl_1 (Nat.le_of_ble_eq_true rfl)), (show 8 + (1 + 11) + 40 * (1) ≤ 40 * (7 * n + 5) from nl_2 (Nat.le_of_ble_eq_true rfl))⟩) ⟨HW_bl, va_recv hK hP (ci := 14) (q0 := 0) rfl (hI.ob 0 (Nat.le_of_ble_eq_true rfl) rfl), (HW_wi hP hK (WX_D hD) hS hA hEV)⟩ rfl rfl hl.1 rfl (lv_room (Nat.le_of_ble_eq_true rfl)) dX13_atom_44 ⟨Nat.le_of_ble_eq_true rfl, Nat.le_of_ble_eq_true rfl⟩) (WX_D hD) hS hA (fun r198 E199 H locs hw hP hS => ?_)
        obtain ⟨hI, kq200, hw⟩ := hw
        have hKb := hKp
        have hKp := hKp.tr kq200 (wl_sub rfl rfl)
        obtain ⟨y201, ey201⟩ : ∃ y, xi (E199 0) 21 = y := ⟨_, rfl⟩
        have fy201 : xv (E199 0) 21 = .int y201 := (hI.fi 0 (Nat.le_of_ble_eq_true rfl) rfl (Nat.le_of_ble_eq_true rfl) rfl).trans (congrArg Value.int ey201)
        have iy201 : 0 ≤ y201.toInt ∧ y201.toInt ≤ 201 := by rw [← ey201]; exact hI.iv 0 (Nat.le_of_ble_eq_true rfl) rfl (Nat.le_of_ble_eq_true rfl) rfl
        obtain ⟨y202, ey202⟩ : ∃ y, xi (E199 0) 22 = y := ⟨_, rfl⟩
        have fy202 : xv (E199 0) 22 = .int y202 := (hI.fi 0 (Nat.le_of_ble_eq_true rfl) rfl (Nat.le_of_ble_eq_true rfl) rfl).trans (congrArg Value.int ey202)
        have iy202 : -1 ≤ y202.toInt ∧ y202.toInt ≤ 201 := by rw [← ey202]; exact hI.iv 0 (Nat.le_of_ble_eq_true rfl) rfl (Nat.le_of_ble_eq_true rfl) rfl
        obtain ⟨y203, ey203⟩ : ∃ y, xi (E199 0) 23 = y := ⟨_, rfl⟩
        have fy203 : xv (E199 0) 23 = .int y203 := (hI.fi 0 (Nat.le_of_ble_eq_true rfl) rfl (Nat.le_of_ble_eq_true rfl) rfl).trans (congrArg Value.int ey203)
        have iy203 : 0 ≤ y203.toInt ∧ y203.toInt ≤ 8 := by rw [← ey203]; exact hI.iv 0 (Nat.le_of_ble_eq_true rfl) rfl (Nat.le_of_ble_eq_true rfl) rfl
        rcases hw with hw | hw
        · -- goesInX, case 0
          obtain ⟨rfl, f204, f205, f206, f207, f208⟩ := hw
          try rw [(show xi (E5 0) 23 = y3 from vi_e ((kq6 0 23 rfl).trans fy3))] at f204
          try rw [(show xi (E199 0) 23 = y203 from vi_e fy203)] at f204
          try rw [(show xi (E5 0) 22 = y2 from vi_e ((kq6 0 22 rfl).trans fy2))] at f205
          try rw [(show xi (E199 0) 22 = y202 from vi_e fy202)] at f205
          try rw [(show xi (E5 0) 23 = y3 from vi_e ((kq6 0 23 rfl).trans fy3))] at f206
          try rw [(show xi (E199 0) 23 = y203 from vi_e fy203)] at f206
          try rw [(show xi (E5 0) 21 = y7 from vi_e fy7)] at f207
          try rw [(show xi (E199 0) 21 = y201 from vi_e fy201)] at f207
          obtain ⟨k9, hk9⟩ : ∃ k9, n = k9 + 1 := ⟨n - 1, by omega⟩
          refine lv_if_ne (tgt := 52) hx hb dX13_atom_47 (by decide) (fun c209 => ?_) (fun c209 => ?_)
          · --47 taken
            have k210 : MZ E E199 := MZ.kp hKp (fun _ => rfl)
            refine lv_aload_n hx hb dX13_atom_52 rfl (lv_at hl 1 rfl) ?_
            refine th_i (va_runV (As := []) (rest := []) ⟨hx, hb, hml, hown, hts⟩ ((gSum k9 (by omega)) dC dI cT ad E199 H.size k nl hI (by exact hh0) (by exact hh1) (by exact hh2) (by exact (hKp 0 18 rfl).trans hh3) (by (try rw [hKp.ei 0 19 rfl]); exact hh4) (by (try rw [(show xi (E199 0) 23 = y203 from vi_e fy203)]); omega) (by (try rw [(show xi (E199 0) 22 = y202 from vi_e fy202)]); omega)) (cwV 0 hts (gi_V (in_26 _ (zs16 (zs0))) (in_26 _ (zs16 (zs1 (zs0)))) (in_26 _ (zs16 (zs1 (zs1 (zs0))))) (in_24 _ (zs4 (zs4 (zs4 (zs1 (zs1 (zs1 (zs0)))))))) (in_26 _ (zs16 (zs4 (zs4 (zs1 (zs1 (zs1 (zs0))))))))) rfl rfl rfl (by decide +kernel) ⟨(show 7 * k9 + 7 + 1 ≤ 7 * n + 5 by omega), (show 8 + (5 + 11) + 40 * (7 * k9 + 7) ≤ 40 * (7 * n + 5) by omega)⟩) ⟨HW_bl, va_recv hK hP (ci := 14) (q0 := 0) rfl (hI.ob 0 (Nat.le_of_ble_eq_true rfl) rfl), (HW_wi hP hK (WX_D hD) hS hA hEV)⟩ rfl rfl hl.1 rfl (lv_room (Nat.le_of_ble_eq_true rfl)) dX13_atom_53 ⟨Nat.le_of_ble_eq_true rfl, Nat.le_of_ble_eq_true rfl⟩) (WX_D hD) hS hA (fun r211 E212 H locs hw hP hS => ?_)
            obtain ⟨hI, kq213, hw⟩ := hw
            have hKb := hKp
            have hKp := hKp.tr kq213 (wl_sub rfl rfl)
            obtain ⟨y214, ey214⟩ : ∃ y, xi (E212 0) 21 = y := ⟨_, rfl⟩
            have fy214 : xv (E212 0) 21 = .int y214 := (hI.fi 0 (Nat.le_of_ble_eq_true rfl) rfl (Nat.le_of_ble_eq_true rfl) rfl).trans (congrArg Value.int ey214)
            have iy214 : 0 ≤ y214.toInt ∧ y214.toInt ≤ 201 := by rw [← ey214]; exact hI.iv 0 (Nat.le_of_ble_eq_true rfl) rfl (Nat.le_of_ble_eq_true rfl) rfl
            obtain ⟨y215, ey215⟩ : ∃ y, xi (E212 0) 22 = y := ⟨_, rfl⟩
            have fy215 : xv (E212 0) 22 = .int y215 := (hI.fi 0 (Nat.le_of_ble_eq_true rfl) rfl (Nat.le_of_ble_eq_true rfl) rfl).trans (congrArg Value.int ey215)
            have iy215 : -1 ≤ y215.toInt ∧ y215.toInt ≤ 201 := by rw [← ey215]; exact hI.iv 0 (Nat.le_of_ble_eq_true rfl) rfl (Nat.le_of_ble_eq_true rfl) rfl
            obtain ⟨y216, ey216⟩ : ∃ y, xi (E212 0) 23 = y := ⟨_, rfl⟩
            have fy216 : xv (E212 0) 23 = .int y216 := (hI.fi 0 (Nat.le_of_ble_eq_true rfl) rfl (Nat.le_of_ble_eq_true rfl) rfl).trans (congrArg Value.int ey216)
            have iy216 : 0 ≤ y216.toInt ∧ y216.toInt ≤ 8 := by rw [← ey216]; exact hI.iv 0 (Nat.le_of_ble_eq_true rfl) rfl (Nat.le_of_ble_eq_true rfl) rfl
            obtain ⟨f217, f218, f219, f220, f221, f222⟩ := hw
            try rw [(show xi (E199 0) 21 = y201 from vi_e fy201)] at f217
            try rw [(show xi (E212 0) 21 = y214 from vi_e fy214)] at f217
            try rw [(show xi (E199 0) 23 = y203 from vi_e fy203)] at f218
            try rw [(show xi (E212 0) 23 = y216 from vi_e fy216)] at f218
            try rw [(show xi (E199 0) 22 = y202 from vi_e fy202)] at f219
            try rw [(show xi (E199 0) 23 = y203 from vi_e fy203)] at f219
            try rw [(show xi (E212 0) 22 = y215 from vi_e fy215)] at f219
            try rw [(show xi (E212 0) 23 = y216 from vi_e fy216)] at f219
            try rw [(show xi (E199 0) 22 = y202 from vi_e fy202)] at f220
            try rw [(show xi (E212 0) 22 = y215 from vi_e fy215)] at f220
            refine lv_istore_n (lv' := [(2, .int r211), (1, .int r4), (0, .ref (ad 0))]) hx hb dX13_atom_56 rfl hl (by decide) rfl (fun ls hl => ?_)
            refine lv_aload_n hx hb dX13_atom_57 rfl (lv_at hl 2 rfl) ?_
            refine lv_bipush (v := 93) hx hb dX13_atom_58 (by decide) ?_
            have z93 := ln_93
            refine th_i (va_runV (As := [.int 93]) (rest := []) ⟨hx, hb, hml, hown, hts⟩ (q_takesX l dC dI cT ad E212 H.size (93 : Int32) k nl hI (by exact hh0) (by exact hh1) (by exact hh2) (by exact (hKp 0 18 rfl).trans hh3) (by (try rw [hKp.ei 0 19 rfl]); exact hh4) (iv_w ln_93 (by decide))) (cwV 1 hts (gi_V (in_26 _ (zs16 (zs1 (zs1 (zs1 (zs0)))))) (in_26 _ (zs16 (zs4 (zs0)))) (in_26 _ (zs16 (zs4 (zs1 (zs0))))) (in_24 _ (zs4 (zs4 (zs4 (zs1 (zs1 (zs1 (zs0)))))))) (in_26 _ (zs16 (zs4 (zs1 (zs1 (zs0))))))) rfl rfl rfl ⟨rfl, hz_yX13_takes_1⟩ ⟨(show 1 + 1 ≤ 7 * n + 5 from nl_1 (Nat.le_of_ble_eq_true rfl)), (show 8 + (2 + 11) + 40 * (1) ≤ 40 * (7 * n + 5) from nl_2 (Nat.le_of_ble_eq_true rfl))⟩) ⟨HW_bl, va_recv hK hP (ci := 14) (q0 := 0) rfl (hI.ob 0 (Nat.le_of_ble_eq_true rfl) rfl), (HW_wi hP hK (WX_D hD) hS hA hEV)⟩ rfl rfl hl.1 rfl (lv_room (Nat.le_of_ble_eq_true rfl)) dX13_atom_60 ⟨Nat.le_of_ble_eq_true rfl, Nat.le_of_ble_eq_true rfl⟩) (WX_D hD) hS hA (fun r223 E224 H locs hw hP hS => ?_)
            obtain ⟨hI, kq225, hw⟩ := hw
            have hKb := hKp
            have hKp := hKp.tr kq225 (wl_sub rfl rfl)
            obtain ⟨y226, ey226⟩ : ∃ y, xi (E224 0) 21 = y := ⟨_, rfl⟩
            have fy226 : xv (E224 0) 21 = .int y226 := (hI.fi 0 (Nat.le_of_ble_eq_true rfl) rfl (Nat.le_of_ble_eq_true rfl) rfl).trans (congrArg Value.int ey226)
            have iy226 : 0 ≤ y226.toInt ∧ y226.toInt ≤ 201 := by rw [← ey226]; exact hI.iv 0 (Nat.le_of_ble_eq_true rfl) rfl (Nat.le_of_ble_eq_true rfl) rfl
            obtain ⟨y227, ey227⟩ : ∃ y, xi (E224 0) 22 = y := ⟨_, rfl⟩
            have fy227 : xv (E224 0) 22 = .int y227 := (hI.fi 0 (Nat.le_of_ble_eq_true rfl) rfl (Nat.le_of_ble_eq_true rfl) rfl).trans (congrArg Value.int ey227)
            have iy227 : -1 ≤ y227.toInt ∧ y227.toInt ≤ 201 := by rw [← ey227]; exact hI.iv 0 (Nat.le_of_ble_eq_true rfl) rfl (Nat.le_of_ble_eq_true rfl) rfl
            rcases hw with hw | hw
            · -- takesX, case 0
              obtain ⟨rfl, f228, f229, f230, f231, f232⟩ := hw
              try rw [(show xi (E212 0) 22 = y215 from vi_e fy215)] at f228
              try rw [(show xi (E224 0) 22 = y227 from vi_e fy227)] at f228
              try rw [(show xi (E212 0) 22 = y215 from vi_e fy215)] at f229
              try rw [(show xi (E224 0) 22 = y227 from vi_e fy227)] at f229
              try rw [(show xi (E212 0) 21 = y214 from vi_e fy214)] at f230
              try rw [(show xi (E224 0) 21 = y226 from vi_e fy226)] at f230
              try rw [(show xi (E212 0) 21 = y214 from vi_e fy214)] at f231
              try rw [(show xi (E224 0) 21 = y226 from vi_e fy226)] at f231
              refine lv_if_ne (tgt := 68) hx hb dX13_atom_63 (by decide) (fun c233 => ?_) (fun c233 => ?_)
              · --63 taken
                refine lv_aload_n hx hb dX13_atom_68 rfl (lv_at hl 2 rfl) ?_
                refine lv_dup hx hb dX13_atom_69 rfl ?_
                refine th_get (ci := 14) (C := RX13) (T := TX13) (N := 97) (v := .int y216) hx hb hts hinX13 hown hK hP hI 0 (Nat.le_of_ble_eq_true rfl) rfl rfl 23 (Nat.le_of_ble_eq_true rfl) (hts _ (vA_in _ _ (in_25 _ (zs16 (zs16 (zs4 (zs1 (zs1 (zs0))))))))) (fun _ h9 => h9) ((kq225 0 23 rfl).trans fy216) dX13_atom_70 ?_
                refine lv_iconst (v := 1) hx hb dX13_atom_73 (by decide) ?_
                refine lv_isub hx hb dX13_atom_74 ?_
                refine lv_topi (fun y234 ey234 => ?_)
                obtain ⟨ty234, iy234⟩ := ti_sub (e := (-1)) (f := 7) iy216 ln_1 ey234 (by decide)
                have ty234 : y234.toInt = y216.toInt - 1 := ty234
                have iy234 : -1 ≤ y234.toInt ∧ y234.toInt ≤ 7 := iy234
                have i235 : 0 ≤ y234.toInt ∧ y234.toInt ≤ 7 := by omega
                refine th_put (ci := 14) (C := RX13) (T := TX13) (N := 97) (v := .int y234) (ty := .int) hx hb hts hinX13 tyX13 tyX13_ok nmX13 hown hK hP (WX_D hD) hS hI 0 (Nat.le_of_ble_eq_true rfl) rfl rfl 23 (Nat.le_of_ble_eq_true rfl) (hts _ (vA_in _ _ (in_25 _ (zs16 (zs16 (zs4 (zs1 (zs1 (zs0))))))))) (fun _ h9 => h9) rfl (by decide +kernel) rfl rfl (okI rfl (iv_w i235 (by decide))) dX13_atom_75 (fun H locs E236 pw237 hI hP hS => ?_)
                have hKp := hKp.pw pw237 rfl
                have k238 : KM k E224 E236 := KM.pw pw237.2 hk0 (by decide)
                refine lv_iload_n hx hb dX13_atom_78 rfl (lv_at hl 0 rfl) ?_
                rw [hQ]
                exact W.iret (v := r211) hx hb hr (fun t ht hW => ⟨⟨r211, E236, rfl, ⟨hI, hKp, ⟨by (try rw [(show xi (E236 0) 21 = y226 from vi_e ((pw237.2 0 21 (fun q9 => absurd q9.2 (Nat.ne_of_beq_eq_false rfl))).trans fy226))]); (try rw [ey1]); first | done | exact (Int.le_trans (Int.le_trans (Int.le_trans f9 (Int.le_trans (Int.le_add_of_nonneg_right (by decide)) (Int.le_of_eq f207.symm))) f217) f231) | all_goals omega, by (try rw [(show xi (E236 0) 23 = y234 from vi_e pw237.1)]); (try rw [ey1]); (try rw [ey2]); (try rw [ey3]); all_goals omega, by (try rw [(show xi (E236 0) 22 = y227 from vi_e ((pw237.2 0 22 (fun q9 => absurd q9.2 (Nat.ne_of_beq_eq_false rfl))).trans fy227))]); (try rw [(show xi (E236 0) 23 = y234 from vi_e pw237.1)]); (try rw [ey1]); (try rw [ey2]); (try rw [ey3]); all_goals omega, by (try rw [(show xi (E236 0) 22 = y227 from vi_e ((pw237.2 0 22 (fun q9 => absurd q9.2 (Nat.ne_of_beq_eq_false rfl))).trans fy227))]); (try rw [ey1]); (try rw [ey2]); (try rw [ey3]); all_goals omega, (atM_in f12 (by omega) f208 f221 f232 hk9).ks k238, (atW_in f12 (by omega) f208 k210 f221 f222 f232 hk9).ks k238⟩⟩, by show va_P (dC, dI) vwCl (WX 72 ad E236) t.heap; rw [ht]; exact hP⟩, hS.F ht⟩) hS.2.2 dX13_atom_79
              · --63 not
                exact absurd c233 (by decide)
            · -- takesX, case 1
              obtain ⟨rfl, f239, f240, f241⟩ := hw
              try rw [(show xi (E212 0) 22 = y215 from vi_e fy215)] at f239
              try rw [(show xi (E224 0) 22 = y227 from vi_e fy227)] at f239
              try rw [(show xi (E212 0) 21 = y214 from vi_e fy214)] at f240
              try rw [(show xi (E224 0) 21 = y226 from vi_e fy226)] at f240
              refine lv_if_ne (tgt := 68) hx hb dX13_atom_63 (by decide) (fun c242 => ?_) (fun c242 => ?_)
              · --63 taken
                exact absurd c242 (by decide)
              · --63 not
                refine lv_iconst (v := 0) hx hb dX13_atom_66 (by decide) ?_
                rw [hQ]
                exact W.iret (v := 0) hx hb hr (fun t ht hW => ⟨⟨0, E224, rfl, ⟨hI, hKp, ⟨by (try rw [(show xi (E224 0) 21 = y226 from vi_e fy226)]); (try rw [ey1]); first | done | exact (Int.le_trans (Int.le_trans (Int.le_trans f9 (Int.le_trans (Int.le_add_of_nonneg_right (by decide)) (Int.le_of_eq f207.symm))) f217) f240) | have h8 := ln_0; all_goals omega, by (try rw [(show xi (E224 0) 23 = y216 from vi_e ((kq225 0 23 rfl).trans fy216))]); (try rw [ey3]); first | done | exact (Int.le_trans (Int.le_trans (Int.le_add_of_nonneg_right (by decide)) (Int.le_of_eq f204.symm)) f218) | have h8 := ln_0; all_goals omega, by (try rw [(show xi (E224 0) 22 = y227 from vi_e fy227)]); (try rw [(show xi (E224 0) 23 = y216 from vi_e ((kq225 0 23 rfl).trans fy216))]); (try rw [ey2]); (try rw [ey3]); first | done | exact fun q9 => absurd (q9) f239 | have h8 := ln_0; all_goals omega, by (try rw [(show xi (E224 0) 22 = y227 from vi_e fy227)]); (try rw [ey2]); first | done | exact fun q9 => absurd (q9) f239 | have h8 := ln_0; all_goals omega, atM_in f12 (by omega) f208 f221 f241 hk9, RdW.nf (by show ¬ (xi (E224 0) 22).toInt = -1; rw [show xi (E224 0) 22 = y227 from vi_e fy227]; omega)⟩⟩, by show va_P (dC, dI) vwCl (WX 72 ad E224) t.heap; rw [ht]; exact hP⟩, hS.F ht⟩) hS.2.2 dX13_atom_67
          · --47 not
            exact absurd c209 (by decide)
        · -- goesInX, case 1
          obtain ⟨rfl, f243, f244, f245, f246, f247⟩ := hw
          try rw [(show xi (E5 0) 23 = y3 from vi_e ((kq6 0 23 rfl).trans fy3))] at f243
          try rw [(show xi (E199 0) 23 = y203 from vi_e fy203)] at f243
          try rw [(show xi (E5 0) 22 = y2 from vi_e ((kq6 0 22 rfl).trans fy2))] at f244
          try rw [(show xi (E199 0) 22 = y202 from vi_e fy202)] at f244
          try rw [(show xi (E5 0) 21 = y7 from vi_e fy7)] at f245
          try rw [(show xi (E199 0) 21 = y201 from vi_e fy201)] at f245
          try rw [(show xi (E5 0) 23 = y3 from vi_e ((kq6 0 23 rfl).trans fy3))] at f246
          try rw [(show xi (E199 0) 23 = y203 from vi_e fy203)] at f246
          refine lv_if_ne (tgt := 52) hx hb dX13_atom_47 (by decide) (fun c248 => ?_) (fun c248 => ?_)
          · --47 taken
            exact absurd c248 (by decide)
          · --47 not
            refine lv_iconst (v := 0) hx hb dX13_atom_50 (by decide) ?_
            rw [hQ]
            exact W.iret (v := 0) hx hb hr (fun t ht hW => ⟨⟨0, E199, rfl, ⟨hI, hKp, ⟨by (try rw [(show xi (E199 0) 21 = y201 from vi_e fy201)]); (try rw [ey1]); first | done | exact (Int.le_trans f9 (Int.le_of_eq f245.symm)) | have h8 := ln_0; all_goals omega, by (try rw [(show xi (E199 0) 23 = y203 from vi_e fy203)]); (try rw [ey3]); first | done | exact (Int.le_of_eq f246.symm) | have h8 := ln_0; all_goals omega, by (try rw [(show xi (E199 0) 22 = y202 from vi_e fy202)]); (try rw [(show xi (E199 0) 23 = y203 from vi_e fy203)]); (try rw [ey2]); (try rw [ey3]); first | done | exact fun q9 => absurd (q9) f244 | have h8 := ln_0; all_goals omega, by (try rw [(show xi (E199 0) 22 = y202 from vi_e fy202)]); (try rw [ey2]); first | done | exact fun q9 => absurd (q9) f244 | have h8 := ln_0; all_goals omega, atM_in0 f12 (by omega) f247 (by omega), RdW.nf (by show ¬ (xi (E199 0) 22).toInt = -1; rw [show xi (E199 0) 22 = y202 from vi_e fy202]; omega)⟩⟩, by show va_P (dC, dI) vwCl (WX 72 ad E199) t.heap; rw [ht]; exact hP⟩, hS.F ht⟩) hS.2.2 dX13_atom_51
    · --17 not
      have t249 : (0 : Int) ≤ r106.toInt := ti_nlt c109
      have i250 : 0 ≤ r106.toInt ∧ r106.toInt ≤ 1000 := iv_le_r t249 (il_ 0) f107 (by decide)
      refine lv_aload_n hx hb dX13_atom_20 rfl (lv_at hl 1 rfl) ?_
      refine lv_dup hx hb dX13_atom_21 rfl ?_
      refine th_get (ci := 14) (C := RX13) (T := TX13) (N := 97) (v := .int y7) hx hb hts hinX13 hown hK hP hI 0 (Nat.le_of_ble_eq_true rfl) rfl rfl 21 (Nat.le_of_ble_eq_true rfl) (hts _ (vA_in _ _ (in_25 _ (zs16 (zs16 (zs4 (zs0))))))) (fun _ h9 => h9) fy7 dX13_atom_22 ?_
      refine lv_iconst (v := 1) hx hb dX13_atom_25 (by decide) ?_
      refine lv_iadd hx hb dX13_atom_26 ?_
      refine lv_topi (fun y251 ey251 => ?_)
      obtain ⟨ty251, iy251⟩ := ti_add (e := 1) (f := 202) iy7 ln_1 ey251 (by decide)
      have ty251 : y251.toInt = y7.toInt + 1 := ty251
      have iy251 : 1 ≤ y251.toInt ∧ y251.toInt ≤ 202 := iy251
      have i252 : 1 ≤ y251.toInt ∧ y251.toInt ≤ 201 := by omega
      refine th_put (ci := 14) (C := RX13) (T := TX13) (N := 97) (v := .int y251) (ty := .int) hx hb hts hinX13 tyX13 tyX13_ok nmX13 hown hK hP (WX_D hD) hS hI 0 (Nat.le_of_ble_eq_true rfl) rfl rfl 21 (Nat.le_of_ble_eq_true rfl) (hts _ (vA_in _ _ (in_25 _ (zs16 (zs16 (zs4 (zs0))))))) (fun _ h9 => h9) rfl (by decide +kernel) rfl rfl (okI rfl (iv_w i252 (by decide))) dX13_atom_27 (fun H locs E253 pw254 hI hP hS => ?_)
      have hKp := hKp.pw pw254 rfl
      have k255 : AtM k E5 E253 := AtM.pw pw254.2 hk0 (vi_e fy7) (vi_e pw254.1) ty251 (by omega)
      have k256 : MZ E E253 := MZ.kp hKp (fun _ => rfl)
      refine lv_aload_n hx hb dX13_atom_30 rfl (lv_at hl 1 rfl) ?_
      refine th_get (ci := 14) (C := RX13) (T := TX13) (N := 97) (v := .ref (ad 12)) hx hb hts hinX13 hown hK hP hI 0 (Nat.le_of_ble_eq_true rfl) rfl rfl 15 (Nat.le_of_ble_eq_true rfl) (hts _ (vA_in _ _ (in_25 _ (zs16 (zs16 (zs4 (zs1 (zs0)))))))) (fun _ h9 => h9) (hI.fr 0 (Nat.le_of_ble_eq_true rfl) rfl (Nat.le_of_ble_eq_true rfl) 12 rfl) dX13_atom_31 ?_
      refine lv_iload_n hx hb dX13_atom_34 rfl (lv_at hl 0 rfl) ?_
      have i259 : 97 ≤ r4.toInt ∧ r4.toInt ≤ 122 := tLET_in _ (ixF_mem tLET 0 (by decide) (by rw [← f108]; omega))
      have n258 : vp_in r4 128 := (iv_in (n := 128) i259 (by decide))
      refine th_iald hx hb hK hP hI 12 (Nat.le_of_ble_eq_true rfl) rfl rfl n258 dX13_atom_35 (fun y257 ey257 => ?_)
      have ey257 := ey257.trans (hKp.ei 12 _ rfl)
      rw [hQ]
      exact W.iret (v := y257) hx hb hr (fun t ht hW => ⟨⟨y257, E253, rfl, ⟨hI, hKp, ⟨by (try rw [(show xi (E253 0) 21 = y251 from vi_e pw254.1)]); (try rw [ey1]); first | done | exact (Int.le_trans f9 (Int.le_trans (Int.le_add_of_nonneg_right (by decide)) (Int.le_of_eq ty251.symm))) | all_goals omega, by (try rw [(show xi (E253 0) 23 = y3 from vi_e ((pw254.2 0 23 (fun q9 => absurd q9.2 (Nat.ne_of_beq_eq_false rfl))).trans ((kq6 0 23 rfl).trans fy3)))]); (try rw [ey3]); first | done | exact Int.le_refl _ | all_goals omega, by (try rw [(show xi (E253 0) 22 = y2 from vi_e ((pw254.2 0 22 (fun q9 => absurd q9.2 (Nat.ne_of_beq_eq_false rfl))).trans ((kq6 0 22 rfl).trans fy2)))]); (try rw [(show xi (E253 0) 23 = y3 from vi_e ((pw254.2 0 23 (fun q9 => absurd q9.2 (Nat.ne_of_beq_eq_false rfl))).trans ((kq6 0 23 rfl).trans fy3)))]); (try rw [ey2]); (try rw [ey3]); first | done | exact fun q9 => rfl | all_goals omega, by (try rw [(show xi (E253 0) 22 = y2 from vi_e ((pw254.2 0 22 (fun q9 => absurd q9.2 (Nat.ne_of_beq_eq_false rfl))).trans ((kq6 0 22 rfl).trans fy2)))]); (try rw [ey2]); first | done | exact fun q9 => q9 | all_goals omega, atM_let f12 (let_nd (ix_let.mp (by rw [← f108]; omega))) (ix_let.mp (by rw [← f108]; omega)) k255 KM.rf, atW_let f12 (let_nd (ix_let.mp (by rw [← f108]; omega))) (ix_let.mp (by rw [← f108]; omega)) k255 k256 ((hKp.ei 12 _ rfl).trans ey257.symm)⟩⟩, by show va_P (dC, dI) vwCl (WX 72 ad E253) t.heap; rw [ht]; exact hP⟩, hS.F ht⟩) hS.2.2 dX13_atom_36
set_option maxHeartbeats 4000000 in
set_option maxRecDepth 100000 in
theorem q_termW (l : Launch) (n : Nat) (gA : C_atomW l n) : C_termW l n := by
  intro dC dI cT ad E sz k nl hI0 hh0 hh1 hh2 hh3 hh4 hh5 hh6
  refine Met.ofW (cc := cX13_term) (maxL := 5) (ret := (some .int)) (by decide) rfl ?_
  intro p e s m args below meth c s₁ B hml hv
  obtain ⟨hargs, hsz, hP, hK, hD0, hEV⟩ := hv
  subst hsz
  have hx := B.exec
  have hb := B.bytes
  have hr := B.returns
  have hts := atoms_spec (ws := v_termW) B.pre
  have hown : s.vm.findClass RX13 = some m.cls := findClass_of_methodNamed B.named
  have hlocks := B.notSynchronized
  have hinX13 : ∀ w ∈ u_ws RX13 TX13 97, w ∈ v_termW := fun w h => vA_in _ w (in_X13 w h)
  generalize hAe : va_A (WX 72 ad E) s.heap.size = A at hEV ⊢
  have hA : ∀ q : Nat, s.heap.size ≤ q → A q := fun q h => by rw [← hAe]; exact Or.inr h
  have hD : va_D A (WX 72 ad E) := by rw [← hAe]; exact hD0.self
  have hS : va_S A s.heap s.heap [] := va_S.rf
  have hI := hI0
  have hKp : Kp w_termW E E := Kp.rf
  have hl := lv_entry ([.ref (ad 0)]) (n := 5) (Nat.le_of_ble_eq_true rfl)
  obtain ⟨Q, hQ⟩ : ∃ Q, Q = MQ below (va_Qi (S := Nat → va_E) (fun r u => IX cT shM spM 72 ad u ∧ Kp w_termW E u ∧ (((xi (E 0) 21).toInt ≤ (xi (u 0) 21).toInt) ∧ ((xi (E 0) 23).toInt ≤ (xi (u 0) 23).toInt) ∧ ((xi (u 0) 22).toInt = -1 → (xi (u 0) 23).toInt = (xi (E 0) 23).toInt) ∧ ((xi (u 0) 22).toInt = -1 → (xi (E 0) 22).toInt = -1) ∧ (RdM k (fun t m a => termS true t m n a) E u) ∧ (RdW k [] (fun t m a => termS true t m n a) E u r))) (HB dC dI 72 ad) (A)) args s 0 0 (A) := ⟨_, rfl⟩
  rw [← hQ, show entryFrame m args 5 = _ from (congrArg (fun z => entryFrame m z 5) hargs).trans (lg_entry_eq _ _ _)]
  generalize (lg_sl ([.ref (ad 0)]) ++ List.replicate (5 - (lg_sl ([.ref (ad 0)])).length) Slot.unset).toArray = ls at hl ⊢
  have hl : lv_has ls 5 [(0, .ref (ad 0))] := hl
  obtain ⟨y1, ey1⟩ : ∃ y, xi (E 0) 21 = y := ⟨_, rfl⟩
  have fy1 : xv (E 0) 21 = .int y1 := (hI.fi 0 (Nat.le_of_ble_eq_true rfl) rfl (Nat.le_of_ble_eq_true rfl) rfl).trans (congrArg Value.int ey1)
  have iy1 : 0 ≤ y1.toInt ∧ y1.toInt ≤ 201 := by rw [← ey1]; exact hI.iv 0 (Nat.le_of_ble_eq_true rfl) rfl (Nat.le_of_ble_eq_true rfl) rfl
  obtain ⟨y2, ey2⟩ : ∃ y, xi (E 0) 22 = y := ⟨_, rfl⟩
  have fy2 : xv (E 0) 22 = .int y2 := (hI.fi 0 (Nat.le_of_ble_eq_true rfl) rfl (Nat.le_of_ble_eq_true rfl) rfl).trans (congrArg Value.int ey2)
  have iy2 : -1 ≤ y2.toInt ∧ y2.toInt ≤ 201 := by rw [← ey2]; exact hI.iv 0 (Nat.le_of_ble_eq_true rfl) rfl (Nat.le_of_ble_eq_true rfl) rfl
  rw [ey2] at hh6
  obtain ⟨y3, ey3⟩ : ∃ y, xi (E 0) 23 = y := ⟨_, rfl⟩
  have fy3 : xv (E 0) 23 = .int y3 := (hI.fi 0 (Nat.le_of_ble_eq_true rfl) rfl (Nat.le_of_ble_eq_true rfl) rfl).trans (congrArg Value.int ey3)
  have iy3 : 0 ≤ y3.toInt ∧ y3.toInt ≤ 8 := by rw [← ey3]; exact hI.iv 0 (Nat.le_of_ble_eq_true rfl) rfl (Nat.le_of_ble_eq_true rfl) rfl
  rw [ey3] at hh5
  have hk0 : ¬ k = 0 := fun q9 => by rw [q9] at hh1; exact absurd (show (shM 0).1 = 1 from congrArg Prod.fst hh1) (by decide)
  refine lv_aload_n hx hb dX13_term_0 rfl (lv_at hl 0 rfl) ?_
  refine th_i (va_runV (As := []) (rest := []) ⟨hx, hb, hml, hown, hts⟩ (gA dC dI cT ad E s.heap.size k nl hI (by exact hh0) (by exact hh1) (by exact hh2) (by exact hh3) (by exact hh4) (by (try rw [(show xi (E 0) 23 = y3 from vi_e fy3)]); omega) (by (try rw [(show xi (E 0) 22 = y2 from vi_e fy2)]); omega)) (cwV 0 hts (gi_V (in_27 _ (zs1 (zs1 (zs1 (zs0))))) (in_27 _ (zs4 (zs0))) (in_27 _ (zs4 (zs1 (zs0)))) (in_24 _ (zs4 (zs4 (zs4 (zs1 (zs1 (zs1 (zs0)))))))) (in_25 _ (zs16 (zs16 (zs1 (zs1 (zs1 (zs0)))))))) rfl rfl rfl (by decide +kernel) ⟨(show 7 * n + 5 + 1 ≤ 7 * n + 6 from nl_4 (Nat.le_of_ble_eq_true rfl) (Nat.le_of_ble_eq_true rfl)), (show 8 + (4 + 11) + 40 * (7 * n + 5) ≤ 40 * (7 * n + 6) from nl_3 (Nat.le_of_ble_eq_true rfl) (Nat.le_of_ble_eq_true rfl))⟩) ⟨HW_bl, va_recv hK hP (ci := 14) (q0 := 0) rfl (hI.ob 0 (Nat.le_of_ble_eq_true rfl) rfl), (HW_wi hP hK (WX_D hD) hS hA hEV)⟩ rfl rfl hl.1 rfl (lv_room (Nat.le_of_ble_eq_true rfl)) dX13_term_1 ⟨Nat.le_of_ble_eq_true rfl, Nat.le_of_ble_eq_true rfl⟩) (WX_D hD) hS hA (fun r4 E5 H locs hw hP hS => ?_)
  obtain ⟨hI, kq6, hw⟩ := hw
  have hKb := hKp
  have hKp := hKp.tr kq6 (wl_sub rfl rfl)
  obtain ⟨y7, ey7⟩ : ∃ y, xi (E5 0) 21 = y := ⟨_, rfl⟩
  have fy7 : xv (E5 0) 21 = .int y7 := (hI.fi 0 (Nat.le_of_ble_eq_true rfl) rfl (Nat.le_of_ble_eq_true rfl) rfl).trans (congrArg Value.int ey7)
  have iy7 : 0 ≤ y7.toInt ∧ y7.toInt ≤ 201 := by rw [← ey7]; exact hI.iv 0 (Nat.le_of_ble_eq_true rfl) rfl (Nat.le_of_ble_eq_true rfl) rfl
  obtain ⟨y8, ey8⟩ : ∃ y, xi (E5 0) 22 = y := ⟨_, rfl⟩
  have fy8 : xv (E5 0) 22 = .int y8 := (hI.fi 0 (Nat.le_of_ble_eq_true rfl) rfl (Nat.le_of_ble_eq_true rfl) rfl).trans (congrArg Value.int ey8)
  have iy8 : -1 ≤ y8.toInt ∧ y8.toInt ≤ 201 := by rw [← ey8]; exact hI.iv 0 (Nat.le_of_ble_eq_true rfl) rfl (Nat.le_of_ble_eq_true rfl) rfl
  obtain ⟨y9, ey9⟩ : ∃ y, xi (E5 0) 23 = y := ⟨_, rfl⟩
  have fy9 : xv (E5 0) 23 = .int y9 := (hI.fi 0 (Nat.le_of_ble_eq_true rfl) rfl (Nat.le_of_ble_eq_true rfl) rfl).trans (congrArg Value.int ey9)
  have iy9 : 0 ≤ y9.toInt ∧ y9.toInt ≤ 8 := by rw [← ey9]; exact hI.iv 0 (Nat.le_of_ble_eq_true rfl) rfl (Nat.le_of_ble_eq_true rfl) rfl
  obtain ⟨f10, f11, f12, f13, f14, f15⟩ := hw
  have i16 : 0 ≤ (xi (E 0) 19).toInt ∧ (xi (E 0) 19).toInt ≤ 3000 := (show 0 ≤ (xi (E 0) 19).toInt ∧ (xi (E 0) 19).toInt ≤ 3000 from hI0.iv 0 (Nat.le_of_ble_eq_true rfl) rfl (Nat.le_of_ble_eq_true rfl) rfl)
  have i17 : 0 ≤ (xi (E 0) 20).toInt ∧ (xi (E 0) 20).toInt ≤ 200 := (show 0 ≤ (xi (E 0) 20).toInt ∧ (xi (E 0) 20).toInt ≤ 200 from hI0.iv 0 (Nat.le_of_ble_eq_true rfl) rfl (Nat.le_of_ble_eq_true rfl) rfl)
  try rw [(show xi (E 0) 21 = y1 from vi_e fy1)] at f10
  try rw [(show xi (E5 0) 21 = y7 from vi_e fy7)] at f10
  try rw [(show xi (E 0) 23 = y3 from vi_e fy3)] at f11
  try rw [(show xi (E5 0) 23 = y9 from vi_e fy9)] at f11
  try rw [(show xi (E 0) 22 = y2 from vi_e fy2)] at f12
  try rw [(show xi (E 0) 23 = y3 from vi_e fy3)] at f12
  try rw [(show xi (E5 0) 22 = y8 from vi_e fy8)] at f12
  try rw [(show xi (E5 0) 23 = y9 from vi_e fy9)] at f12
  try rw [(show xi (E 0) 22 = y2 from vi_e fy2)] at f13
  try rw [(show xi (E5 0) 22 = y8 from vi_e fy8)] at f13
  refine lv_istore_n (lv' := [(1, .int r4), (0, .ref (ad 0))]) hx hb dX13_term_4 rfl hl (by decide) rfl (fun ls hl => ?_)
  have hL5 : ∀ d : Nat, ∀ (w5_0_21 : Int32) (w5_0_22 : Int32) (w5_0_23 : Int32) (v5_1 : Int32) (E5_ : Nat → va_E) (H : Heap) (locs : List Loc) (ls : Array Slot), 0 ≤ w5_0_21.toInt ∧ w5_0_21.toInt ≤ 201 → -1 ≤ w5_0_22.toInt ∧ w5_0_22.toInt ≤ 201 → 0 ≤ w5_0_23.toInt ∧ w5_0_23.toInt ≤ 8 → y1.toInt ≤ w5_0_21.toInt → y3.toInt ≤ w5_0_23.toInt → (w5_0_22.toInt = -1 → w5_0_23.toInt = y3.toInt) → (w5_0_22.toInt = -1 → y2.toInt = -1) → LpM k (fun t m a => termS true t m n a) (fun t m => opL t m isMul jb (atomS true t m n)) 0 E E5_ → LpW k [] (fun t m a => termS true t m n a) (fun t m => opL t m isMul jb (atomS true t m n)) E E5_ v5_1 → 201 - w5_0_21.toInt < (d : Int) → IX cT shM spM 72 ad E5_ → Kp w_termW E E5_ → xv (E5_ 0) 21 = .int w5_0_21 → xv (E5_ 0) 22 = .int w5_0_22 → xv (E5_ 0) 23 = .int w5_0_23 → va_P (dC, dI) vwCl (WX 72 ad E5_) H → va_S A s.heap H locs → lv_has ls 5 [(1, .int v5_1), (0, .ref (ad 0))] → W p l e (headSpec v_termW (rm_termW n)).room s m args below meth c H locs 0 0 Q (F0 m 5 ls []) := by
    intro d
    induction d with
    | zero =>
      intro w5_0_21 w5_0_22 w5_0_23 v5_1 E5_ H locs ls hw5_0_21 hw5_0_22 hw5_0_23 hx5_0 hx5_1 hx5_2 hx5_3 hx5_4 hx5_5 hx5_6 hI hKp hs5_0_21 hs5_0_22 hs5_0_23 hP hS hl
      exact absurd hx5_6 (by omega)
    | succ d ih5 =>
      intro w5_0_21 w5_0_22 w5_0_23 v5_1 E5_ H locs ls hw5_0_21 hw5_0_22 hw5_0_23 hx5_0 hx5_1 hx5_2 hx5_3 hx5_4 hx5_5 hx5_6 hI hKp hs5_0_21 hs5_0_22 hs5_0_23 hP hS hl
      refine lv_aload_n hx hb dX13_term_5 rfl (lv_at hl 1 rfl) ?_
      refine th_get (ci := 14) (C := RX13) (T := TX13) (N := 97) (v := .int w5_0_22) hx hb hts hinX13 hown hK hP hI 0 (Nat.le_of_ble_eq_true rfl) rfl rfl 22 (Nat.le_of_ble_eq_true rfl) (hts _ (vA_in _ _ (in_25 _ (zs16 (zs16 (zs4 (zs1 (zs1 (zs1 (zs0)))))))))) (fun _ h9 => h9) hs5_0_22 dX13_term_6 ?_
      refine lv_iconst (v := -1) hx hb dX13_term_9 (by decide) ?_
      refine lv_icmp_ne (tgt := 94) hx hb dX13_term_10 (by decide) (fun c18 => ?_) (fun c18 => ?_)
      · --10 taken
        have t19 : ¬ w5_0_22.toInt = -1 := ti_ne c18
        have i20 : 0 ≤ w5_0_22.toInt ∧ w5_0_22.toInt ≤ 201 := iv_ne_l t19 hw5_0_22 (il_ (-1))
        refine lv_iload_n hx hb dX13_term_94 rfl (lv_at hl 0 rfl) ?_
        rw [hQ]
        exact W.iret (v := v5_1) hx hb hr (fun t ht hW => ⟨⟨v5_1, E5_, rfl, ⟨hI, hKp, ⟨by (try rw [(show xi (E5_ 0) 21 = w5_0_21 from vi_e hs5_0_21)]); (try rw [ey1]); first | done | exact hx5_0 | all_goals omega, by (try rw [(show xi (E5_ 0) 23 = w5_0_23 from vi_e hs5_0_23)]); (try rw [ey3]); first | done | exact hx5_1 | all_goals omega, by (try rw [(show xi (E5_ 0) 22 = w5_0_22 from vi_e hs5_0_22)]); (try rw [(show xi (E5_ 0) 23 = w5_0_23 from vi_e hs5_0_23)]); (try rw [ey2]); (try rw [ey3]); first | done | exact fun q9 => absurd (q9) t19 | all_goals omega, by (try rw [(show xi (E5_ 0) 22 = w5_0_22 from vi_e hs5_0_22)]); (try rw [ey2]); first | done | exact fun q9 => absurd (q9) t19 | all_goals omega, LpM.exF hx5_4 (by show ¬ (xi (E5_ 0) 22).toInt = -1; rw [show xi (E5_ 0) 22 = w5_0_22 from vi_e hs5_0_22]; omega), RdW.nf (by show ¬ (xi (E5_ 0) 22).toInt = -1; rw [show xi (E5_ 0) 22 = w5_0_22 from vi_e hs5_0_22]; omega)⟩⟩, by show va_P (dC, dI) vwCl (WX 72 ad E5_) t.heap; rw [ht]; exact hP⟩, hS.F ht⟩) hS.2.2 dX13_term_95
      · --10 not
        have t21 : w5_0_22.toInt = -1 := ti_eq c18
        have i22 : -1 ≤ w5_0_22.toInt ∧ w5_0_22.toInt ≤ -1 := iv_eqi t21 hw5_0_22 (il_ (-1)) (by decide)
        refine lv_aload_n hx hb dX13_term_13 rfl (lv_at hl 1 rfl) ?_
        refine th_i (va_runV (As := []) (rest := []) ⟨hx, hb, hml, hown, hts⟩ (q_lookX l dC dI cT ad E5_ H.size k nl hI (by exact hh0) (by exact hh1) (by exact hh2) (by exact (hKp 0 18 rfl).trans hh3) (by (try rw [hKp.ei 0 19 rfl]); exact hh4)) (cwV 0 hts (gi_V (in_26 _ (zs1 (zs1 (zs0)))) (in_26 _ (zs1 (zs1 (zs1 (zs0))))) (in_26 _ (zs4 (zs0))) (in_24 _ (zs4 (zs4 (zs4 (zs1 (zs1 (zs1 (zs0)))))))) (in_26 _ (zs4 (zs1 (zs0))))) rfl rfl rfl ⟨rfl, hz_yX13_look_0⟩ ⟨(show 0 + 1 ≤ 7 * n + 6 from nl_1 (Nat.le_of_ble_eq_true rfl)), (show 8 + (1 + 11) + 40 * (0) ≤ 40 * (7 * n + 6) from nl_2 (Nat.le_of_ble_eq_true rfl))⟩) ⟨HW_bl, va_recv hK hP (ci := 14) (q0 := 0) rfl (hI.ob 0 (Nat.le_of_ble_eq_true rfl) rfl), (HW_wi hP hK (WX_D hD) hS hA hEV)⟩ rfl rfl hl.1 rfl (lv_room (Nat.le_of_ble_eq_true rfl)) dX13_term_14 ⟨Nat.le_of_ble_eq_true rfl, Nat.le_of_ble_eq_true rfl⟩) (WX_D hD) hS hA (fun r23 E24 H locs hw hP hS => ?_)
        obtain ⟨hI, kq25, hw⟩ := hw
        have hKb := hKp
        have hKp := hKp.tr kq25 (wl_sub rfl rfl)
        obtain ⟨y26, ey26⟩ : ∃ y, xi (E24 0) 21 = y := ⟨_, rfl⟩
        have fy26 : xv (E24 0) 21 = .int y26 := (hI.fi 0 (Nat.le_of_ble_eq_true rfl) rfl (Nat.le_of_ble_eq_true rfl) rfl).trans (congrArg Value.int ey26)
        have iy26 : 0 ≤ y26.toInt ∧ y26.toInt ≤ 201 := by rw [← ey26]; exact hI.iv 0 (Nat.le_of_ble_eq_true rfl) rfl (Nat.le_of_ble_eq_true rfl) rfl
        obtain ⟨f27, f28, f29, f30, f31⟩ := hw
        try rw [(show xi (E5_ 0) 21 = w5_0_21 from vi_e hs5_0_21)] at f28
        try rw [(show xi (E24 0) 21 = y26 from vi_e fy26)] at f28
        try rw [(show xi (E5_ 0) 21 = w5_0_21 from vi_e hs5_0_21)] at f29
        try rw [hKb.ei 0 20 rfl] at f29
        try rw [(show xi (E24 0) 21 = y26 from vi_e fy26)] at f29
        try rw [(show xi (E5_ 0) 21 = w5_0_21 from vi_e hs5_0_21)] at f30
        try rw [hKb.ei 0 20 rfl] at f30
        try rw [(show xi (E24 0) 21 = y26 from vi_e fy26)] at f30
        refine lv_bipush (v := 42) hx hb dX13_term_17 (by decide) ?_
        refine lv_icmp_eq (tgt := 31) hx hb dX13_term_19 (by decide) (fun c32 => ?_) (fun c32 => ?_)
        · --19 taken
          have t33 : r23.toInt = 42 := ti_eq c32
          have i34 : 42 ≤ r23.toInt ∧ r23.toInt ≤ 42 := iv_eqi t33 f27 (il_ 42) (by decide)
          refine lv_aload_n hx hb dX13_term_31 rfl (lv_at hl 1 rfl) ?_
          refine th_i (va_runV (As := []) (rest := []) ⟨hx, hb, hml, hown, hts⟩ (q_lookX l dC dI cT ad E24 H.size k nl hI (by exact hh0) (by exact hh1) (by exact hh2) (by exact (hKp 0 18 rfl).trans hh3) (by (try rw [hKp.ei 0 19 rfl]); exact hh4)) (cwV 0 hts (gi_V (in_26 _ (zs1 (zs1 (zs0)))) (in_26 _ (zs1 (zs1 (zs1 (zs0))))) (in_26 _ (zs4 (zs0))) (in_24 _ (zs4 (zs4 (zs4 (zs1 (zs1 (zs1 (zs0)))))))) (in_26 _ (zs4 (zs1 (zs0))))) rfl rfl rfl ⟨rfl, hz_yX13_look_0⟩ ⟨(show 0 + 1 ≤ 7 * n + 6 from nl_1 (Nat.le_of_ble_eq_true rfl)), (show 8 + (1 + 11) + 40 * (0) ≤ 40 * (7 * n + 6) from nl_2 (Nat.le_of_ble_eq_true rfl))⟩) ⟨HW_bl, va_recv hK hP (ci := 14) (q0 := 0) rfl (hI.ob 0 (Nat.le_of_ble_eq_true rfl) rfl), (HW_wi hP hK (WX_D hD) hS hA hEV)⟩ rfl rfl hl.1 rfl (lv_room (Nat.le_of_ble_eq_true rfl)) dX13_term_32 ⟨Nat.le_of_ble_eq_true rfl, Nat.le_of_ble_eq_true rfl⟩) (WX_D hD) hS hA (fun r35 E36 H locs hw hP hS => ?_)
          obtain ⟨hI, kq37, hw⟩ := hw
          have hKb := hKp
          have hKp := hKp.tr kq37 (wl_sub rfl rfl)
          obtain ⟨y38, ey38⟩ : ∃ y, xi (E36 0) 21 = y := ⟨_, rfl⟩
          have fy38 : xv (E36 0) 21 = .int y38 := (hI.fi 0 (Nat.le_of_ble_eq_true rfl) rfl (Nat.le_of_ble_eq_true rfl) rfl).trans (congrArg Value.int ey38)
          have iy38 : 0 ≤ y38.toInt ∧ y38.toInt ≤ 201 := by rw [← ey38]; exact hI.iv 0 (Nat.le_of_ble_eq_true rfl) rfl (Nat.le_of_ble_eq_true rfl) rfl
          obtain ⟨f39, f40, f41, f42, f43⟩ := hw
          try rw [(show xi (E24 0) 21 = y26 from vi_e fy26)] at f40
          try rw [(show xi (E36 0) 21 = y38 from vi_e fy38)] at f40
          try rw [(show xi (E24 0) 21 = y26 from vi_e fy26)] at f41
          try rw [hKb.ei 0 20 rfl] at f41
          try rw [(show xi (E36 0) 21 = y38 from vi_e fy38)] at f41
          try rw [(show xi (E24 0) 21 = y26 from vi_e fy26)] at f42
          try rw [hKb.ei 0 20 rfl] at f42
          try rw [(show xi (E36 0) 21 = y38 from vi_e fy38)] at f42
          refine lv_bipush (v := 42) hx hb dX13_term_35 (by decide) ?_
          refine lv_icmp_ne (tgt := 44) hx hb dX13_term_37 (by decide) (fun c44 => ?_) (fun c44 => ?_)
          · --37 taken
            have t45 : ¬ r35.toInt = 42 := ti_ne c44
            refine lv_iconst (v := 0) hx hb dX13_term_44 (by decide) ?_
            refine lv_istore_n (lv' := [(2, .int 0), (1, .int v5_1), (0, .ref (ad 0))]) hx hb dX13_term_45 rfl hl (by decide) rfl (fun ls hl => ?_)
            refine lv_aload_n hx hb dX13_term_46 rfl (lv_at hl 2 rfl) ?_
            refine lv_dup hx hb dX13_term_47 rfl ?_
            refine th_get (ci := 14) (C := RX13) (T := TX13) (N := 97) (v := .int y38) hx hb hts hinX13 hown hK hP hI 0 (Nat.le_of_ble_eq_true rfl) rfl rfl 21 (Nat.le_of_ble_eq_true rfl) (hts _ (vA_in _ _ (in_25 _ (zs16 (zs16 (zs4 (zs0))))))) (fun _ h9 => h9) fy38 dX13_term_48 ?_
            refine lv_iconst (v := 1) hx hb dX13_term_51 (by decide) ?_
            refine lv_iadd hx hb dX13_term_52 ?_
            refine lv_topi (fun y46 ey46 => ?_)
            obtain ⟨ty46, iy46⟩ := ti_add (e := 1) (f := 202) iy38 ln_1 ey46 (by decide)
            have ty46 : y46.toInt = y38.toInt + 1 := ty46
            have iy46 : 1 ≤ y46.toInt ∧ y46.toInt ≤ 202 := iy46
            have i47 : 1 ≤ y46.toInt ∧ y46.toInt ≤ 201 := by omega
            refine th_put (ci := 14) (C := RX13) (T := TX13) (N := 97) (v := .int y46) (ty := .int) hx hb hts hinX13 tyX13 tyX13_ok nmX13 hown hK hP (WX_D hD) hS hI 0 (Nat.le_of_ble_eq_true rfl) rfl rfl 21 (Nat.le_of_ble_eq_true rfl) (hts _ (vA_in _ _ (in_25 _ (zs16 (zs16 (zs4 (zs0))))))) (fun _ h9 => h9) rfl (by decide +kernel) rfl rfl (okI rfl (iv_w i47 (by decide))) dX13_term_53 (fun H locs E48 pw49 hI hP hS => ?_)
            have hKp := hKp.pw pw49 rfl
            have k50 : AtM k E36 E48 := AtM.pw pw49.2 hk0 (vi_e fy38) (vi_e pw49.1) ty46 (by omega)
            have k51 : MZ E E48 := MZ.kp hKp (fun _ => rfl)
            refine lv_aload_n hx hb dX13_term_56 rfl (lv_at hl 2 rfl) ?_
            refine th_i (va_runV (As := []) (rest := []) ⟨hx, hb, hml, hown, hts⟩ (gA dC dI cT ad E48 H.size k nl hI (by exact hh0) (by exact hh1) (by exact hh2) (by exact (hKp 0 18 rfl).trans hh3) (by (try rw [hKp.ei 0 19 rfl]); exact hh4) (by (try rw [(show xi (E48 0) 23 = w5_0_23 from vi_e ((pw49.2 0 23 (fun q9 => absurd q9.2 (Nat.ne_of_beq_eq_false rfl))).trans ((kq37 0 23 rfl).trans ((kq25 0 23 rfl).trans hs5_0_23))))]); omega) (by (try rw [(show xi (E48 0) 22 = w5_0_22 from vi_e ((pw49.2 0 22 (fun q9 => absurd q9.2 (Nat.ne_of_beq_eq_false rfl))).trans ((kq37 0 22 rfl).trans ((kq25 0 22 rfl).trans hs5_0_22))))]); omega)) (cwV 0 hts (gi_V (in_27 _ (zs1 (zs1 (zs1 (zs0))))) (in_27 _ (zs4 (zs0))) (in_27 _ (zs4 (zs1 (zs0)))) (in_24 _ (zs4 (zs4 (zs4 (zs1 (zs1 (zs1 (zs0)))))))) (in_25 _ (zs16 (zs16 (zs1 (zs1 (zs1 (zs0)))))))) rfl rfl rfl (by decide +kernel) ⟨(show 7 * n + 5 + 1 ≤ 7 * n + 6 from nl_4 (Nat.le_of_ble_eq_true rfl) (Nat.le_of_ble_eq_true rfl)), (show 8 + (4 + 11) + 40 * (7 * n + 5) ≤ 40 * (7 * n + 6) from nl_3 (Nat.le_of_ble_eq_true rfl) (Nat.le_of_ble_eq_true rfl))⟩) ⟨HW_bl, va_recv hK hP (ci := 14) (q0 := 0) rfl (hI.ob 0 (Nat.le_of_ble_eq_true rfl) rfl), (HW_wi hP hK (WX_D hD) hS hA hEV)⟩ rfl rfl hl.1 rfl (lv_room (Nat.le_of_ble_eq_true rfl)) dX13_term_57 ⟨Nat.le_of_ble_eq_true rfl, Nat.le_of_ble_eq_true rfl⟩) (WX_D hD) hS hA (fun r52 E53 H locs hw hP hS => ?_)
            obtain ⟨hI, kq54, hw⟩ := hw
            have hKb := hKp
            have hKp := hKp.tr kq54 (wl_sub rfl rfl)
            obtain ⟨y55, ey55⟩ : ∃ y, xi (E53 0) 21 = y := ⟨_, rfl⟩
            have fy55 : xv (E53 0) 21 = .int y55 := (hI.fi 0 (Nat.le_of_ble_eq_true rfl) rfl (Nat.le_of_ble_eq_true rfl) rfl).trans (congrArg Value.int ey55)
            have iy55 : 0 ≤ y55.toInt ∧ y55.toInt ≤ 201 := by rw [← ey55]; exact hI.iv 0 (Nat.le_of_ble_eq_true rfl) rfl (Nat.le_of_ble_eq_true rfl) rfl
            obtain ⟨y56, ey56⟩ : ∃ y, xi (E53 0) 22 = y := ⟨_, rfl⟩
            have fy56 : xv (E53 0) 22 = .int y56 := (hI.fi 0 (Nat.le_of_ble_eq_true rfl) rfl (Nat.le_of_ble_eq_true rfl) rfl).trans (congrArg Value.int ey56)
            have iy56 : -1 ≤ y56.toInt ∧ y56.toInt ≤ 201 := by rw [← ey56]; exact hI.iv 0 (Nat.le_of_ble_eq_true rfl) rfl (Nat.le_of_ble_eq_true rfl) rfl
            obtain ⟨y57, ey57⟩ : ∃ y, xi (E53 0) 23 = y := ⟨_, rfl⟩
            have fy57 : xv (E53 0) 23 = .int y57 := (hI.fi 0 (Nat.le_of_ble_eq_true rfl) rfl (Nat.le_of_ble_eq_true rfl) rfl).trans (congrArg Value.int ey57)
            have iy57 : 0 ≤ y57.toInt ∧ y57.toInt ≤ 8 := by rw [← ey57]; exact hI.iv 0 (Nat.le_of_ble_eq_true rfl) rfl (Nat.le_of_ble_eq_true rfl) rfl
            obtain ⟨f58, f59, f60, f61, f62, f63⟩ := hw
            try rw [(show xi (E48 0) 21 = y46 from vi_e pw49.1)] at f58
            try rw [(show xi (E53 0) 21 = y55 from vi_e fy55)] at f58
            try rw [(show xi (E48 0) 23 = w5_0_23 from vi_e ((pw49.2 0 23 (fun q9 => absurd q9.2 (Nat.ne_of_beq_eq_false rfl))).trans ((kq37 0 23 rfl).trans ((kq25 0 23 rfl).trans hs5_0_23))))] at f59
            try rw [(show xi (E53 0) 23 = y57 from vi_e fy57)] at f59
            try rw [(show xi (E48 0) 22 = w5_0_22 from vi_e ((pw49.2 0 22 (fun q9 => absurd q9.2 (Nat.ne_of_beq_eq_false rfl))).trans ((kq37 0 22 rfl).trans ((kq25 0 22 rfl).trans hs5_0_22))))] at f60
            try rw [(show xi (E48 0) 23 = w5_0_23 from vi_e ((pw49.2 0 23 (fun q9 => absurd q9.2 (Nat.ne_of_beq_eq_false rfl))).trans ((kq37 0 23 rfl).trans ((kq25 0 23 rfl).trans hs5_0_23))))] at f60
            try rw [(show xi (E53 0) 22 = y56 from vi_e fy56)] at f60
            try rw [(show xi (E53 0) 23 = y57 from vi_e fy57)] at f60
            try rw [(show xi (E48 0) 22 = w5_0_22 from vi_e ((pw49.2 0 22 (fun q9 => absurd q9.2 (Nat.ne_of_beq_eq_false rfl))).trans ((kq37 0 22 rfl).trans ((kq25 0 22 rfl).trans hs5_0_22))))] at f61
            try rw [(show xi (E53 0) 22 = y56 from vi_e fy56)] at f61
            refine lv_i2l hx hb dX13_term_60 rfl ?_
            refine lv_topl (fun y64 ey64 => ?_)
            refine lv_lstore_n (lv' := [(3, .long y64), (2, .int 0), (1, .int v5_1), (0, .ref (ad 0))]) hx hb dX13_term_61 rfl hl (by decide) rfl (fun ls hl => ?_)
            refine lv_iload_n hx hb dX13_term_62 rfl (lv_at hl 1 rfl) ?_
            refine lv_if_eq (tgt := 73) hx hb dX13_term_63 (by decide) (fun c65 => ?_) (fun c65 => ?_)
            · --63 taken
              refine lv_lload_n hx hb dX13_term_73 rfl (lv_at hl 0 rfl) ?_
              refine lv_lconst hx hb dX13_term_74 rfl ?_
              refine lv_topl (fun y66 ey66 => ?_)
              refine W.lcmp hx hb dX13_term_75 ?_
              refine lv_topi (fun y67 ey67 => ?_)
              refine lv_if_ne (tgt := 83) hx hb dX13_term_76 (by decide) (fun c68 => ?_) (fun c68 => ?_)
              · --76 taken
                have t69 : ¬ y67.toInt = 0 := ti_ne c68
                refine lv_iload_n hx hb dX13_term_83 rfl (lv_at hl 2 rfl) ?_
                refine lv_i2l hx hb dX13_term_84 rfl ?_
                refine lv_topl (fun y70 ey70 => ?_)
                refine lv_lload_n hx hb dX13_term_85 rfl (lv_at hl 0 rfl) ?_
                refine lv_ldiv hx hb dX13_term_86 (lcmp_n0 ey67 ey66 c68) ?_
                refine lv_topl (fun y71 ey71 => ?_)
                refine th_pi (va_runS (As := [.long y71]) (rest := []) ⟨hx, hb, hml, hown, hts⟩ (q_boundX l y71) (va_cwS 1 hts (gi_S (in_26 _ (zs16 (zs4 (zs4 (zs4 (zs1 (zs1 (zs1 (zs0))))))))) (in_26 _ (zs16 (zs16 (zs0)))) (in_24 _ (zs4 (zs4 (zs4 (zs1 (zs1 (zs1 (zs0)))))))) (in_26 _ (zs16 (zs16 (zs1 (zs0)))))) rfl rfl rfl hz_yX13_bound_1 ⟨(show 1 + 1 ≤ 7 * n + 6 from nl_1 (Nat.le_of_ble_eq_true rfl)), (show 8 + (2 + 11) + 40 * (1) ≤ 40 * (7 * n + 6) from nl_2 (Nat.le_of_ble_eq_true rfl))⟩) ⟨fun _ _ _ _ q => q, fun _ _ _ => ⟨rfl, trivial⟩⟩ rfl rfl hl.1 rfl (lv_room (Nat.le_of_ble_eq_true rfl)) dX13_term_87 ⟨Nat.le_of_ble_eq_true rfl, Nat.le_of_ble_eq_true rfl⟩) hS (fun r72 H1 locs1 hw hk1 hS => ?_)
                have hP := ub_keep hP hk1
                generalize H1 = H at hP hS ⊢
                generalize locs1 = locs at hS ⊢
                have f73 := hw
                refine lv_istore_n (lv' := [(1, .int r72), (3, .long y64), (2, .int 0), (0, .ref (ad 0))]) hx hb dX13_term_90 rfl hl (by decide) rfl (fun ls hl => ?_)
                refine lv_goto (tgt := 5) hx hb dX13_term_91 (by decide) ?_
                exact ih5 y55 y56 y57 r72 E53 _ _ _ iy55 iy56 iy57 (by  first | exact (Int.le_trans (Int.le_trans (Int.le_trans (Int.le_trans hx5_0 f28) f40) (Int.le_trans (Int.le_add_of_nonneg_right (by decide)) (Int.le_of_eq ty46.symm))) f58) | omega) (by  first | exact (Int.le_trans hx5_1 f59) | omega) (by  first | exact fun q9 => ((f60 (q9)).trans (hx5_2 (f61 (q9)))) | omega) (by  first | exact fun q9 => hx5_3 (f61 (q9)) | omega) (LpM.step (op := isMul) (cb := jb) hx5_4 (f31.two f43) (is_mul.mpr (by have q20 := f31.eq f43 (by show (xi (E5_ 0) 22).toInt = -1; rw [show xi (E5_ 0) 22 = w5_0_22 from vi_e hs5_0_22]; first | exact t21 | omega); omega)) (by show (xi (E5_ 0) 22).toInt = -1; rw [show xi (E5_ 0) 22 = w5_0_22 from vi_e hs5_0_22]; first | exact t21 | omega) k50 f62 KM.rf (by decide) (fun t m => atomS_mono true t m n) (fun t m a c h => opL_1 (atomS_mono true t m n) rfl h)) (LpW.step (op := isMul) hx5_4 hx5_5 (f31.two f43) (is_mul.mpr (by have q20 := f31.eq f43 (by show (xi (E5_ 0) 22).toInt = -1; rw [show xi (E5_ 0) 22 = w5_0_22 from vi_e hs5_0_22]; first | exact t21 | omega); omega)) k50 k51 f62 f63 (by have q20 := f31.eq f43 (by show (xi (E5_ 0) 22).toInt = -1; rw [show xi (E5_ 0) 22 = w5_0_22 from vi_e hs5_0_22]; first | exact t21 | omega); first | (exfalso; omega) | (rw [show r35.toInt = 47 by omega]; exact jn_div (lcz ey67 ey66 ey64 (by omega)) (ey71.trans (by rw [ey70, ey64])) f73)) (by have q20 := f31.eq f43 (by show (xi (E5_ 0) 22).toInt = -1; rw [show xi (E5_ 0) 22 = w5_0_22 from vi_e hs5_0_22]; first | exact t21 | omega); omega) (by have q20 := f31.eq f43 (by show (xi (E5_ 0) 22).toInt = -1; rw [show xi (E5_ 0) 22 = w5_0_22 from vi_e hs5_0_22]; first | exact t21 | omega); omega) (fun t m a c h => opL_1 (atomS_mono true t m n) rfl h)) (by omega) hI hKp fy55 fy56 fy57 hP hS (lv_sub hl [0, 3] rfl)
              · --76 not
                have t74 : y67.toInt = 0 := ti_eq c68
                have i75 : 0 ≤ y67.toInt ∧ y67.toInt ≤ 0 := iv_eqi t74 (iv_all _) (il_ 0) (by decide)
                refine lv_lconst hx hb dX13_term_79 rfl ?_
                refine lv_topl (fun y76 ey76 => ?_)
                refine lv_goto (tgt := 87) hx hb dX13_term_80 (by decide) ?_
                refine th_pi (va_runS (As := [.long y76]) (rest := []) ⟨hx, hb, hml, hown, hts⟩ (q_boundX l y76) (va_cwS 1 hts (gi_S (in_26 _ (zs16 (zs4 (zs4 (zs4 (zs1 (zs1 (zs1 (zs0))))))))) (in_26 _ (zs16 (zs16 (zs0)))) (in_24 _ (zs4 (zs4 (zs4 (zs1 (zs1 (zs1 (zs0)))))))) (in_26 _ (zs16 (zs16 (zs1 (zs0)))))) rfl rfl rfl hz_yX13_bound_1 ⟨(show 1 + 1 ≤ 7 * n + 6 from nl_1 (Nat.le_of_ble_eq_true rfl)), (show 8 + (2 + 11) + 40 * (1) ≤ 40 * (7 * n + 6) from nl_2 (Nat.le_of_ble_eq_true rfl))⟩) ⟨fun _ _ _ _ q => q, fun _ _ _ => ⟨rfl, trivial⟩⟩ rfl rfl hl.1 rfl (lv_room (Nat.le_of_ble_eq_true rfl)) dX13_term_87 ⟨Nat.le_of_ble_eq_true rfl, Nat.le_of_ble_eq_true rfl⟩) hS (fun r77 H1 locs1 hw hk1 hS => ?_)
                have hP := ub_keep hP hk1
                generalize H1 = H at hP hS ⊢
                generalize locs1 = locs at hS ⊢
                have f78 := hw
                refine lv_istore_n (lv' := [(1, .int r77), (3, .long y64), (2, .int 0), (0, .ref (ad 0))]) hx hb dX13_term_90 rfl hl (by decide) rfl (fun ls hl => ?_)
                refine lv_goto (tgt := 5) hx hb dX13_term_91 (by decide) ?_
                exact ih5 y55 y56 y57 r77 E53 _ _ _ iy55 iy56 iy57 (by  first | exact (Int.le_trans (Int.le_trans (Int.le_trans (Int.le_trans hx5_0 f28) f40) (Int.le_trans (Int.le_add_of_nonneg_right (by decide)) (Int.le_of_eq ty46.symm))) f58) | omega) (by  first | exact (Int.le_trans hx5_1 f59) | omega) (by  first | exact fun q9 => ((f60 (q9)).trans (hx5_2 (f61 (q9)))) | omega) (by  first | exact fun q9 => hx5_3 (f61 (q9)) | omega) (LpM.step (op := isMul) (cb := jb) hx5_4 (f31.two f43) (is_mul.mpr (by have q20 := f31.eq f43 (by show (xi (E5_ 0) 22).toInt = -1; rw [show xi (E5_ 0) 22 = w5_0_22 from vi_e hs5_0_22]; first | exact t21 | omega); omega)) (by show (xi (E5_ 0) 22).toInt = -1; rw [show xi (E5_ 0) 22 = w5_0_22 from vi_e hs5_0_22]; first | exact t21 | omega) k50 f62 KM.rf (by decide) (fun t m => atomS_mono true t m n) (fun t m a c h => opL_1 (atomS_mono true t m n) rfl h)) (LpW.step (op := isMul) hx5_4 hx5_5 (f31.two f43) (is_mul.mpr (by have q20 := f31.eq f43 (by show (xi (E5_ 0) 22).toInt = -1; rw [show xi (E5_ 0) 22 = w5_0_22 from vi_e hs5_0_22]; first | exact t21 | omega); omega)) k50 k51 f62 f63 (by have q20 := f31.eq f43 (by show (xi (E5_ 0) 22).toInt = -1; rw [show xi (E5_ 0) 22 = w5_0_22 from vi_e hs5_0_22]; first | exact t21 | omega); first | (exfalso; omega) | (rw [show r35.toInt = 47 by omega]; exact jn_div0 (lcy ey67 ey66 ey64 (by omega)) ey76 f78)) (by have q20 := f31.eq f43 (by show (xi (E5_ 0) 22).toInt = -1; rw [show xi (E5_ 0) 22 = w5_0_22 from vi_e hs5_0_22]; first | exact t21 | omega); omega) (by have q20 := f31.eq f43 (by show (xi (E5_ 0) 22).toInt = -1; rw [show xi (E5_ 0) 22 = w5_0_22 from vi_e hs5_0_22]; first | exact t21 | omega); omega) (fun t m a c h => opL_1 (atomS_mono true t m n) rfl h)) (by omega) hI hKp fy55 fy56 fy57 hP hS (lv_sub hl [0, 3] rfl)
            · --63 not
              exact absurd c65 (by decide)
          · --37 not
            have t79 : r35.toInt = 42 := ti_eq c44
            have i80 : 42 ≤ r35.toInt ∧ r35.toInt ≤ 42 := iv_eqi t79 f39 (il_ 42) (by decide)
            refine lv_iconst (v := 1) hx hb dX13_term_40 (by decide) ?_
            refine lv_goto (tgt := 45) hx hb dX13_term_41 (by decide) ?_
            refine lv_istore_n (lv' := [(2, .int 1), (1, .int v5_1), (0, .ref (ad 0))]) hx hb dX13_term_45 rfl hl (by decide) rfl (fun ls hl => ?_)
            refine lv_aload_n hx hb dX13_term_46 rfl (lv_at hl 2 rfl) ?_
            refine lv_dup hx hb dX13_term_47 rfl ?_
            refine th_get (ci := 14) (C := RX13) (T := TX13) (N := 97) (v := .int y38) hx hb hts hinX13 hown hK hP hI 0 (Nat.le_of_ble_eq_true rfl) rfl rfl 21 (Nat.le_of_ble_eq_true rfl) (hts _ (vA_in _ _ (in_25 _ (zs16 (zs16 (zs4 (zs0))))))) (fun _ h9 => h9) fy38 dX13_term_48 ?_
            refine lv_iconst (v := 1) hx hb dX13_term_51 (by decide) ?_
            refine lv_iadd hx hb dX13_term_52 ?_
            refine lv_topi (fun y81 ey81 => ?_)
            obtain ⟨ty81, iy81⟩ := ti_add (e := 1) (f := 202) iy38 ln_1 ey81 (by decide)
            have ty81 : y81.toInt = y38.toInt + 1 := ty81
            have iy81 : 1 ≤ y81.toInt ∧ y81.toInt ≤ 202 := iy81
            have i82 : 1 ≤ y81.toInt ∧ y81.toInt ≤ 201 := by omega
            refine th_put (ci := 14) (C := RX13) (T := TX13) (N := 97) (v := .int y81) (ty := .int) hx hb hts hinX13 tyX13 tyX13_ok nmX13 hown hK hP (WX_D hD) hS hI 0 (Nat.le_of_ble_eq_true rfl) rfl rfl 21 (Nat.le_of_ble_eq_true rfl) (hts _ (vA_in _ _ (in_25 _ (zs16 (zs16 (zs4 (zs0))))))) (fun _ h9 => h9) rfl (by decide +kernel) rfl rfl (okI rfl (iv_w i82 (by decide))) dX13_term_53 (fun H locs E83 pw84 hI hP hS => ?_)
            have hKp := hKp.pw pw84 rfl
            have k85 : AtM k E36 E83 := AtM.pw pw84.2 hk0 (vi_e fy38) (vi_e pw84.1) ty81 (by omega)
            have k86 : MZ E E83 := MZ.kp hKp (fun _ => rfl)
            refine lv_aload_n hx hb dX13_term_56 rfl (lv_at hl 2 rfl) ?_
            refine th_i (va_runV (As := []) (rest := []) ⟨hx, hb, hml, hown, hts⟩ (gA dC dI cT ad E83 H.size k nl hI (by exact hh0) (by exact hh1) (by exact hh2) (by exact (hKp 0 18 rfl).trans hh3) (by (try rw [hKp.ei 0 19 rfl]); exact hh4) (by (try rw [(show xi (E83 0) 23 = w5_0_23 from vi_e ((pw84.2 0 23 (fun q9 => absurd q9.2 (Nat.ne_of_beq_eq_false rfl))).trans ((kq37 0 23 rfl).trans ((kq25 0 23 rfl).trans hs5_0_23))))]); omega) (by (try rw [(show xi (E83 0) 22 = w5_0_22 from vi_e ((pw84.2 0 22 (fun q9 => absurd q9.2 (Nat.ne_of_beq_eq_false rfl))).trans ((kq37 0 22 rfl).trans ((kq25 0 22 rfl).trans hs5_0_22))))]); omega)) (cwV 0 hts (gi_V (in_27 _ (zs1 (zs1 (zs1 (zs0))))) (in_27 _ (zs4 (zs0))) (in_27 _ (zs4 (zs1 (zs0)))) (in_24 _ (zs4 (zs4 (zs4 (zs1 (zs1 (zs1 (zs0)))))))) (in_25 _ (zs16 (zs16 (zs1 (zs1 (zs1 (zs0)))))))) rfl rfl rfl (by decide +kernel) ⟨(show 7 * n + 5 + 1 ≤ 7 * n + 6 from nl_4 (Nat.le_of_ble_eq_true rfl) (Nat.le_of_ble_eq_true rfl)), (show 8 + (4 + 11) + 40 * (7 * n + 5) ≤ 40 * (7 * n + 6) from nl_3 (Nat.le_of_ble_eq_true rfl) (Nat.le_of_ble_eq_true rfl))⟩) ⟨HW_bl, va_recv hK hP (ci := 14) (q0 := 0) rfl (hI.ob 0 (Nat.le_of_ble_eq_true rfl) rfl), (HW_wi hP hK (WX_D hD) hS hA hEV)⟩ rfl rfl hl.1 rfl (lv_room (Nat.le_of_ble_eq_true rfl)) dX13_term_57 ⟨Nat.le_of_ble_eq_true rfl, Nat.le_of_ble_eq_true rfl⟩) (WX_D hD) hS hA (fun r87 E88 H locs hw hP hS => ?_)
            obtain ⟨hI, kq89, hw⟩ := hw
            have hKb := hKp
            have hKp := hKp.tr kq89 (wl_sub rfl rfl)
            obtain ⟨y90, ey90⟩ : ∃ y, xi (E88 0) 21 = y := ⟨_, rfl⟩
            have fy90 : xv (E88 0) 21 = .int y90 := (hI.fi 0 (Nat.le_of_ble_eq_true rfl) rfl (Nat.le_of_ble_eq_true rfl) rfl).trans (congrArg Value.int ey90)
            have iy90 : 0 ≤ y90.toInt ∧ y90.toInt ≤ 201 := by rw [← ey90]; exact hI.iv 0 (Nat.le_of_ble_eq_true rfl) rfl (Nat.le_of_ble_eq_true rfl) rfl
            obtain ⟨y91, ey91⟩ : ∃ y, xi (E88 0) 22 = y := ⟨_, rfl⟩
            have fy91 : xv (E88 0) 22 = .int y91 := (hI.fi 0 (Nat.le_of_ble_eq_true rfl) rfl (Nat.le_of_ble_eq_true rfl) rfl).trans (congrArg Value.int ey91)
            have iy91 : -1 ≤ y91.toInt ∧ y91.toInt ≤ 201 := by rw [← ey91]; exact hI.iv 0 (Nat.le_of_ble_eq_true rfl) rfl (Nat.le_of_ble_eq_true rfl) rfl
            obtain ⟨y92, ey92⟩ : ∃ y, xi (E88 0) 23 = y := ⟨_, rfl⟩
            have fy92 : xv (E88 0) 23 = .int y92 := (hI.fi 0 (Nat.le_of_ble_eq_true rfl) rfl (Nat.le_of_ble_eq_true rfl) rfl).trans (congrArg Value.int ey92)
            have iy92 : 0 ≤ y92.toInt ∧ y92.toInt ≤ 8 := by rw [← ey92]; exact hI.iv 0 (Nat.le_of_ble_eq_true rfl) rfl (Nat.le_of_ble_eq_true rfl) rfl
            obtain ⟨f93, f94, f95, f96, f97, f98⟩ := hw
            try rw [(show xi (E83 0) 21 = y81 from vi_e pw84.1)] at f93
            try rw [(show xi (E88 0) 21 = y90 from vi_e fy90)] at f93
            try rw [(show xi (E83 0) 23 = w5_0_23 from vi_e ((pw84.2 0 23 (fun q9 => absurd q9.2 (Nat.ne_of_beq_eq_false rfl))).trans ((kq37 0 23 rfl).trans ((kq25 0 23 rfl).trans hs5_0_23))))] at f94
            try rw [(show xi (E88 0) 23 = y92 from vi_e fy92)] at f94
            try rw [(show xi (E83 0) 22 = w5_0_22 from vi_e ((pw84.2 0 22 (fun q9 => absurd q9.2 (Nat.ne_of_beq_eq_false rfl))).trans ((kq37 0 22 rfl).trans ((kq25 0 22 rfl).trans hs5_0_22))))] at f95
            try rw [(show xi (E83 0) 23 = w5_0_23 from vi_e ((pw84.2 0 23 (fun q9 => absurd q9.2 (Nat.ne_of_beq_eq_false rfl))).trans ((kq37 0 23 rfl).trans ((kq25 0 23 rfl).trans hs5_0_23))))] at f95
            try rw [(show xi (E88 0) 22 = y91 from vi_e fy91)] at f95
            try rw [(show xi (E88 0) 23 = y92 from vi_e fy92)] at f95
            try rw [(show xi (E83 0) 22 = w5_0_22 from vi_e ((pw84.2 0 22 (fun q9 => absurd q9.2 (Nat.ne_of_beq_eq_false rfl))).trans ((kq37 0 22 rfl).trans ((kq25 0 22 rfl).trans hs5_0_22))))] at f96
            try rw [(show xi (E88 0) 22 = y91 from vi_e fy91)] at f96
            refine lv_i2l hx hb dX13_term_60 rfl ?_
            refine lv_topl (fun y99 ey99 => ?_)
            refine lv_lstore_n (lv' := [(3, .long y99), (2, .int 1), (1, .int v5_1), (0, .ref (ad 0))]) hx hb dX13_term_61 rfl hl (by decide) rfl (fun ls hl => ?_)
            refine lv_iload_n hx hb dX13_term_62 rfl (lv_at hl 1 rfl) ?_
            refine lv_if_eq (tgt := 73) hx hb dX13_term_63 (by decide) (fun c100 => ?_) (fun c100 => ?_)
            · --63 taken
              exact absurd c100 (by decide)
            · --63 not
              refine lv_iload_n hx hb dX13_term_66 rfl (lv_at hl 2 rfl) ?_
              refine lv_i2l hx hb dX13_term_67 rfl ?_
              refine lv_topl (fun y101 ey101 => ?_)
              refine lv_lload_n hx hb dX13_term_68 rfl (lv_at hl 0 rfl) ?_
              refine lv_lmul hx hb dX13_term_69 ?_
              refine lv_topl (fun y102 ey102 => ?_)
              refine lv_goto (tgt := 87) hx hb dX13_term_70 (by decide) ?_
              refine th_pi (va_runS (As := [.long y102]) (rest := []) ⟨hx, hb, hml, hown, hts⟩ (q_boundX l y102) (va_cwS 1 hts (gi_S (in_26 _ (zs16 (zs4 (zs4 (zs4 (zs1 (zs1 (zs1 (zs0))))))))) (in_26 _ (zs16 (zs16 (zs0)))) (in_24 _ (zs4 (zs4 (zs4 (zs1 (zs1 (zs1 (zs0)))))))) (in_26 _ (zs16 (zs16 (zs1 (zs0)))))) rfl rfl rfl hz_yX13_bound_1 ⟨(show 1 + 1 ≤ 7 * n + 6 from nl_1 (Nat.le_of_ble_eq_true rfl)), (show 8 + (2 + 11) + 40 * (1) ≤ 40 * (7 * n + 6) from nl_2 (Nat.le_of_ble_eq_true rfl))⟩) ⟨fun _ _ _ _ q => q, fun _ _ _ => ⟨rfl, trivial⟩⟩ rfl rfl hl.1 rfl (lv_room (Nat.le_of_ble_eq_true rfl)) dX13_term_87 ⟨Nat.le_of_ble_eq_true rfl, Nat.le_of_ble_eq_true rfl⟩) hS (fun r103 H1 locs1 hw hk1 hS => ?_)
              have hP := ub_keep hP hk1
              generalize H1 = H at hP hS ⊢
              generalize locs1 = locs at hS ⊢
              have f104 := hw
              refine lv_istore_n (lv' := [(1, .int r103), (3, .long y99), (2, .int 1), (0, .ref (ad 0))]) hx hb dX13_term_90 rfl hl (by decide) rfl (fun ls hl => ?_)
              refine lv_goto (tgt := 5) hx hb dX13_term_91 (by decide) ?_
              exact ih5 y90 y91 y92 r103 E88 _ _ _ iy90 iy91 iy92 (by  first | exact (Int.le_trans (Int.le_trans (Int.le_trans (Int.le_trans hx5_0 f28) f40) (Int.le_trans (Int.le_add_of_nonneg_right (by decide)) (Int.le_of_eq ty81.symm))) f93) | omega) (by  first | exact (Int.le_trans hx5_1 f94) | omega) (by  first | exact fun q9 => ((f95 (q9)).trans (hx5_2 (f96 (q9)))) | omega) (by  first | exact fun q9 => hx5_3 (f96 (q9)) | omega) (LpM.step (op := isMul) (cb := jb) hx5_4 (f31.two f43) (is_mul.mpr (by have q20 := f31.eq f43 (by show (xi (E5_ 0) 22).toInt = -1; rw [show xi (E5_ 0) 22 = w5_0_22 from vi_e hs5_0_22]; first | exact t21 | omega); omega)) (by show (xi (E5_ 0) 22).toInt = -1; rw [show xi (E5_ 0) 22 = w5_0_22 from vi_e hs5_0_22]; first | exact t21 | omega) k85 f97 KM.rf (by decide) (fun t m => atomS_mono true t m n) (fun t m a c h => opL_1 (atomS_mono true t m n) rfl h)) (LpW.step (op := isMul) hx5_4 hx5_5 (f31.two f43) (is_mul.mpr (by have q20 := f31.eq f43 (by show (xi (E5_ 0) 22).toInt = -1; rw [show xi (E5_ 0) 22 = w5_0_22 from vi_e hs5_0_22]; first | exact t21 | omega); omega)) k85 k86 f97 f98 (by have q20 := f31.eq f43 (by show (xi (E5_ 0) 22).toInt = -1; rw [show xi (E5_ 0) 22 = w5_0_22 from vi_e hs5_0_22]; first | exact t21 | omega); first | (exfalso; omega) | (rw [show r35.toInt = 42 by omega]; exact jn_mul (ey102.trans (by rw [ey101, ey99])) f104)) (by have q20 := f31.eq f43 (by show (xi (E5_ 0) 22).toInt = -1; rw [show xi (E5_ 0) 22 = w5_0_22 from vi_e hs5_0_22]; first | exact t21 | omega); omega) (by have q20 := f31.eq f43 (by show (xi (E5_ 0) 22).toInt = -1; rw [show xi (E5_ 0) 22 = w5_0_22 from vi_e hs5_0_22]; first | exact t21 | omega); omega) (fun t m a c h => opL_1 (atomS_mono true t m n) rfl h)) (by omega) hI hKp fy90 fy91 fy92 hP hS (lv_sub hl [0, 3] rfl)
        · --19 not
          have t105 : ¬ r23.toInt = 42 := ti_ne c32
          refine lv_aload_n hx hb dX13_term_22 rfl (lv_at hl 1 rfl) ?_
          refine th_i (va_runV (As := []) (rest := []) ⟨hx, hb, hml, hown, hts⟩ (q_lookX l dC dI cT ad E24 H.size k nl hI (by exact hh0) (by exact hh1) (by exact hh2) (by exact (hKp 0 18 rfl).trans hh3) (by (try rw [hKp.ei 0 19 rfl]); exact hh4)) (cwV 0 hts (gi_V (in_26 _ (zs1 (zs1 (zs0)))) (in_26 _ (zs1 (zs1 (zs1 (zs0))))) (in_26 _ (zs4 (zs0))) (in_24 _ (zs4 (zs4 (zs4 (zs1 (zs1 (zs1 (zs0)))))))) (in_26 _ (zs4 (zs1 (zs0))))) rfl rfl rfl ⟨rfl, hz_yX13_look_0⟩ ⟨(show 0 + 1 ≤ 7 * n + 6 from nl_1 (Nat.le_of_ble_eq_true rfl)), (show 8 + (1 + 11) + 40 * (0) ≤ 40 * (7 * n + 6) from nl_2 (Nat.le_of_ble_eq_true rfl))⟩) ⟨HW_bl, va_recv hK hP (ci := 14) (q0 := 0) rfl (hI.ob 0 (Nat.le_of_ble_eq_true rfl) rfl), (HW_wi hP hK (WX_D hD) hS hA hEV)⟩ rfl rfl hl.1 rfl (lv_room (Nat.le_of_ble_eq_true rfl)) dX13_term_23 ⟨Nat.le_of_ble_eq_true rfl, Nat.le_of_ble_eq_true rfl⟩) (WX_D hD) hS hA (fun r106 E107 H locs hw hP hS => ?_)
          obtain ⟨hI, kq108, hw⟩ := hw
          have hKb := hKp
          have hKp := hKp.tr kq108 (wl_sub rfl rfl)
          obtain ⟨y109, ey109⟩ : ∃ y, xi (E107 0) 21 = y := ⟨_, rfl⟩
          have fy109 : xv (E107 0) 21 = .int y109 := (hI.fi 0 (Nat.le_of_ble_eq_true rfl) rfl (Nat.le_of_ble_eq_true rfl) rfl).trans (congrArg Value.int ey109)
          have iy109 : 0 ≤ y109.toInt ∧ y109.toInt ≤ 201 := by rw [← ey109]; exact hI.iv 0 (Nat.le_of_ble_eq_true rfl) rfl (Nat.le_of_ble_eq_true rfl) rfl
          obtain ⟨f110, f111, f112, f113, f114⟩ := hw
          try rw [(show xi (E24 0) 21 = y26 from vi_e fy26)] at f111
          try rw [(show xi (E107 0) 21 = y109 from vi_e fy109)] at f111
          try rw [(show xi (E24 0) 21 = y26 from vi_e fy26)] at f112
          try rw [hKb.ei 0 20 rfl] at f112
          try rw [(show xi (E107 0) 21 = y109 from vi_e fy109)] at f112
          try rw [(show xi (E24 0) 21 = y26 from vi_e fy26)] at f113
          try rw [hKb.ei 0 20 rfl] at f113
          try rw [(show xi (E107 0) 21 = y109 from vi_e fy109)] at f113
          refine lv_bipush (v := 47) hx hb dX13_term_26 (by decide) ?_
          refine lv_icmp_ne (tgt := 94) hx hb dX13_term_28 (by decide) (fun c115 => ?_) (fun c115 => ?_)
          · --28 taken
            have t116 : ¬ r106.toInt = 47 := ti_ne c115
            refine lv_iload_n hx hb dX13_term_94 rfl (lv_at hl 0 rfl) ?_
            rw [hQ]
            exact W.iret (v := v5_1) hx hb hr (fun t ht hW => ⟨⟨v5_1, E107, rfl, ⟨hI, hKp, ⟨by (try rw [(show xi (E107 0) 21 = y109 from vi_e fy109)]); (try rw [ey1]); first | done | exact (Int.le_trans (Int.le_trans hx5_0 f28) f111) | all_goals omega, by (try rw [(show xi (E107 0) 23 = w5_0_23 from vi_e ((kq108 0 23 rfl).trans ((kq25 0 23 rfl).trans hs5_0_23)))]); (try rw [ey3]); first | done | exact hx5_1 | all_goals omega, by (try rw [(show xi (E107 0) 22 = w5_0_22 from vi_e ((kq108 0 22 rfl).trans ((kq25 0 22 rfl).trans hs5_0_22)))]); (try rw [(show xi (E107 0) 23 = w5_0_23 from vi_e ((kq108 0 23 rfl).trans ((kq25 0 23 rfl).trans hs5_0_23)))]); (try rw [ey2]); (try rw [ey3]); first | done | exact fun q9 => (hx5_2 (q9)) | all_goals omega, by (try rw [(show xi (E107 0) 22 = w5_0_22 from vi_e ((kq108 0 22 rfl).trans ((kq25 0 22 rfl).trans hs5_0_22)))]); (try rw [ey2]); first | done | exact fun q9 => hx5_3 (q9) | all_goals omega, LpM.exit (op := isMul) hx5_4 (f31.two f114) (fun q9 => by have q8 := is_mul.mp q9; have q20 := f31.eq f114 (by show (xi (E5_ 0) 22).toInt = -1; rw [show xi (E5_ 0) 22 = w5_0_22 from vi_e hs5_0_22]; first | exact t21 | omega); omega) (fun t m a c h => opL_0 h), LpW.exit (op := isMul) hx5_4 hx5_5 (f31.two f114) (fun q9 => by have q8 := is_mul.mp q9; have q20 := f31.eq f114 (by show (xi (E5_ 0) 22).toInt = -1; rw [show xi (E5_ 0) 22 = w5_0_22 from vi_e hs5_0_22]; first | exact t21 | omega); omega) (fun t m a c h => opL_0 h)⟩⟩, by show va_P (dC, dI) vwCl (WX 72 ad E107) t.heap; rw [ht]; exact hP⟩, hS.F ht⟩) hS.2.2 dX13_term_95
          · --28 not
            have t117 : r106.toInt = 47 := ti_eq c115
            have i118 : 47 ≤ r106.toInt ∧ r106.toInt ≤ 47 := iv_eqi t117 f110 (il_ 47) (by decide)
            refine lv_aload_n hx hb dX13_term_31 rfl (lv_at hl 1 rfl) ?_
            refine th_i (va_runV (As := []) (rest := []) ⟨hx, hb, hml, hown, hts⟩ (q_lookX l dC dI cT ad E107 H.size k nl hI (by exact hh0) (by exact hh1) (by exact hh2) (by exact (hKp 0 18 rfl).trans hh3) (by (try rw [hKp.ei 0 19 rfl]); exact hh4)) (cwV 0 hts (gi_V (in_26 _ (zs1 (zs1 (zs0)))) (in_26 _ (zs1 (zs1 (zs1 (zs0))))) (in_26 _ (zs4 (zs0))) (in_24 _ (zs4 (zs4 (zs4 (zs1 (zs1 (zs1 (zs0)))))))) (in_26 _ (zs4 (zs1 (zs0))))) rfl rfl rfl ⟨rfl, hz_yX13_look_0⟩ ⟨(show 0 + 1 ≤ 7 * n + 6 from nl_1 (Nat.le_of_ble_eq_true rfl)), (show 8 + (1 + 11) + 40 * (0) ≤ 40 * (7 * n + 6) from nl_2 (Nat.le_of_ble_eq_true rfl))⟩) ⟨HW_bl, va_recv hK hP (ci := 14) (q0 := 0) rfl (hI.ob 0 (Nat.le_of_ble_eq_true rfl) rfl), (HW_wi hP hK (WX_D hD) hS hA hEV)⟩ rfl rfl hl.1 rfl (lv_room (Nat.le_of_ble_eq_true rfl)) dX13_term_32 ⟨Nat.le_of_ble_eq_true rfl, Nat.le_of_ble_eq_true rfl⟩) (WX_D hD) hS hA (fun r119 E120 H locs hw hP hS => ?_)
            obtain ⟨hI, kq121, hw⟩ := hw
            have hKb := hKp
            have hKp := hKp.tr kq121 (wl_sub rfl rfl)
            obtain ⟨y122, ey122⟩ : ∃ y, xi (E120 0) 21 = y := ⟨_, rfl⟩
            have fy122 : xv (E120 0) 21 = .int y122 := (hI.fi 0 (Nat.le_of_ble_eq_true rfl) rfl (Nat.le_of_ble_eq_true rfl) rfl).trans (congrArg Value.int ey122)
            have iy122 : 0 ≤ y122.toInt ∧ y122.toInt ≤ 201 := by rw [← ey122]; exact hI.iv 0 (Nat.le_of_ble_eq_true rfl) rfl (Nat.le_of_ble_eq_true rfl) rfl
            obtain ⟨f123, f124, f125, f126, f127⟩ := hw
            try rw [(show xi (E107 0) 21 = y109 from vi_e fy109)] at f124
            try rw [(show xi (E120 0) 21 = y122 from vi_e fy122)] at f124
            try rw [(show xi (E107 0) 21 = y109 from vi_e fy109)] at f125
            try rw [hKb.ei 0 20 rfl] at f125
            try rw [(show xi (E120 0) 21 = y122 from vi_e fy122)] at f125
            try rw [(show xi (E107 0) 21 = y109 from vi_e fy109)] at f126
            try rw [hKb.ei 0 20 rfl] at f126
            try rw [(show xi (E120 0) 21 = y122 from vi_e fy122)] at f126
            refine lv_bipush (v := 42) hx hb dX13_term_35 (by decide) ?_
            refine lv_icmp_ne (tgt := 44) hx hb dX13_term_37 (by decide) (fun c128 => ?_) (fun c128 => ?_)
            · --37 taken
              have t129 : ¬ r119.toInt = 42 := ti_ne c128
              refine lv_iconst (v := 0) hx hb dX13_term_44 (by decide) ?_
              refine lv_istore_n (lv' := [(2, .int 0), (1, .int v5_1), (0, .ref (ad 0))]) hx hb dX13_term_45 rfl hl (by decide) rfl (fun ls hl => ?_)
              refine lv_aload_n hx hb dX13_term_46 rfl (lv_at hl 2 rfl) ?_
              refine lv_dup hx hb dX13_term_47 rfl ?_
              refine th_get (ci := 14) (C := RX13) (T := TX13) (N := 97) (v := .int y122) hx hb hts hinX13 hown hK hP hI 0 (Nat.le_of_ble_eq_true rfl) rfl rfl 21 (Nat.le_of_ble_eq_true rfl) (hts _ (vA_in _ _ (in_25 _ (zs16 (zs16 (zs4 (zs0))))))) (fun _ h9 => h9) fy122 dX13_term_48 ?_
              refine lv_iconst (v := 1) hx hb dX13_term_51 (by decide) ?_
              refine lv_iadd hx hb dX13_term_52 ?_
              refine lv_topi (fun y130 ey130 => ?_)
              obtain ⟨ty130, iy130⟩ := ti_add (e := 1) (f := 202) iy122 ln_1 ey130 (by decide)
              have ty130 : y130.toInt = y122.toInt + 1 := ty130
              have iy130 : 1 ≤ y130.toInt ∧ y130.toInt ≤ 202 := iy130
              have i131 : 1 ≤ y130.toInt ∧ y130.toInt ≤ 201 := by omega
              refine th_put (ci := 14) (C := RX13) (T := TX13) (N := 97) (v := .int y130) (ty := .int) hx hb hts hinX13 tyX13 tyX13_ok nmX13 hown hK hP (WX_D hD) hS hI 0 (Nat.le_of_ble_eq_true rfl) rfl rfl 21 (Nat.le_of_ble_eq_true rfl) (hts _ (vA_in _ _ (in_25 _ (zs16 (zs16 (zs4 (zs0))))))) (fun _ h9 => h9) rfl (by decide +kernel) rfl rfl (okI rfl (iv_w i131 (by decide))) dX13_term_53 (fun H locs E132 pw133 hI hP hS => ?_)
              have hKp := hKp.pw pw133 rfl
              have k134 : AtM k E120 E132 := AtM.pw pw133.2 hk0 (vi_e fy122) (vi_e pw133.1) ty130 (by omega)
              have k135 : MZ E E132 := MZ.kp hKp (fun _ => rfl)
              refine lv_aload_n hx hb dX13_term_56 rfl (lv_at hl 2 rfl) ?_
              refine th_i (va_runV (As := []) (rest := []) ⟨hx, hb, hml, hown, hts⟩ (gA dC dI cT ad E132 H.size k nl hI (by exact hh0) (by exact hh1) (by exact hh2) (by exact (hKp 0 18 rfl).trans hh3) (by (try rw [hKp.ei 0 19 rfl]); exact hh4) (by (try rw [(show xi (E132 0) 23 = w5_0_23 from vi_e ((pw133.2 0 23 (fun q9 => absurd q9.2 (Nat.ne_of_beq_eq_false rfl))).trans ((kq121 0 23 rfl).trans ((kq108 0 23 rfl).trans ((kq25 0 23 rfl).trans hs5_0_23)))))]); omega) (by (try rw [(show xi (E132 0) 22 = w5_0_22 from vi_e ((pw133.2 0 22 (fun q9 => absurd q9.2 (Nat.ne_of_beq_eq_false rfl))).trans ((kq121 0 22 rfl).trans ((kq108 0 22 rfl).trans ((kq25 0 22 rfl).trans hs5_0_22)))))]); omega)) (cwV 0 hts (gi_V (in_27 _ (zs1 (zs1 (zs1 (zs0))))) (in_27 _ (zs4 (zs0))) (in_27 _ (zs4 (zs1 (zs0)))) (in_24 _ (zs4 (zs4 (zs4 (zs1 (zs1 (zs1 (zs0)))))))) (in_25 _ (zs16 (zs16 (zs1 (zs1 (zs1 (zs0)))))))) rfl rfl rfl (by decide +kernel) ⟨(show 7 * n + 5 + 1 ≤ 7 * n + 6 from nl_4 (Nat.le_of_ble_eq_true rfl) (Nat.le_of_ble_eq_true rfl)), (show 8 + (4 + 11) + 40 * (7 * n + 5) ≤ 40 * (7 * n + 6) from nl_3 (Nat.le_of_ble_eq_true rfl) (Nat.le_of_ble_eq_true rfl))⟩) ⟨HW_bl, va_recv hK hP (ci := 14) (q0 := 0) rfl (hI.ob 0 (Nat.le_of_ble_eq_true rfl) rfl), (HW_wi hP hK (WX_D hD) hS hA hEV)⟩ rfl rfl hl.1 rfl (lv_room (Nat.le_of_ble_eq_true rfl)) dX13_term_57 ⟨Nat.le_of_ble_eq_true rfl, Nat.le_of_ble_eq_true rfl⟩) (WX_D hD) hS hA (fun r136 E137 H locs hw hP hS => ?_)
              obtain ⟨hI, kq138, hw⟩ := hw
              have hKb := hKp
              have hKp := hKp.tr kq138 (wl_sub rfl rfl)
              obtain ⟨y139, ey139⟩ : ∃ y, xi (E137 0) 21 = y := ⟨_, rfl⟩
              have fy139 : xv (E137 0) 21 = .int y139 := (hI.fi 0 (Nat.le_of_ble_eq_true rfl) rfl (Nat.le_of_ble_eq_true rfl) rfl).trans (congrArg Value.int ey139)
              have iy139 : 0 ≤ y139.toInt ∧ y139.toInt ≤ 201 := by rw [← ey139]; exact hI.iv 0 (Nat.le_of_ble_eq_true rfl) rfl (Nat.le_of_ble_eq_true rfl) rfl
              obtain ⟨y140, ey140⟩ : ∃ y, xi (E137 0) 22 = y := ⟨_, rfl⟩
              have fy140 : xv (E137 0) 22 = .int y140 := (hI.fi 0 (Nat.le_of_ble_eq_true rfl) rfl (Nat.le_of_ble_eq_true rfl) rfl).trans (congrArg Value.int ey140)
              have iy140 : -1 ≤ y140.toInt ∧ y140.toInt ≤ 201 := by rw [← ey140]; exact hI.iv 0 (Nat.le_of_ble_eq_true rfl) rfl (Nat.le_of_ble_eq_true rfl) rfl
              obtain ⟨y141, ey141⟩ : ∃ y, xi (E137 0) 23 = y := ⟨_, rfl⟩
              have fy141 : xv (E137 0) 23 = .int y141 := (hI.fi 0 (Nat.le_of_ble_eq_true rfl) rfl (Nat.le_of_ble_eq_true rfl) rfl).trans (congrArg Value.int ey141)
              have iy141 : 0 ≤ y141.toInt ∧ y141.toInt ≤ 8 := by rw [← ey141]; exact hI.iv 0 (Nat.le_of_ble_eq_true rfl) rfl (Nat.le_of_ble_eq_true rfl) rfl
              obtain ⟨f142, f143, f144, f145, f146, f147⟩ := hw
              try rw [(show xi (E132 0) 21 = y130 from vi_e pw133.1)] at f142
              try rw [(show xi (E137 0) 21 = y139 from vi_e fy139)] at f142
              try rw [(show xi (E132 0) 23 = w5_0_23 from vi_e ((pw133.2 0 23 (fun q9 => absurd q9.2 (Nat.ne_of_beq_eq_false rfl))).trans ((kq121 0 23 rfl).trans ((kq108 0 23 rfl).trans ((kq25 0 23 rfl).trans hs5_0_23)))))] at f143
              try rw [(show xi (E137 0) 23 = y141 from vi_e fy141)] at f143
              try rw [(show xi (E132 0) 22 = w5_0_22 from vi_e ((pw133.2 0 22 (fun q9 => absurd q9.2 (Nat.ne_of_beq_eq_false rfl))).trans ((kq121 0 22 rfl).trans ((kq108 0 22 rfl).trans ((kq25 0 22 rfl).trans hs5_0_22)))))] at f144
              try rw [(show xi (E132 0) 23 = w5_0_23 from vi_e ((pw133.2 0 23 (fun q9 => absurd q9.2 (Nat.ne_of_beq_eq_false rfl))).trans ((kq121 0 23 rfl).trans ((kq108 0 23 rfl).trans ((kq25 0 23 rfl).trans hs5_0_23)))))] at f144
              try rw [(show xi (E137 0) 22 = y140 from vi_e fy140)] at f144
              try rw [(show xi (E137 0) 23 = y141 from vi_e fy141)] at f144
              try rw [(show xi (E132 0) 22 = w5_0_22 from vi_e ((pw133.2 0 22 (fun q9 => absurd q9.2 (Nat.ne_of_beq_eq_false rfl))).trans ((kq121 0 22 rfl).trans ((kq108 0 22 rfl).trans ((kq25 0 22 rfl).trans hs5_0_22)))))] at f145
              try rw [(show xi (E137 0) 22 = y140 from vi_e fy140)] at f145
              refine lv_i2l hx hb dX13_term_60 rfl ?_
              refine lv_topl (fun y148 ey148 => ?_)
              refine lv_lstore_n (lv' := [(3, .long y148), (2, .int 0), (1, .int v5_1), (0, .ref (ad 0))]) hx hb dX13_term_61 rfl hl (by decide) rfl (fun ls hl => ?_)
              refine lv_iload_n hx hb dX13_term_62 rfl (lv_at hl 1 rfl) ?_
              refine lv_if_eq (tgt := 73) hx hb dX13_term_63 (by decide) (fun c149 => ?_) (fun c149 => ?_)
              · --63 taken
                refine lv_lload_n hx hb dX13_term_73 rfl (lv_at hl 0 rfl) ?_
                refine lv_lconst hx hb dX13_term_74 rfl ?_
                refine lv_topl (fun y150 ey150 => ?_)
                refine W.lcmp hx hb dX13_term_75 ?_
                refine lv_topi (fun y151 ey151 => ?_)
                refine lv_if_ne (tgt := 83) hx hb dX13_term_76 (by decide) (fun c152 => ?_) (fun c152 => ?_)
                · --76 taken
                  have t153 : ¬ y151.toInt = 0 := ti_ne c152
                  refine lv_iload_n hx hb dX13_term_83 rfl (lv_at hl 2 rfl) ?_
                  refine lv_i2l hx hb dX13_term_84 rfl ?_
                  refine lv_topl (fun y154 ey154 => ?_)
                  refine lv_lload_n hx hb dX13_term_85 rfl (lv_at hl 0 rfl) ?_
                  refine lv_ldiv hx hb dX13_term_86 (lcmp_n0 ey151 ey150 c152) ?_
                  refine lv_topl (fun y155 ey155 => ?_)
                  refine th_pi (va_runS (As := [.long y155]) (rest := []) ⟨hx, hb, hml, hown, hts⟩ (q_boundX l y155) (va_cwS 1 hts (gi_S (in_26 _ (zs16 (zs4 (zs4 (zs4 (zs1 (zs1 (zs1 (zs0))))))))) (in_26 _ (zs16 (zs16 (zs0)))) (in_24 _ (zs4 (zs4 (zs4 (zs1 (zs1 (zs1 (zs0)))))))) (in_26 _ (zs16 (zs16 (zs1 (zs0)))))) rfl rfl rfl hz_yX13_bound_1 ⟨(show 1 + 1 ≤ 7 * n + 6 from nl_1 (Nat.le_of_ble_eq_true rfl)), (show 8 + (2 + 11) + 40 * (1) ≤ 40 * (7 * n + 6) from nl_2 (Nat.le_of_ble_eq_true rfl))⟩) ⟨fun _ _ _ _ q => q, fun _ _ _ => ⟨rfl, trivial⟩⟩ rfl rfl hl.1 rfl (lv_room (Nat.le_of_ble_eq_true rfl)) dX13_term_87 ⟨Nat.le_of_ble_eq_true rfl, Nat.le_of_ble_eq_true rfl⟩) hS (fun r156 H1 locs1 hw hk1 hS => ?_)
                  have hP := ub_keep hP hk1
                  generalize H1 = H at hP hS ⊢
                  generalize locs1 = locs at hS ⊢
                  have f157 := hw
                  refine lv_istore_n (lv' := [(1, .int r156), (3, .long y148), (2, .int 0), (0, .ref (ad 0))]) hx hb dX13_term_90 rfl hl (by decide) rfl (fun ls hl => ?_)
                  refine lv_goto (tgt := 5) hx hb dX13_term_91 (by decide) ?_
                  exact ih5 y139 y140 y141 r156 E137 _ _ _ iy139 iy140 iy141 (by  first | exact (Int.le_trans (Int.le_trans (Int.le_trans (Int.le_trans (Int.le_trans hx5_0 f28) f111) f124) (Int.le_trans (Int.le_add_of_nonneg_right (by decide)) (Int.le_of_eq ty130.symm))) f142) | omega) (by  first | exact (Int.le_trans hx5_1 f143) | omega) (by  first | exact fun q9 => ((f144 (q9)).trans (hx5_2 (f145 (q9)))) | omega) (by  first | exact fun q9 => hx5_3 (f145 (q9)) | omega) (LpM.step (op := isMul) (cb := jb) hx5_4 ((f31.two f114).two f127) (is_mul.mpr (by have q20 := f31.eq f114 (by show (xi (E5_ 0) 22).toInt = -1; rw [show xi (E5_ 0) 22 = w5_0_22 from vi_e hs5_0_22]; first | exact t21 | omega); have q21 := (f31.two f114).eq f127 (by show (xi (E5_ 0) 22).toInt = -1; rw [show xi (E5_ 0) 22 = w5_0_22 from vi_e hs5_0_22]; first | exact t21 | omega); omega)) (by show (xi (E5_ 0) 22).toInt = -1; rw [show xi (E5_ 0) 22 = w5_0_22 from vi_e hs5_0_22]; first | exact t21 | omega) k134 f146 KM.rf (by decide) (fun t m => atomS_mono true t m n) (fun t m a c h => opL_1 (atomS_mono true t m n) rfl h)) (LpW.step (op := isMul) hx5_4 hx5_5 ((f31.two f114).two f127) (is_mul.mpr (by have q20 := f31.eq f114 (by show (xi (E5_ 0) 22).toInt = -1; rw [show xi (E5_ 0) 22 = w5_0_22 from vi_e hs5_0_22]; first | exact t21 | omega); have q21 := (f31.two f114).eq f127 (by show (xi (E5_ 0) 22).toInt = -1; rw [show xi (E5_ 0) 22 = w5_0_22 from vi_e hs5_0_22]; first | exact t21 | omega); omega)) k134 k135 f146 f147 (by have q20 := f31.eq f114 (by show (xi (E5_ 0) 22).toInt = -1; rw [show xi (E5_ 0) 22 = w5_0_22 from vi_e hs5_0_22]; first | exact t21 | omega); have q21 := (f31.two f114).eq f127 (by show (xi (E5_ 0) 22).toInt = -1; rw [show xi (E5_ 0) 22 = w5_0_22 from vi_e hs5_0_22]; first | exact t21 | omega); first | (exfalso; omega) | (rw [show r119.toInt = 47 by omega]; exact jn_div (lcz ey151 ey150 ey148 (by omega)) (ey155.trans (by rw [ey154, ey148])) f157)) (by have q20 := f31.eq f114 (by show (xi (E5_ 0) 22).toInt = -1; rw [show xi (E5_ 0) 22 = w5_0_22 from vi_e hs5_0_22]; first | exact t21 | omega); have q21 := (f31.two f114).eq f127 (by show (xi (E5_ 0) 22).toInt = -1; rw [show xi (E5_ 0) 22 = w5_0_22 from vi_e hs5_0_22]; first | exact t21 | omega); omega) (by have q20 := f31.eq f114 (by show (xi (E5_ 0) 22).toInt = -1; rw [show xi (E5_ 0) 22 = w5_0_22 from vi_e hs5_0_22]; first | exact t21 | omega); have q21 := (f31.two f114).eq f127 (by show (xi (E5_ 0) 22).toInt = -1; rw [show xi (E5_ 0) 22 = w5_0_22 from vi_e hs5_0_22]; first | exact t21 | omega); omega) (fun t m a c h => opL_1 (atomS_mono true t m n) rfl h)) (by omega) hI hKp fy139 fy140 fy141 hP hS (lv_sub hl [0, 3] rfl)
                · --76 not
                  have t158 : y151.toInt = 0 := ti_eq c152
                  have i159 : 0 ≤ y151.toInt ∧ y151.toInt ≤ 0 := iv_eqi t158 (iv_all _) (il_ 0) (by decide)
                  refine lv_lconst hx hb dX13_term_79 rfl ?_
                  refine lv_topl (fun y160 ey160 => ?_)
                  refine lv_goto (tgt := 87) hx hb dX13_term_80 (by decide) ?_
                  refine th_pi (va_runS (As := [.long y160]) (rest := []) ⟨hx, hb, hml, hown, hts⟩ (q_boundX l y160) (va_cwS 1 hts (gi_S (in_26 _ (zs16 (zs4 (zs4 (zs4 (zs1 (zs1 (zs1 (zs0))))))))) (in_26 _ (zs16 (zs16 (zs0)))) (in_24 _ (zs4 (zs4 (zs4 (zs1 (zs1 (zs1 (zs0)))))))) (in_26 _ (zs16 (zs16 (zs1 (zs0)))))) rfl rfl rfl hz_yX13_bound_1 ⟨(show 1 + 1 ≤ 7 * n + 6 from nl_1 (Nat.le_of_ble_eq_true rfl)), (show 8 + (2 + 11) + 40 * (1) ≤ 40 * (7 * n + 6) from nl_2 (Nat.le_of_ble_eq_true rfl))⟩) ⟨fun _ _ _ _ q => q, fun _ _ _ => ⟨rfl, trivial⟩⟩ rfl rfl hl.1 rfl (lv_room (Nat.le_of_ble_eq_true rfl)) dX13_term_87 ⟨Nat.le_of_ble_eq_true rfl, Nat.le_of_ble_eq_true rfl⟩) hS (fun r161 H1 locs1 hw hk1 hS => ?_)
                  have hP := ub_keep hP hk1
                  generalize H1 = H at hP hS ⊢
                  generalize locs1 = locs at hS ⊢
                  have f162 := hw
                  refine lv_istore_n (lv' := [(1, .int r161), (3, .long y148), (2, .int 0), (0, .ref (ad 0))]) hx hb dX13_term_90 rfl hl (by decide) rfl (fun ls hl => ?_)
                  refine lv_goto (tgt := 5) hx hb dX13_term_91 (by decide) ?_
                  exact ih5 y139 y140 y141 r161 E137 _ _ _ iy139 iy140 iy141 (by  first | exact (Int.le_trans (Int.le_trans (Int.le_trans (Int.le_trans (Int.le_trans hx5_0 f28) f111) f124) (Int.le_trans (Int.le_add_of_nonneg_right (by decide)) (Int.le_of_eq ty130.symm))) f142) | omega) (by  first | exact (Int.le_trans hx5_1 f143) | omega) (by  first | exact fun q9 => ((f144 (q9)).trans (hx5_2 (f145 (q9)))) | omega) (by  first | exact fun q9 => hx5_3 (f145 (q9)) | omega) (LpM.step (op := isMul) (cb := jb) hx5_4 ((f31.two f114).two f127) (is_mul.mpr (by have q20 := f31.eq f114 (by show (xi (E5_ 0) 22).toInt = -1; rw [show xi (E5_ 0) 22 = w5_0_22 from vi_e hs5_0_22]; first | exact t21 | omega); have q21 := (f31.two f114).eq f127 (by show (xi (E5_ 0) 22).toInt = -1; rw [show xi (E5_ 0) 22 = w5_0_22 from vi_e hs5_0_22]; first | exact t21 | omega); omega)) (by show (xi (E5_ 0) 22).toInt = -1; rw [show xi (E5_ 0) 22 = w5_0_22 from vi_e hs5_0_22]; first | exact t21 | omega) k134 f146 KM.rf (by decide) (fun t m => atomS_mono true t m n) (fun t m a c h => opL_1 (atomS_mono true t m n) rfl h)) (LpW.step (op := isMul) hx5_4 hx5_5 ((f31.two f114).two f127) (is_mul.mpr (by have q20 := f31.eq f114 (by show (xi (E5_ 0) 22).toInt = -1; rw [show xi (E5_ 0) 22 = w5_0_22 from vi_e hs5_0_22]; first | exact t21 | omega); have q21 := (f31.two f114).eq f127 (by show (xi (E5_ 0) 22).toInt = -1; rw [show xi (E5_ 0) 22 = w5_0_22 from vi_e hs5_0_22]; first | exact t21 | omega); omega)) k134 k135 f146 f147 (by have q20 := f31.eq f114 (by show (xi (E5_ 0) 22).toInt = -1; rw [show xi (E5_ 0) 22 = w5_0_22 from vi_e hs5_0_22]; first | exact t21 | omega); have q21 := (f31.two f114).eq f127 (by show (xi (E5_ 0) 22).toInt = -1; rw [show xi (E5_ 0) 22 = w5_0_22 from vi_e hs5_0_22]; first | exact t21 | omega); first | (exfalso; omega) | (rw [show r119.toInt = 47 by omega]; exact jn_div0 (lcy ey151 ey150 ey148 (by omega)) ey160 f162)) (by have q20 := f31.eq f114 (by show (xi (E5_ 0) 22).toInt = -1; rw [show xi (E5_ 0) 22 = w5_0_22 from vi_e hs5_0_22]; first | exact t21 | omega); have q21 := (f31.two f114).eq f127 (by show (xi (E5_ 0) 22).toInt = -1; rw [show xi (E5_ 0) 22 = w5_0_22 from vi_e hs5_0_22]; first | exact t21 | omega); omega) (by have q20 := f31.eq f114 (by show (xi (E5_ 0) 22).toInt = -1; rw [show xi (E5_ 0) 22 = w5_0_22 from vi_e hs5_0_22]; first | exact t21 | omega); have q21 := (f31.two f114).eq f127 (by show (xi (E5_ 0) 22).toInt = -1; rw [show xi (E5_ 0) 22 = w5_0_22 from vi_e hs5_0_22]; first | exact t21 | omega); omega) (fun t m a c h => opL_1 (atomS_mono true t m n) rfl h)) (by omega) hI hKp fy139 fy140 fy141 hP hS (lv_sub hl [0, 3] rfl)
              · --63 not
                exact absurd c149 (by decide)
            · --37 not
              have t163 : r119.toInt = 42 := ti_eq c128
              have i164 : 42 ≤ r119.toInt ∧ r119.toInt ≤ 42 := iv_eqi t163 f123 (il_ 42) (by decide)
              refine lv_iconst (v := 1) hx hb dX13_term_40 (by decide) ?_
              refine lv_goto (tgt := 45) hx hb dX13_term_41 (by decide) ?_
              refine lv_istore_n (lv' := [(2, .int 1), (1, .int v5_1), (0, .ref (ad 0))]) hx hb dX13_term_45 rfl hl (by decide) rfl (fun ls hl => ?_)
              refine lv_aload_n hx hb dX13_term_46 rfl (lv_at hl 2 rfl) ?_
              refine lv_dup hx hb dX13_term_47 rfl ?_
              refine th_get (ci := 14) (C := RX13) (T := TX13) (N := 97) (v := .int y122) hx hb hts hinX13 hown hK hP hI 0 (Nat.le_of_ble_eq_true rfl) rfl rfl 21 (Nat.le_of_ble_eq_true rfl) (hts _ (vA_in _ _ (in_25 _ (zs16 (zs16 (zs4 (zs0))))))) (fun _ h9 => h9) fy122 dX13_term_48 ?_
              refine lv_iconst (v := 1) hx hb dX13_term_51 (by decide) ?_
              refine lv_iadd hx hb dX13_term_52 ?_
              refine lv_topi (fun y165 ey165 => ?_)
              obtain ⟨ty165, iy165⟩ := ti_add (e := 1) (f := 202) iy122 ln_1 ey165 (by decide)
              have ty165 : y165.toInt = y122.toInt + 1 := ty165
              have iy165 : 1 ≤ y165.toInt ∧ y165.toInt ≤ 202 := iy165
              have i166 : 1 ≤ y165.toInt ∧ y165.toInt ≤ 201 := by omega
              refine th_put (ci := 14) (C := RX13) (T := TX13) (N := 97) (v := .int y165) (ty := .int) hx hb hts hinX13 tyX13 tyX13_ok nmX13 hown hK hP (WX_D hD) hS hI 0 (Nat.le_of_ble_eq_true rfl) rfl rfl 21 (Nat.le_of_ble_eq_true rfl) (hts _ (vA_in _ _ (in_25 _ (zs16 (zs16 (zs4 (zs0))))))) (fun _ h9 => h9) rfl (by decide +kernel) rfl rfl (okI rfl (iv_w i166 (by decide))) dX13_term_53 (fun H locs E167 pw168 hI hP hS => ?_)
              have hKp := hKp.pw pw168 rfl
              have k169 : AtM k E120 E167 := AtM.pw pw168.2 hk0 (vi_e fy122) (vi_e pw168.1) ty165 (by omega)
              have k170 : MZ E E167 := MZ.kp hKp (fun _ => rfl)
              refine lv_aload_n hx hb dX13_term_56 rfl (lv_at hl 2 rfl) ?_
              refine th_i (va_runV (As := []) (rest := []) ⟨hx, hb, hml, hown, hts⟩ (gA dC dI cT ad E167 H.size k nl hI (by exact hh0) (by exact hh1) (by exact hh2) (by exact (hKp 0 18 rfl).trans hh3) (by (try rw [hKp.ei 0 19 rfl]); exact hh4) (by (try rw [(show xi (E167 0) 23 = w5_0_23 from vi_e ((pw168.2 0 23 (fun q9 => absurd q9.2 (Nat.ne_of_beq_eq_false rfl))).trans ((kq121 0 23 rfl).trans ((kq108 0 23 rfl).trans ((kq25 0 23 rfl).trans hs5_0_23)))))]); omega) (by (try rw [(show xi (E167 0) 22 = w5_0_22 from vi_e ((pw168.2 0 22 (fun q9 => absurd q9.2 (Nat.ne_of_beq_eq_false rfl))).trans ((kq121 0 22 rfl).trans ((kq108 0 22 rfl).trans ((kq25 0 22 rfl).trans hs5_0_22)))))]); omega)) (cwV 0 hts (gi_V (in_27 _ (zs1 (zs1 (zs1 (zs0))))) (in_27 _ (zs4 (zs0))) (in_27 _ (zs4 (zs1 (zs0)))) (in_24 _ (zs4 (zs4 (zs4 (zs1 (zs1 (zs1 (zs0)))))))) (in_25 _ (zs16 (zs16 (zs1 (zs1 (zs1 (zs0)))))))) rfl rfl rfl (by decide +kernel) ⟨(show 7 * n + 5 + 1 ≤ 7 * n + 6 from nl_4 (Nat.le_of_ble_eq_true rfl) (Nat.le_of_ble_eq_true rfl)), (show 8 + (4 + 11) + 40 * (7 * n + 5) ≤ 40 * (7 * n + 6) from nl_3 (Nat.le_of_ble_eq_true rfl) (Nat.le_of_ble_eq_true rfl))⟩) ⟨HW_bl, va_recv hK hP (ci := 14) (q0 := 0) rfl (hI.ob 0 (Nat.le_of_ble_eq_true rfl) rfl), (HW_wi hP hK (WX_D hD) hS hA hEV)⟩ rfl rfl hl.1 rfl (lv_room (Nat.le_of_ble_eq_true rfl)) dX13_term_57 ⟨Nat.le_of_ble_eq_true rfl, Nat.le_of_ble_eq_true rfl⟩) (WX_D hD) hS hA (fun r171 E172 H locs hw hP hS => ?_)
              obtain ⟨hI, kq173, hw⟩ := hw
              have hKb := hKp
              have hKp := hKp.tr kq173 (wl_sub rfl rfl)
              obtain ⟨y174, ey174⟩ : ∃ y, xi (E172 0) 21 = y := ⟨_, rfl⟩
              have fy174 : xv (E172 0) 21 = .int y174 := (hI.fi 0 (Nat.le_of_ble_eq_true rfl) rfl (Nat.le_of_ble_eq_true rfl) rfl).trans (congrArg Value.int ey174)
              have iy174 : 0 ≤ y174.toInt ∧ y174.toInt ≤ 201 := by rw [← ey174]; exact hI.iv 0 (Nat.le_of_ble_eq_true rfl) rfl (Nat.le_of_ble_eq_true rfl) rfl
              obtain ⟨y175, ey175⟩ : ∃ y, xi (E172 0) 22 = y := ⟨_, rfl⟩
              have fy175 : xv (E172 0) 22 = .int y175 := (hI.fi 0 (Nat.le_of_ble_eq_true rfl) rfl (Nat.le_of_ble_eq_true rfl) rfl).trans (congrArg Value.int ey175)
              have iy175 : -1 ≤ y175.toInt ∧ y175.toInt ≤ 201 := by rw [← ey175]; exact hI.iv 0 (Nat.le_of_ble_eq_true rfl) rfl (Nat.le_of_ble_eq_true rfl) rfl
              obtain ⟨y176, ey176⟩ : ∃ y, xi (E172 0) 23 = y := ⟨_, rfl⟩
              have fy176 : xv (E172 0) 23 = .int y176 := (hI.fi 0 (Nat.le_of_ble_eq_true rfl) rfl (Nat.le_of_ble_eq_true rfl) rfl).trans (congrArg Value.int ey176)
              have iy176 : 0 ≤ y176.toInt ∧ y176.toInt ≤ 8 := by rw [← ey176]; exact hI.iv 0 (Nat.le_of_ble_eq_true rfl) rfl (Nat.le_of_ble_eq_true rfl) rfl
              obtain ⟨f177, f178, f179, f180, f181, f182⟩ := hw
              try rw [(show xi (E167 0) 21 = y165 from vi_e pw168.1)] at f177
              try rw [(show xi (E172 0) 21 = y174 from vi_e fy174)] at f177
              try rw [(show xi (E167 0) 23 = w5_0_23 from vi_e ((pw168.2 0 23 (fun q9 => absurd q9.2 (Nat.ne_of_beq_eq_false rfl))).trans ((kq121 0 23 rfl).trans ((kq108 0 23 rfl).trans ((kq25 0 23 rfl).trans hs5_0_23)))))] at f178
              try rw [(show xi (E172 0) 23 = y176 from vi_e fy176)] at f178
              try rw [(show xi (E167 0) 22 = w5_0_22 from vi_e ((pw168.2 0 22 (fun q9 => absurd q9.2 (Nat.ne_of_beq_eq_false rfl))).trans ((kq121 0 22 rfl).trans ((kq108 0 22 rfl).trans ((kq25 0 22 rfl).trans hs5_0_22)))))] at f179
              try rw [(show xi (E167 0) 23 = w5_0_23 from vi_e ((pw168.2 0 23 (fun q9 => absurd q9.2 (Nat.ne_of_beq_eq_false rfl))).trans ((kq121 0 23 rfl).trans ((kq108 0 23 rfl).trans ((kq25 0 23 rfl).trans hs5_0_23)))))] at f179
              try rw [(show xi (E172 0) 22 = y175 from vi_e fy175)] at f179
              try rw [(show xi (E172 0) 23 = y176 from vi_e fy176)] at f179
              try rw [(show xi (E167 0) 22 = w5_0_22 from vi_e ((pw168.2 0 22 (fun q9 => absurd q9.2 (Nat.ne_of_beq_eq_false rfl))).trans ((kq121 0 22 rfl).trans ((kq108 0 22 rfl).trans ((kq25 0 22 rfl).trans hs5_0_22)))))] at f180
              try rw [(show xi (E172 0) 22 = y175 from vi_e fy175)] at f180
              refine lv_i2l hx hb dX13_term_60 rfl ?_
              refine lv_topl (fun y183 ey183 => ?_)
              refine lv_lstore_n (lv' := [(3, .long y183), (2, .int 1), (1, .int v5_1), (0, .ref (ad 0))]) hx hb dX13_term_61 rfl hl (by decide) rfl (fun ls hl => ?_)
              refine lv_iload_n hx hb dX13_term_62 rfl (lv_at hl 1 rfl) ?_
              refine lv_if_eq (tgt := 73) hx hb dX13_term_63 (by decide) (fun c184 => ?_) (fun c184 => ?_)
              · --63 taken
                exact absurd c184 (by decide)
              · --63 not
                refine lv_iload_n hx hb dX13_term_66 rfl (lv_at hl 2 rfl) ?_
                refine lv_i2l hx hb dX13_term_67 rfl ?_
                refine lv_topl (fun y185 ey185 => ?_)
                refine lv_lload_n hx hb dX13_term_68 rfl (lv_at hl 0 rfl) ?_
                refine lv_lmul hx hb dX13_term_69 ?_
                refine lv_topl (fun y186 ey186 => ?_)
                refine lv_goto (tgt := 87) hx hb dX13_term_70 (by decide) ?_
                refine th_pi (va_runS (As := [.long y186]) (rest := []) ⟨hx, hb, hml, hown, hts⟩ (q_boundX l y186) (va_cwS 1 hts (gi_S (in_26 _ (zs16 (zs4 (zs4 (zs4 (zs1 (zs1 (zs1 (zs0))))))))) (in_26 _ (zs16 (zs16 (zs0)))) (in_24 _ (zs4 (zs4 (zs4 (zs1 (zs1 (zs1 (zs0)))))))) (in_26 _ (zs16 (zs16 (zs1 (zs0)))))) rfl rfl rfl hz_yX13_bound_1 ⟨(show 1 + 1 ≤ 7 * n + 6 from nl_1 (Nat.le_of_ble_eq_true rfl)), (show 8 + (2 + 11) + 40 * (1) ≤ 40 * (7 * n + 6) from nl_2 (Nat.le_of_ble_eq_true rfl))⟩) ⟨fun _ _ _ _ q => q, fun _ _ _ => ⟨rfl, trivial⟩⟩ rfl rfl hl.1 rfl (lv_room (Nat.le_of_ble_eq_true rfl)) dX13_term_87 ⟨Nat.le_of_ble_eq_true rfl, Nat.le_of_ble_eq_true rfl⟩) hS (fun r187 H1 locs1 hw hk1 hS => ?_)
                have hP := ub_keep hP hk1
                generalize H1 = H at hP hS ⊢
                generalize locs1 = locs at hS ⊢
                have f188 := hw
                refine lv_istore_n (lv' := [(1, .int r187), (3, .long y183), (2, .int 1), (0, .ref (ad 0))]) hx hb dX13_term_90 rfl hl (by decide) rfl (fun ls hl => ?_)
                refine lv_goto (tgt := 5) hx hb dX13_term_91 (by decide) ?_
                exact ih5 y174 y175 y176 r187 E172 _ _ _ iy174 iy175 iy176 (by  first | exact (Int.le_trans (Int.le_trans (Int.le_trans (Int.le_trans (Int.le_trans hx5_0 f28) f111) f124) (Int.le_trans (Int.le_add_of_nonneg_right (by decide)) (Int.le_of_eq ty165.symm))) f177) | omega) (by  first | exact (Int.le_trans hx5_1 f178) | omega) (by  first | exact fun q9 => ((f179 (q9)).trans (hx5_2 (f180 (q9)))) | omega) (by  first | exact fun q9 => hx5_3 (f180 (q9)) | omega) (LpM.step (op := isMul) (cb := jb) hx5_4 ((f31.two f114).two f127) (is_mul.mpr (by have q20 := f31.eq f114 (by show (xi (E5_ 0) 22).toInt = -1; rw [show xi (E5_ 0) 22 = w5_0_22 from vi_e hs5_0_22]; first | exact t21 | omega); have q21 := (f31.two f114).eq f127 (by show (xi (E5_ 0) 22).toInt = -1; rw [show xi (E5_ 0) 22 = w5_0_22 from vi_e hs5_0_22]; first | exact t21 | omega); omega)) (by show (xi (E5_ 0) 22).toInt = -1; rw [show xi (E5_ 0) 22 = w5_0_22 from vi_e hs5_0_22]; first | exact t21 | omega) k169 f181 KM.rf (by decide) (fun t m => atomS_mono true t m n) (fun t m a c h => opL_1 (atomS_mono true t m n) rfl h)) (LpW.step (op := isMul) hx5_4 hx5_5 ((f31.two f114).two f127) (is_mul.mpr (by have q20 := f31.eq f114 (by show (xi (E5_ 0) 22).toInt = -1; rw [show xi (E5_ 0) 22 = w5_0_22 from vi_e hs5_0_22]; first | exact t21 | omega); have q21 := (f31.two f114).eq f127 (by show (xi (E5_ 0) 22).toInt = -1; rw [show xi (E5_ 0) 22 = w5_0_22 from vi_e hs5_0_22]; first | exact t21 | omega); omega)) k169 k170 f181 f182 (by have q20 := f31.eq f114 (by show (xi (E5_ 0) 22).toInt = -1; rw [show xi (E5_ 0) 22 = w5_0_22 from vi_e hs5_0_22]; first | exact t21 | omega); have q21 := (f31.two f114).eq f127 (by show (xi (E5_ 0) 22).toInt = -1; rw [show xi (E5_ 0) 22 = w5_0_22 from vi_e hs5_0_22]; first | exact t21 | omega); first | (exfalso; omega) | (rw [show r119.toInt = 42 by omega]; exact jn_mul (ey186.trans (by rw [ey185, ey183])) f188)) (by have q20 := f31.eq f114 (by show (xi (E5_ 0) 22).toInt = -1; rw [show xi (E5_ 0) 22 = w5_0_22 from vi_e hs5_0_22]; first | exact t21 | omega); have q21 := (f31.two f114).eq f127 (by show (xi (E5_ 0) 22).toInt = -1; rw [show xi (E5_ 0) 22 = w5_0_22 from vi_e hs5_0_22]; first | exact t21 | omega); omega) (by have q20 := f31.eq f114 (by show (xi (E5_ 0) 22).toInt = -1; rw [show xi (E5_ 0) 22 = w5_0_22 from vi_e hs5_0_22]; first | exact t21 | omega); have q21 := (f31.two f114).eq f127 (by show (xi (E5_ 0) 22).toInt = -1; rw [show xi (E5_ 0) 22 = w5_0_22 from vi_e hs5_0_22]; first | exact t21 | omega); omega) (fun t m a c h => opL_1 (atomS_mono true t m n) rfl h)) (by omega) hI hKp fy174 fy175 fy176 hP hS (lv_sub hl [0, 3] rfl)
  exact hL5 (202) y7 y8 y9 r4 E5 _ _ _ iy7 iy8 iy9 (by  first | exact f10 | omega) (by  first | exact f11 | omega) (by  first | exact fun q9 => (f12 (q9)) | omega) (by  first | exact fun q9 => f13 (q9) | omega) (LpM.start f14 lmT (Int.le_refl _)) (LpW.start f15 lmT) (by have h9 := iy7; omega) hI hKp fy7 fy8 fy9 hP hS (lv_sub hl [0, 1] rfl)
set_option maxHeartbeats 4000000 in
set_option maxRecDepth 100000 in
theorem q_sumW (l : Launch) (n : Nat) (gT : C_termW l n) : C_sumW l n := by
  intro dC dI cT ad E sz k nl hI0 hh0 hh1 hh2 hh3 hh4 hh5 hh6
  refine Met.ofW (cc := cX13_sum) (maxL := 5) (ret := (some .int)) (by decide) rfl ?_
  intro p e s m args below meth c s₁ B hml hv
  obtain ⟨hargs, hsz, hP, hK, hD0, hEV⟩ := hv
  subst hsz
  have hx := B.exec
  have hb := B.bytes
  have hr := B.returns
  have hts := atoms_spec (ws := v_sumW) B.pre
  have hown : s.vm.findClass RX13 = some m.cls := findClass_of_methodNamed B.named
  have hlocks := B.notSynchronized
  have hinX13 : ∀ w ∈ u_ws RX13 TX13 97, w ∈ v_sumW := fun w h => vA_in _ w (in_X13 w h)
  generalize hAe : va_A (WX 72 ad E) s.heap.size = A at hEV ⊢
  have hA : ∀ q : Nat, s.heap.size ≤ q → A q := fun q h => by rw [← hAe]; exact Or.inr h
  have hD : va_D A (WX 72 ad E) := by rw [← hAe]; exact hD0.self
  have hS : va_S A s.heap s.heap [] := va_S.rf
  have hI := hI0
  have hKp : Kp w_sumW E E := Kp.rf
  have hl := lv_entry ([.ref (ad 0)]) (n := 5) (Nat.le_of_ble_eq_true rfl)
  obtain ⟨Q, hQ⟩ : ∃ Q, Q = MQ below (va_Qi (S := Nat → va_E) (fun r u => IX cT shM spM 72 ad u ∧ Kp w_sumW E u ∧ (((xi (E 0) 21).toInt ≤ (xi (u 0) 21).toInt) ∧ ((xi (E 0) 23).toInt ≤ (xi (u 0) 23).toInt) ∧ ((xi (u 0) 22).toInt = -1 → (xi (u 0) 23).toInt = (xi (E 0) 23).toInt) ∧ ((xi (u 0) 22).toInt = -1 → (xi (E 0) 22).toInt = -1) ∧ (RdM k (fun t m a => sumS true t m n a) E u) ∧ (RdW k [] (fun t m a => sumS true t m n a) E u r))) (HB dC dI 72 ad) (A)) args s 0 0 (A) := ⟨_, rfl⟩
  rw [← hQ, show entryFrame m args 5 = _ from (congrArg (fun z => entryFrame m z 5) hargs).trans (lg_entry_eq _ _ _)]
  generalize (lg_sl ([.ref (ad 0)]) ++ List.replicate (5 - (lg_sl ([.ref (ad 0)])).length) Slot.unset).toArray = ls at hl ⊢
  have hl : lv_has ls 5 [(0, .ref (ad 0))] := hl
  obtain ⟨y1, ey1⟩ : ∃ y, xi (E 0) 21 = y := ⟨_, rfl⟩
  have fy1 : xv (E 0) 21 = .int y1 := (hI.fi 0 (Nat.le_of_ble_eq_true rfl) rfl (Nat.le_of_ble_eq_true rfl) rfl).trans (congrArg Value.int ey1)
  have iy1 : 0 ≤ y1.toInt ∧ y1.toInt ≤ 201 := by rw [← ey1]; exact hI.iv 0 (Nat.le_of_ble_eq_true rfl) rfl (Nat.le_of_ble_eq_true rfl) rfl
  obtain ⟨y2, ey2⟩ : ∃ y, xi (E 0) 22 = y := ⟨_, rfl⟩
  have fy2 : xv (E 0) 22 = .int y2 := (hI.fi 0 (Nat.le_of_ble_eq_true rfl) rfl (Nat.le_of_ble_eq_true rfl) rfl).trans (congrArg Value.int ey2)
  have iy2 : -1 ≤ y2.toInt ∧ y2.toInt ≤ 201 := by rw [← ey2]; exact hI.iv 0 (Nat.le_of_ble_eq_true rfl) rfl (Nat.le_of_ble_eq_true rfl) rfl
  rw [ey2] at hh6
  obtain ⟨y3, ey3⟩ : ∃ y, xi (E 0) 23 = y := ⟨_, rfl⟩
  have fy3 : xv (E 0) 23 = .int y3 := (hI.fi 0 (Nat.le_of_ble_eq_true rfl) rfl (Nat.le_of_ble_eq_true rfl) rfl).trans (congrArg Value.int ey3)
  have iy3 : 0 ≤ y3.toInt ∧ y3.toInt ≤ 8 := by rw [← ey3]; exact hI.iv 0 (Nat.le_of_ble_eq_true rfl) rfl (Nat.le_of_ble_eq_true rfl) rfl
  rw [ey3] at hh5
  have hk0 : ¬ k = 0 := fun q9 => by rw [q9] at hh1; exact absurd (show (shM 0).1 = 1 from congrArg Prod.fst hh1) (by decide)
  refine lv_aload_n hx hb dX13_sum_0 rfl (lv_at hl 0 rfl) ?_
  refine th_i (va_runV (As := []) (rest := []) ⟨hx, hb, hml, hown, hts⟩ (gT dC dI cT ad E s.heap.size k nl hI (by exact hh0) (by exact hh1) (by exact hh2) (by exact hh3) (by exact hh4) (by (try rw [(show xi (E 0) 23 = y3 from vi_e fy3)]); omega) (by (try rw [(show xi (E 0) 22 = y2 from vi_e fy2)]); omega)) (cwV 0 hts (gi_V (in_26 _ (zs16 (zs4 (zs4 (zs4 (zs0)))))) (in_26 _ (zs16 (zs4 (zs4 (zs4 (zs1 (zs0))))))) (in_26 _ (zs16 (zs4 (zs4 (zs4 (zs1 (zs1 (zs0)))))))) (in_24 _ (zs4 (zs4 (zs4 (zs1 (zs1 (zs1 (zs0)))))))) (in_27 _ (zs1 (zs1 (zs0))))) rfl rfl rfl (by decide +kernel) ⟨(show 7 * n + 6 + 1 ≤ 7 * n + 7 from nl_4 (Nat.le_of_ble_eq_true rfl) (Nat.le_of_ble_eq_true rfl)), (show 8 + (5 + 11) + 40 * (7 * n + 6) ≤ 40 * (7 * n + 7) from nl_3 (Nat.le_of_ble_eq_true rfl) (Nat.le_of_ble_eq_true rfl))⟩) ⟨HW_bl, va_recv hK hP (ci := 14) (q0 := 0) rfl (hI.ob 0 (Nat.le_of_ble_eq_true rfl) rfl), (HW_wi hP hK (WX_D hD) hS hA hEV)⟩ rfl rfl hl.1 rfl (lv_room (Nat.le_of_ble_eq_true rfl)) dX13_sum_1 ⟨Nat.le_of_ble_eq_true rfl, Nat.le_of_ble_eq_true rfl⟩) (WX_D hD) hS hA (fun r4 E5 H locs hw hP hS => ?_)
  obtain ⟨hI, kq6, hw⟩ := hw
  have hKb := hKp
  have hKp := hKp.tr kq6 (wl_sub rfl rfl)
  obtain ⟨y7, ey7⟩ : ∃ y, xi (E5 0) 21 = y := ⟨_, rfl⟩
  have fy7 : xv (E5 0) 21 = .int y7 := (hI.fi 0 (Nat.le_of_ble_eq_true rfl) rfl (Nat.le_of_ble_eq_true rfl) rfl).trans (congrArg Value.int ey7)
  have iy7 : 0 ≤ y7.toInt ∧ y7.toInt ≤ 201 := by rw [← ey7]; exact hI.iv 0 (Nat.le_of_ble_eq_true rfl) rfl (Nat.le_of_ble_eq_true rfl) rfl
  obtain ⟨y8, ey8⟩ : ∃ y, xi (E5 0) 22 = y := ⟨_, rfl⟩
  have fy8 : xv (E5 0) 22 = .int y8 := (hI.fi 0 (Nat.le_of_ble_eq_true rfl) rfl (Nat.le_of_ble_eq_true rfl) rfl).trans (congrArg Value.int ey8)
  have iy8 : -1 ≤ y8.toInt ∧ y8.toInt ≤ 201 := by rw [← ey8]; exact hI.iv 0 (Nat.le_of_ble_eq_true rfl) rfl (Nat.le_of_ble_eq_true rfl) rfl
  obtain ⟨y9, ey9⟩ : ∃ y, xi (E5 0) 23 = y := ⟨_, rfl⟩
  have fy9 : xv (E5 0) 23 = .int y9 := (hI.fi 0 (Nat.le_of_ble_eq_true rfl) rfl (Nat.le_of_ble_eq_true rfl) rfl).trans (congrArg Value.int ey9)
  have iy9 : 0 ≤ y9.toInt ∧ y9.toInt ≤ 8 := by rw [← ey9]; exact hI.iv 0 (Nat.le_of_ble_eq_true rfl) rfl (Nat.le_of_ble_eq_true rfl) rfl
  obtain ⟨f10, f11, f12, f13, f14, f15⟩ := hw
  have i16 : 0 ≤ (xi (E 0) 19).toInt ∧ (xi (E 0) 19).toInt ≤ 3000 := (show 0 ≤ (xi (E 0) 19).toInt ∧ (xi (E 0) 19).toInt ≤ 3000 from hI0.iv 0 (Nat.le_of_ble_eq_true rfl) rfl (Nat.le_of_ble_eq_true rfl) rfl)
  have i17 : 0 ≤ (xi (E 0) 20).toInt ∧ (xi (E 0) 20).toInt ≤ 200 := (show 0 ≤ (xi (E 0) 20).toInt ∧ (xi (E 0) 20).toInt ≤ 200 from hI0.iv 0 (Nat.le_of_ble_eq_true rfl) rfl (Nat.le_of_ble_eq_true rfl) rfl)
  try rw [(show xi (E 0) 21 = y1 from vi_e fy1)] at f10
  try rw [(show xi (E5 0) 21 = y7 from vi_e fy7)] at f10
  try rw [(show xi (E 0) 23 = y3 from vi_e fy3)] at f11
  try rw [(show xi (E5 0) 23 = y9 from vi_e fy9)] at f11
  try rw [(show xi (E 0) 22 = y2 from vi_e fy2)] at f12
  try rw [(show xi (E 0) 23 = y3 from vi_e fy3)] at f12
  try rw [(show xi (E5 0) 22 = y8 from vi_e fy8)] at f12
  try rw [(show xi (E5 0) 23 = y9 from vi_e fy9)] at f12
  try rw [(show xi (E 0) 22 = y2 from vi_e fy2)] at f13
  try rw [(show xi (E5 0) 22 = y8 from vi_e fy8)] at f13
  refine lv_istore_n (lv' := [(1, .int r4), (0, .ref (ad 0))]) hx hb dX13_sum_4 rfl hl (by decide) rfl (fun ls hl => ?_)
  have hL5 : ∀ d : Nat, ∀ (w5_0_21 : Int32) (w5_0_22 : Int32) (w5_0_23 : Int32) (v5_1 : Int32) (E5_ : Nat → va_E) (H : Heap) (locs : List Loc) (ls : Array Slot), 0 ≤ w5_0_21.toInt ∧ w5_0_21.toInt ≤ 201 → -1 ≤ w5_0_22.toInt ∧ w5_0_22.toInt ≤ 201 → 0 ≤ w5_0_23.toInt ∧ w5_0_23.toInt ≤ 8 → y1.toInt ≤ w5_0_21.toInt → y3.toInt ≤ w5_0_23.toInt → (w5_0_22.toInt = -1 → w5_0_23.toInt = y3.toInt) → (w5_0_22.toInt = -1 → y2.toInt = -1) → LpM k (fun t m a => sumS true t m n a) (fun t m => opL t m isAdd jb (termS true t m n)) 0 E E5_ → LpW k [] (fun t m a => sumS true t m n a) (fun t m => opL t m isAdd jb (termS true t m n)) E E5_ v5_1 → 201 - w5_0_21.toInt < (d : Int) → IX cT shM spM 72 ad E5_ → Kp w_sumW E E5_ → xv (E5_ 0) 21 = .int w5_0_21 → xv (E5_ 0) 22 = .int w5_0_22 → xv (E5_ 0) 23 = .int w5_0_23 → va_P (dC, dI) vwCl (WX 72 ad E5_) H → va_S A s.heap H locs → lv_has ls 5 [(1, .int v5_1), (0, .ref (ad 0))] → W p l e (headSpec v_sumW (rm_sumW n)).room s m args below meth c H locs 0 0 Q (F0 m 5 ls []) := by
    intro d
    induction d with
    | zero =>
      intro w5_0_21 w5_0_22 w5_0_23 v5_1 E5_ H locs ls hw5_0_21 hw5_0_22 hw5_0_23 hx5_0 hx5_1 hx5_2 hx5_3 hx5_4 hx5_5 hx5_6 hI hKp hs5_0_21 hs5_0_22 hs5_0_23 hP hS hl
      exact absurd hx5_6 (by omega)
    | succ d ih5 =>
      intro w5_0_21 w5_0_22 w5_0_23 v5_1 E5_ H locs ls hw5_0_21 hw5_0_22 hw5_0_23 hx5_0 hx5_1 hx5_2 hx5_3 hx5_4 hx5_5 hx5_6 hI hKp hs5_0_21 hs5_0_22 hs5_0_23 hP hS hl
      refine lv_aload_n hx hb dX13_sum_5 rfl (lv_at hl 1 rfl) ?_
      refine th_get (ci := 14) (C := RX13) (T := TX13) (N := 97) (v := .int w5_0_22) hx hb hts hinX13 hown hK hP hI 0 (Nat.le_of_ble_eq_true rfl) rfl rfl 22 (Nat.le_of_ble_eq_true rfl) (hts _ (vA_in _ _ (in_25 _ (zs16 (zs16 (zs4 (zs1 (zs1 (zs1 (zs0)))))))))) (fun _ h9 => h9) hs5_0_22 dX13_sum_6 ?_
      refine lv_iconst (v := -1) hx hb dX13_sum_9 (by decide) ?_
      refine lv_icmp_ne (tgt := 84) hx hb dX13_sum_10 (by decide) (fun c18 => ?_) (fun c18 => ?_)
      · --10 taken
        have t19 : ¬ w5_0_22.toInt = -1 := ti_ne c18
        have i20 : 0 ≤ w5_0_22.toInt ∧ w5_0_22.toInt ≤ 201 := iv_ne_l t19 hw5_0_22 (il_ (-1))
        refine lv_iload_n hx hb dX13_sum_84 rfl (lv_at hl 0 rfl) ?_
        rw [hQ]
        exact W.iret (v := v5_1) hx hb hr (fun t ht hW => ⟨⟨v5_1, E5_, rfl, ⟨hI, hKp, ⟨by (try rw [(show xi (E5_ 0) 21 = w5_0_21 from vi_e hs5_0_21)]); (try rw [ey1]); first | done | exact hx5_0 | all_goals omega, by (try rw [(show xi (E5_ 0) 23 = w5_0_23 from vi_e hs5_0_23)]); (try rw [ey3]); first | done | exact hx5_1 | all_goals omega, by (try rw [(show xi (E5_ 0) 22 = w5_0_22 from vi_e hs5_0_22)]); (try rw [(show xi (E5_ 0) 23 = w5_0_23 from vi_e hs5_0_23)]); (try rw [ey2]); (try rw [ey3]); first | done | exact fun q9 => absurd (q9) t19 | all_goals omega, by (try rw [(show xi (E5_ 0) 22 = w5_0_22 from vi_e hs5_0_22)]); (try rw [ey2]); first | done | exact fun q9 => absurd (q9) t19 | all_goals omega, LpM.exF hx5_4 (by show ¬ (xi (E5_ 0) 22).toInt = -1; rw [show xi (E5_ 0) 22 = w5_0_22 from vi_e hs5_0_22]; omega), RdW.nf (by show ¬ (xi (E5_ 0) 22).toInt = -1; rw [show xi (E5_ 0) 22 = w5_0_22 from vi_e hs5_0_22]; omega)⟩⟩, by show va_P (dC, dI) vwCl (WX 72 ad E5_) t.heap; rw [ht]; exact hP⟩, hS.F ht⟩) hS.2.2 dX13_sum_85
      · --10 not
        have t21 : w5_0_22.toInt = -1 := ti_eq c18
        have i22 : -1 ≤ w5_0_22.toInt ∧ w5_0_22.toInt ≤ -1 := iv_eqi t21 hw5_0_22 (il_ (-1)) (by decide)
        refine lv_aload_n hx hb dX13_sum_13 rfl (lv_at hl 1 rfl) ?_
        refine th_i (va_runV (As := []) (rest := []) ⟨hx, hb, hml, hown, hts⟩ (q_lookX l dC dI cT ad E5_ H.size k nl hI (by exact hh0) (by exact hh1) (by exact hh2) (by exact (hKp 0 18 rfl).trans hh3) (by (try rw [hKp.ei 0 19 rfl]); exact hh4)) (cwV 0 hts (gi_V (in_26 _ (zs1 (zs1 (zs0)))) (in_26 _ (zs1 (zs1 (zs1 (zs0))))) (in_26 _ (zs4 (zs0))) (in_24 _ (zs4 (zs4 (zs4 (zs1 (zs1 (zs1 (zs0)))))))) (in_26 _ (zs4 (zs1 (zs0))))) rfl rfl rfl ⟨rfl, hz_yX13_look_0⟩ ⟨(show 0 + 1 ≤ 7 * n + 7 from nl_1 (Nat.le_of_ble_eq_true rfl)), (show 8 + (1 + 11) + 40 * (0) ≤ 40 * (7 * n + 7) from nl_2 (Nat.le_of_ble_eq_true rfl))⟩) ⟨HW_bl, va_recv hK hP (ci := 14) (q0 := 0) rfl (hI.ob 0 (Nat.le_of_ble_eq_true rfl) rfl), (HW_wi hP hK (WX_D hD) hS hA hEV)⟩ rfl rfl hl.1 rfl (lv_room (Nat.le_of_ble_eq_true rfl)) dX13_sum_14 ⟨Nat.le_of_ble_eq_true rfl, Nat.le_of_ble_eq_true rfl⟩) (WX_D hD) hS hA (fun r23 E24 H locs hw hP hS => ?_)
        obtain ⟨hI, kq25, hw⟩ := hw
        have hKb := hKp
        have hKp := hKp.tr kq25 (wl_sub rfl rfl)
        obtain ⟨y26, ey26⟩ : ∃ y, xi (E24 0) 21 = y := ⟨_, rfl⟩
        have fy26 : xv (E24 0) 21 = .int y26 := (hI.fi 0 (Nat.le_of_ble_eq_true rfl) rfl (Nat.le_of_ble_eq_true rfl) rfl).trans (congrArg Value.int ey26)
        have iy26 : 0 ≤ y26.toInt ∧ y26.toInt ≤ 201 := by rw [← ey26]; exact hI.iv 0 (Nat.le_of_ble_eq_true rfl) rfl (Nat.le_of_ble_eq_true rfl) rfl
        obtain ⟨f27, f28, f29, f30, f31⟩ := hw
        try rw [(show xi (E5_ 0) 21 = w5_0_21 from vi_e hs5_0_21)] at f28
        try rw [(show xi (E24 0) 21 = y26 from vi_e fy26)] at f28
        try rw [(show xi (E5_ 0) 21 = w5_0_21 from vi_e hs5_0_21)] at f29
        try rw [hKb.ei 0 20 rfl] at f29
        try rw [(show xi (E24 0) 21 = y26 from vi_e fy26)] at f29
        try rw [(show xi (E5_ 0) 21 = w5_0_21 from vi_e hs5_0_21)] at f30
        try rw [hKb.ei 0 20 rfl] at f30
        try rw [(show xi (E24 0) 21 = y26 from vi_e fy26)] at f30
        refine lv_bipush (v := 43) hx hb dX13_sum_17 (by decide) ?_
        refine lv_icmp_eq (tgt := 31) hx hb dX13_sum_19 (by decide) (fun c32 => ?_) (fun c32 => ?_)
        · --19 taken
          have t33 : r23.toInt = 43 := ti_eq c32
          have i34 : 43 ≤ r23.toInt ∧ r23.toInt ≤ 43 := iv_eqi t33 f27 (il_ 43) (by decide)
          refine lv_aload_n hx hb dX13_sum_31 rfl (lv_at hl 1 rfl) ?_
          refine th_i (va_runV (As := []) (rest := []) ⟨hx, hb, hml, hown, hts⟩ (q_lookX l dC dI cT ad E24 H.size k nl hI (by exact hh0) (by exact hh1) (by exact hh2) (by exact (hKp 0 18 rfl).trans hh3) (by (try rw [hKp.ei 0 19 rfl]); exact hh4)) (cwV 0 hts (gi_V (in_26 _ (zs1 (zs1 (zs0)))) (in_26 _ (zs1 (zs1 (zs1 (zs0))))) (in_26 _ (zs4 (zs0))) (in_24 _ (zs4 (zs4 (zs4 (zs1 (zs1 (zs1 (zs0)))))))) (in_26 _ (zs4 (zs1 (zs0))))) rfl rfl rfl ⟨rfl, hz_yX13_look_0⟩ ⟨(show 0 + 1 ≤ 7 * n + 7 from nl_1 (Nat.le_of_ble_eq_true rfl)), (show 8 + (1 + 11) + 40 * (0) ≤ 40 * (7 * n + 7) from nl_2 (Nat.le_of_ble_eq_true rfl))⟩) ⟨HW_bl, va_recv hK hP (ci := 14) (q0 := 0) rfl (hI.ob 0 (Nat.le_of_ble_eq_true rfl) rfl), (HW_wi hP hK (WX_D hD) hS hA hEV)⟩ rfl rfl hl.1 rfl (lv_room (Nat.le_of_ble_eq_true rfl)) dX13_sum_32 ⟨Nat.le_of_ble_eq_true rfl, Nat.le_of_ble_eq_true rfl⟩) (WX_D hD) hS hA (fun r35 E36 H locs hw hP hS => ?_)
          obtain ⟨hI, kq37, hw⟩ := hw
          have hKb := hKp
          have hKp := hKp.tr kq37 (wl_sub rfl rfl)
          obtain ⟨y38, ey38⟩ : ∃ y, xi (E36 0) 21 = y := ⟨_, rfl⟩
          have fy38 : xv (E36 0) 21 = .int y38 := (hI.fi 0 (Nat.le_of_ble_eq_true rfl) rfl (Nat.le_of_ble_eq_true rfl) rfl).trans (congrArg Value.int ey38)
          have iy38 : 0 ≤ y38.toInt ∧ y38.toInt ≤ 201 := by rw [← ey38]; exact hI.iv 0 (Nat.le_of_ble_eq_true rfl) rfl (Nat.le_of_ble_eq_true rfl) rfl
          obtain ⟨f39, f40, f41, f42, f43⟩ := hw
          try rw [(show xi (E24 0) 21 = y26 from vi_e fy26)] at f40
          try rw [(show xi (E36 0) 21 = y38 from vi_e fy38)] at f40
          try rw [(show xi (E24 0) 21 = y26 from vi_e fy26)] at f41
          try rw [hKb.ei 0 20 rfl] at f41
          try rw [(show xi (E36 0) 21 = y38 from vi_e fy38)] at f41
          try rw [(show xi (E24 0) 21 = y26 from vi_e fy26)] at f42
          try rw [hKb.ei 0 20 rfl] at f42
          try rw [(show xi (E36 0) 21 = y38 from vi_e fy38)] at f42
          refine lv_bipush (v := 43) hx hb dX13_sum_35 (by decide) ?_
          refine lv_icmp_ne (tgt := 44) hx hb dX13_sum_37 (by decide) (fun c44 => ?_) (fun c44 => ?_)
          · --37 taken
            have t45 : ¬ r35.toInt = 43 := ti_ne c44
            refine lv_iconst (v := 0) hx hb dX13_sum_44 (by decide) ?_
            refine lv_istore_n (lv' := [(2, .int 0), (1, .int v5_1), (0, .ref (ad 0))]) hx hb dX13_sum_45 rfl hl (by decide) rfl (fun ls hl => ?_)
            refine lv_aload_n hx hb dX13_sum_46 rfl (lv_at hl 2 rfl) ?_
            refine lv_dup hx hb dX13_sum_47 rfl ?_
            refine th_get (ci := 14) (C := RX13) (T := TX13) (N := 97) (v := .int y38) hx hb hts hinX13 hown hK hP hI 0 (Nat.le_of_ble_eq_true rfl) rfl rfl 21 (Nat.le_of_ble_eq_true rfl) (hts _ (vA_in _ _ (in_25 _ (zs16 (zs16 (zs4 (zs0))))))) (fun _ h9 => h9) fy38 dX13_sum_48 ?_
            refine lv_iconst (v := 1) hx hb dX13_sum_51 (by decide) ?_
            refine lv_iadd hx hb dX13_sum_52 ?_
            refine lv_topi (fun y46 ey46 => ?_)
            obtain ⟨ty46, iy46⟩ := ti_add (e := 1) (f := 202) iy38 ln_1 ey46 (by decide)
            have ty46 : y46.toInt = y38.toInt + 1 := ty46
            have iy46 : 1 ≤ y46.toInt ∧ y46.toInt ≤ 202 := iy46
            have i47 : 1 ≤ y46.toInt ∧ y46.toInt ≤ 201 := by omega
            refine th_put (ci := 14) (C := RX13) (T := TX13) (N := 97) (v := .int y46) (ty := .int) hx hb hts hinX13 tyX13 tyX13_ok nmX13 hown hK hP (WX_D hD) hS hI 0 (Nat.le_of_ble_eq_true rfl) rfl rfl 21 (Nat.le_of_ble_eq_true rfl) (hts _ (vA_in _ _ (in_25 _ (zs16 (zs16 (zs4 (zs0))))))) (fun _ h9 => h9) rfl (by decide +kernel) rfl rfl (okI rfl (iv_w i47 (by decide))) dX13_sum_53 (fun H locs E48 pw49 hI hP hS => ?_)
            have hKp := hKp.pw pw49 rfl
            have k50 : AtM k E36 E48 := AtM.pw pw49.2 hk0 (vi_e fy38) (vi_e pw49.1) ty46 (by omega)
            have k51 : MZ E E48 := MZ.kp hKp (fun _ => rfl)
            refine lv_aload_n hx hb dX13_sum_56 rfl (lv_at hl 2 rfl) ?_
            refine th_i (va_runV (As := []) (rest := []) ⟨hx, hb, hml, hown, hts⟩ (gT dC dI cT ad E48 H.size k nl hI (by exact hh0) (by exact hh1) (by exact hh2) (by exact (hKp 0 18 rfl).trans hh3) (by (try rw [hKp.ei 0 19 rfl]); exact hh4) (by (try rw [(show xi (E48 0) 23 = w5_0_23 from vi_e ((pw49.2 0 23 (fun q9 => absurd q9.2 (Nat.ne_of_beq_eq_false rfl))).trans ((kq37 0 23 rfl).trans ((kq25 0 23 rfl).trans hs5_0_23))))]); omega) (by (try rw [(show xi (E48 0) 22 = w5_0_22 from vi_e ((pw49.2 0 22 (fun q9 => absurd q9.2 (Nat.ne_of_beq_eq_false rfl))).trans ((kq37 0 22 rfl).trans ((kq25 0 22 rfl).trans hs5_0_22))))]); omega)) (cwV 0 hts (gi_V (in_26 _ (zs16 (zs4 (zs4 (zs4 (zs0)))))) (in_26 _ (zs16 (zs4 (zs4 (zs4 (zs1 (zs0))))))) (in_26 _ (zs16 (zs4 (zs4 (zs4 (zs1 (zs1 (zs0)))))))) (in_24 _ (zs4 (zs4 (zs4 (zs1 (zs1 (zs1 (zs0)))))))) (in_27 _ (zs1 (zs1 (zs0))))) rfl rfl rfl (by decide +kernel) ⟨(show 7 * n + 6 + 1 ≤ 7 * n + 7 from nl_4 (Nat.le_of_ble_eq_true rfl) (Nat.le_of_ble_eq_true rfl)), (show 8 + (5 + 11) + 40 * (7 * n + 6) ≤ 40 * (7 * n + 7) from nl_3 (Nat.le_of_ble_eq_true rfl) (Nat.le_of_ble_eq_true rfl))⟩) ⟨HW_bl, va_recv hK hP (ci := 14) (q0 := 0) rfl (hI.ob 0 (Nat.le_of_ble_eq_true rfl) rfl), (HW_wi hP hK (WX_D hD) hS hA hEV)⟩ rfl rfl hl.1 rfl (lv_room (Nat.le_of_ble_eq_true rfl)) dX13_sum_57 ⟨Nat.le_of_ble_eq_true rfl, Nat.le_of_ble_eq_true rfl⟩) (WX_D hD) hS hA (fun r52 E53 H locs hw hP hS => ?_)
            obtain ⟨hI, kq54, hw⟩ := hw
            have hKb := hKp
            have hKp := hKp.tr kq54 (wl_sub rfl rfl)
            obtain ⟨y55, ey55⟩ : ∃ y, xi (E53 0) 21 = y := ⟨_, rfl⟩
            have fy55 : xv (E53 0) 21 = .int y55 := (hI.fi 0 (Nat.le_of_ble_eq_true rfl) rfl (Nat.le_of_ble_eq_true rfl) rfl).trans (congrArg Value.int ey55)
            have iy55 : 0 ≤ y55.toInt ∧ y55.toInt ≤ 201 := by rw [← ey55]; exact hI.iv 0 (Nat.le_of_ble_eq_true rfl) rfl (Nat.le_of_ble_eq_true rfl) rfl
            obtain ⟨y56, ey56⟩ : ∃ y, xi (E53 0) 22 = y := ⟨_, rfl⟩
            have fy56 : xv (E53 0) 22 = .int y56 := (hI.fi 0 (Nat.le_of_ble_eq_true rfl) rfl (Nat.le_of_ble_eq_true rfl) rfl).trans (congrArg Value.int ey56)
            have iy56 : -1 ≤ y56.toInt ∧ y56.toInt ≤ 201 := by rw [← ey56]; exact hI.iv 0 (Nat.le_of_ble_eq_true rfl) rfl (Nat.le_of_ble_eq_true rfl) rfl
            obtain ⟨y57, ey57⟩ : ∃ y, xi (E53 0) 23 = y := ⟨_, rfl⟩
            have fy57 : xv (E53 0) 23 = .int y57 := (hI.fi 0 (Nat.le_of_ble_eq_true rfl) rfl (Nat.le_of_ble_eq_true rfl) rfl).trans (congrArg Value.int ey57)
            have iy57 : 0 ≤ y57.toInt ∧ y57.toInt ≤ 8 := by rw [← ey57]; exact hI.iv 0 (Nat.le_of_ble_eq_true rfl) rfl (Nat.le_of_ble_eq_true rfl) rfl
            obtain ⟨f58, f59, f60, f61, f62, f63⟩ := hw
            try rw [(show xi (E48 0) 21 = y46 from vi_e pw49.1)] at f58
            try rw [(show xi (E53 0) 21 = y55 from vi_e fy55)] at f58
            try rw [(show xi (E48 0) 23 = w5_0_23 from vi_e ((pw49.2 0 23 (fun q9 => absurd q9.2 (Nat.ne_of_beq_eq_false rfl))).trans ((kq37 0 23 rfl).trans ((kq25 0 23 rfl).trans hs5_0_23))))] at f59
            try rw [(show xi (E53 0) 23 = y57 from vi_e fy57)] at f59
            try rw [(show xi (E48 0) 22 = w5_0_22 from vi_e ((pw49.2 0 22 (fun q9 => absurd q9.2 (Nat.ne_of_beq_eq_false rfl))).trans ((kq37 0 22 rfl).trans ((kq25 0 22 rfl).trans hs5_0_22))))] at f60
            try rw [(show xi (E48 0) 23 = w5_0_23 from vi_e ((pw49.2 0 23 (fun q9 => absurd q9.2 (Nat.ne_of_beq_eq_false rfl))).trans ((kq37 0 23 rfl).trans ((kq25 0 23 rfl).trans hs5_0_23))))] at f60
            try rw [(show xi (E53 0) 22 = y56 from vi_e fy56)] at f60
            try rw [(show xi (E53 0) 23 = y57 from vi_e fy57)] at f60
            try rw [(show xi (E48 0) 22 = w5_0_22 from vi_e ((pw49.2 0 22 (fun q9 => absurd q9.2 (Nat.ne_of_beq_eq_false rfl))).trans ((kq37 0 22 rfl).trans ((kq25 0 22 rfl).trans hs5_0_22))))] at f61
            try rw [(show xi (E53 0) 22 = y56 from vi_e fy56)] at f61
            refine lv_i2l hx hb dX13_sum_60 rfl ?_
            refine lv_topl (fun y64 ey64 => ?_)
            refine lv_lstore_n (lv' := [(3, .long y64), (2, .int 0), (1, .int v5_1), (0, .ref (ad 0))]) hx hb dX13_sum_61 rfl hl (by decide) rfl (fun ls hl => ?_)
            refine lv_iload_n hx hb dX13_sum_62 rfl (lv_at hl 1 rfl) ?_
            refine lv_if_eq (tgt := 73) hx hb dX13_sum_63 (by decide) (fun c65 => ?_) (fun c65 => ?_)
            · --63 taken
              refine lv_iload_n hx hb dX13_sum_73 rfl (lv_at hl 2 rfl) ?_
              refine lv_i2l hx hb dX13_sum_74 rfl ?_
              refine lv_topl (fun y66 ey66 => ?_)
              refine lv_lload_n hx hb dX13_sum_75 rfl (lv_at hl 0 rfl) ?_
              refine lv_lsub hx hb dX13_sum_76 ?_
              refine lv_topl (fun y67 ey67 => ?_)
              refine th_pi (va_runS (As := [.long y67]) (rest := []) ⟨hx, hb, hml, hown, hts⟩ (q_boundX l y67) (va_cwS 1 hts (gi_S (in_26 _ (zs16 (zs4 (zs4 (zs4 (zs1 (zs1 (zs1 (zs0))))))))) (in_26 _ (zs16 (zs16 (zs0)))) (in_24 _ (zs4 (zs4 (zs4 (zs1 (zs1 (zs1 (zs0)))))))) (in_26 _ (zs16 (zs16 (zs1 (zs0)))))) rfl rfl rfl hz_yX13_bound_1 ⟨(show 1 + 1 ≤ 7 * n + 7 from nl_1 (Nat.le_of_ble_eq_true rfl)), (show 8 + (2 + 11) + 40 * (1) ≤ 40 * (7 * n + 7) from nl_2 (Nat.le_of_ble_eq_true rfl))⟩) ⟨fun _ _ _ _ q => q, fun _ _ _ => ⟨rfl, trivial⟩⟩ rfl rfl hl.1 rfl (lv_room (Nat.le_of_ble_eq_true rfl)) dX13_sum_77 ⟨Nat.le_of_ble_eq_true rfl, Nat.le_of_ble_eq_true rfl⟩) hS (fun r68 H1 locs1 hw hk1 hS => ?_)
              have hP := ub_keep hP hk1
              generalize H1 = H at hP hS ⊢
              generalize locs1 = locs at hS ⊢
              have f69 := hw
              refine lv_istore_n (lv' := [(1, .int r68), (3, .long y64), (2, .int 0), (0, .ref (ad 0))]) hx hb dX13_sum_80 rfl hl (by decide) rfl (fun ls hl => ?_)
              refine lv_goto (tgt := 5) hx hb dX13_sum_81 (by decide) ?_
              exact ih5 y55 y56 y57 r68 E53 _ _ _ iy55 iy56 iy57 (by  first | exact (Int.le_trans (Int.le_trans (Int.le_trans (Int.le_trans hx5_0 f28) f40) (Int.le_trans (Int.le_add_of_nonneg_right (by decide)) (Int.le_of_eq ty46.symm))) f58) | omega) (by  first | exact (Int.le_trans hx5_1 f59) | omega) (by  first | exact fun q9 => ((f60 (q9)).trans (hx5_2 (f61 (q9)))) | omega) (by  first | exact fun q9 => hx5_3 (f61 (q9)) | omega) (LpM.step (op := isAdd) (cb := jb) hx5_4 (f31.two f43) (is_add.mpr (by have q20 := f31.eq f43 (by show (xi (E5_ 0) 22).toInt = -1; rw [show xi (E5_ 0) 22 = w5_0_22 from vi_e hs5_0_22]; first | exact t21 | omega); omega)) (by show (xi (E5_ 0) 22).toInt = -1; rw [show xi (E5_ 0) 22 = w5_0_22 from vi_e hs5_0_22]; first | exact t21 | omega) k50 f62 KM.rf (by decide) (fun t m => termS_mono true t m n) (fun t m a c h => opL_1 (termS_mono true t m n) rfl h)) (LpW.step (op := isAdd) hx5_4 hx5_5 (f31.two f43) (is_add.mpr (by have q20 := f31.eq f43 (by show (xi (E5_ 0) 22).toInt = -1; rw [show xi (E5_ 0) 22 = w5_0_22 from vi_e hs5_0_22]; first | exact t21 | omega); omega)) k50 k51 f62 f63 (by have q20 := f31.eq f43 (by show (xi (E5_ 0) 22).toInt = -1; rw [show xi (E5_ 0) 22 = w5_0_22 from vi_e hs5_0_22]; first | exact t21 | omega); first | (exfalso; omega) | (rw [show r35.toInt = 45 by omega]; exact jn_sub (ey67.trans (by rw [ey66, ey64])) f69)) (by have q20 := f31.eq f43 (by show (xi (E5_ 0) 22).toInt = -1; rw [show xi (E5_ 0) 22 = w5_0_22 from vi_e hs5_0_22]; first | exact t21 | omega); omega) (by have q20 := f31.eq f43 (by show (xi (E5_ 0) 22).toInt = -1; rw [show xi (E5_ 0) 22 = w5_0_22 from vi_e hs5_0_22]; first | exact t21 | omega); omega) (fun t m a c h => opL_1 (termS_mono true t m n) rfl h)) (by omega) hI hKp fy55 fy56 fy57 hP hS (lv_sub hl [0, 3] rfl)
            · --63 not
              exact absurd c65 (by decide)
          · --37 not
            have t70 : r35.toInt = 43 := ti_eq c44
            have i71 : 43 ≤ r35.toInt ∧ r35.toInt ≤ 43 := iv_eqi t70 f39 (il_ 43) (by decide)
            refine lv_iconst (v := 1) hx hb dX13_sum_40 (by decide) ?_
            refine lv_goto (tgt := 45) hx hb dX13_sum_41 (by decide) ?_
            refine lv_istore_n (lv' := [(2, .int 1), (1, .int v5_1), (0, .ref (ad 0))]) hx hb dX13_sum_45 rfl hl (by decide) rfl (fun ls hl => ?_)
            refine lv_aload_n hx hb dX13_sum_46 rfl (lv_at hl 2 rfl) ?_
            refine lv_dup hx hb dX13_sum_47 rfl ?_
            refine th_get (ci := 14) (C := RX13) (T := TX13) (N := 97) (v := .int y38) hx hb hts hinX13 hown hK hP hI 0 (Nat.le_of_ble_eq_true rfl) rfl rfl 21 (Nat.le_of_ble_eq_true rfl) (hts _ (vA_in _ _ (in_25 _ (zs16 (zs16 (zs4 (zs0))))))) (fun _ h9 => h9) fy38 dX13_sum_48 ?_
            refine lv_iconst (v := 1) hx hb dX13_sum_51 (by decide) ?_
            refine lv_iadd hx hb dX13_sum_52 ?_
            refine lv_topi (fun y72 ey72 => ?_)
            obtain ⟨ty72, iy72⟩ := ti_add (e := 1) (f := 202) iy38 ln_1 ey72 (by decide)
            have ty72 : y72.toInt = y38.toInt + 1 := ty72
            have iy72 : 1 ≤ y72.toInt ∧ y72.toInt ≤ 202 := iy72
            have i73 : 1 ≤ y72.toInt ∧ y72.toInt ≤ 201 := by omega
            refine th_put (ci := 14) (C := RX13) (T := TX13) (N := 97) (v := .int y72) (ty := .int) hx hb hts hinX13 tyX13 tyX13_ok nmX13 hown hK hP (WX_D hD) hS hI 0 (Nat.le_of_ble_eq_true rfl) rfl rfl 21 (Nat.le_of_ble_eq_true rfl) (hts _ (vA_in _ _ (in_25 _ (zs16 (zs16 (zs4 (zs0))))))) (fun _ h9 => h9) rfl (by decide +kernel) rfl rfl (okI rfl (iv_w i73 (by decide))) dX13_sum_53 (fun H locs E74 pw75 hI hP hS => ?_)
            have hKp := hKp.pw pw75 rfl
            have k76 : AtM k E36 E74 := AtM.pw pw75.2 hk0 (vi_e fy38) (vi_e pw75.1) ty72 (by omega)
            have k77 : MZ E E74 := MZ.kp hKp (fun _ => rfl)
            refine lv_aload_n hx hb dX13_sum_56 rfl (lv_at hl 2 rfl) ?_
            refine th_i (va_runV (As := []) (rest := []) ⟨hx, hb, hml, hown, hts⟩ (gT dC dI cT ad E74 H.size k nl hI (by exact hh0) (by exact hh1) (by exact hh2) (by exact (hKp 0 18 rfl).trans hh3) (by (try rw [hKp.ei 0 19 rfl]); exact hh4) (by (try rw [(show xi (E74 0) 23 = w5_0_23 from vi_e ((pw75.2 0 23 (fun q9 => absurd q9.2 (Nat.ne_of_beq_eq_false rfl))).trans ((kq37 0 23 rfl).trans ((kq25 0 23 rfl).trans hs5_0_23))))]); omega) (by (try rw [(show xi (E74 0) 22 = w5_0_22 from vi_e ((pw75.2 0 22 (fun q9 => absurd q9.2 (Nat.ne_of_beq_eq_false rfl))).trans ((kq37 0 22 rfl).trans ((kq25 0 22 rfl).trans hs5_0_22))))]); omega)) (cwV 0 hts (gi_V (in_26 _ (zs16 (zs4 (zs4 (zs4 (zs0)))))) (in_26 _ (zs16 (zs4 (zs4 (zs4 (zs1 (zs0))))))) (in_26 _ (zs16 (zs4 (zs4 (zs4 (zs1 (zs1 (zs0)))))))) (in_24 _ (zs4 (zs4 (zs4 (zs1 (zs1 (zs1 (zs0)))))))) (in_27 _ (zs1 (zs1 (zs0))))) rfl rfl rfl (by decide +kernel) ⟨(show 7 * n + 6 + 1 ≤ 7 * n + 7 from nl_4 (Nat.le_of_ble_eq_true rfl) (Nat.le_of_ble_eq_true rfl)), (show 8 + (5 + 11) + 40 * (7 * n + 6) ≤ 40 * (7 * n + 7) from nl_3 (Nat.le_of_ble_eq_true rfl) (Nat.le_of_ble_eq_true rfl))⟩) ⟨HW_bl, va_recv hK hP (ci := 14) (q0 := 0) rfl (hI.ob 0 (Nat.le_of_ble_eq_true rfl) rfl), (HW_wi hP hK (WX_D hD) hS hA hEV)⟩ rfl rfl hl.1 rfl (lv_room (Nat.le_of_ble_eq_true rfl)) dX13_sum_57 ⟨Nat.le_of_ble_eq_true rfl, Nat.le_of_ble_eq_true rfl⟩) (WX_D hD) hS hA (fun r78 E79 H locs hw hP hS => ?_)
            obtain ⟨hI, kq80, hw⟩ := hw
            have hKb := hKp
            have hKp := hKp.tr kq80 (wl_sub rfl rfl)
            obtain ⟨y81, ey81⟩ : ∃ y, xi (E79 0) 21 = y := ⟨_, rfl⟩
            have fy81 : xv (E79 0) 21 = .int y81 := (hI.fi 0 (Nat.le_of_ble_eq_true rfl) rfl (Nat.le_of_ble_eq_true rfl) rfl).trans (congrArg Value.int ey81)
            have iy81 : 0 ≤ y81.toInt ∧ y81.toInt ≤ 201 := by rw [← ey81]; exact hI.iv 0 (Nat.le_of_ble_eq_true rfl) rfl (Nat.le_of_ble_eq_true rfl) rfl
            obtain ⟨y82, ey82⟩ : ∃ y, xi (E79 0) 22 = y := ⟨_, rfl⟩
            have fy82 : xv (E79 0) 22 = .int y82 := (hI.fi 0 (Nat.le_of_ble_eq_true rfl) rfl (Nat.le_of_ble_eq_true rfl) rfl).trans (congrArg Value.int ey82)
            have iy82 : -1 ≤ y82.toInt ∧ y82.toInt ≤ 201 := by rw [← ey82]; exact hI.iv 0 (Nat.le_of_ble_eq_true rfl) rfl (Nat.le_of_ble_eq_true rfl) rfl
            obtain ⟨y83, ey83⟩ : ∃ y, xi (E79 0) 23 = y := ⟨_, rfl⟩
            have fy83 : xv (E79 0) 23 = .int y83 := (hI.fi 0 (Nat.le_of_ble_eq_true rfl) rfl (Nat.le_of_ble_eq_true rfl) rfl).trans (congrArg Value.int ey83)
            have iy83 : 0 ≤ y83.toInt ∧ y83.toInt ≤ 8 := by rw [← ey83]; exact hI.iv 0 (Nat.le_of_ble_eq_true rfl) rfl (Nat.le_of_ble_eq_true rfl) rfl
            obtain ⟨f84, f85, f86, f87, f88, f89⟩ := hw
            try rw [(show xi (E74 0) 21 = y72 from vi_e pw75.1)] at f84
            try rw [(show xi (E79 0) 21 = y81 from vi_e fy81)] at f84
            try rw [(show xi (E74 0) 23 = w5_0_23 from vi_e ((pw75.2 0 23 (fun q9 => absurd q9.2 (Nat.ne_of_beq_eq_false rfl))).trans ((kq37 0 23 rfl).trans ((kq25 0 23 rfl).trans hs5_0_23))))] at f85
            try rw [(show xi (E79 0) 23 = y83 from vi_e fy83)] at f85
            try rw [(show xi (E74 0) 22 = w5_0_22 from vi_e ((pw75.2 0 22 (fun q9 => absurd q9.2 (Nat.ne_of_beq_eq_false rfl))).trans ((kq37 0 22 rfl).trans ((kq25 0 22 rfl).trans hs5_0_22))))] at f86
            try rw [(show xi (E74 0) 23 = w5_0_23 from vi_e ((pw75.2 0 23 (fun q9 => absurd q9.2 (Nat.ne_of_beq_eq_false rfl))).trans ((kq37 0 23 rfl).trans ((kq25 0 23 rfl).trans hs5_0_23))))] at f86
            try rw [(show xi (E79 0) 22 = y82 from vi_e fy82)] at f86
            try rw [(show xi (E79 0) 23 = y83 from vi_e fy83)] at f86
            try rw [(show xi (E74 0) 22 = w5_0_22 from vi_e ((pw75.2 0 22 (fun q9 => absurd q9.2 (Nat.ne_of_beq_eq_false rfl))).trans ((kq37 0 22 rfl).trans ((kq25 0 22 rfl).trans hs5_0_22))))] at f87
            try rw [(show xi (E79 0) 22 = y82 from vi_e fy82)] at f87
            refine lv_i2l hx hb dX13_sum_60 rfl ?_
            refine lv_topl (fun y90 ey90 => ?_)
            refine lv_lstore_n (lv' := [(3, .long y90), (2, .int 1), (1, .int v5_1), (0, .ref (ad 0))]) hx hb dX13_sum_61 rfl hl (by decide) rfl (fun ls hl => ?_)
            refine lv_iload_n hx hb dX13_sum_62 rfl (lv_at hl 1 rfl) ?_
            refine lv_if_eq (tgt := 73) hx hb dX13_sum_63 (by decide) (fun c91 => ?_) (fun c91 => ?_)
            · --63 taken
              exact absurd c91 (by decide)
            · --63 not
              refine lv_iload_n hx hb dX13_sum_66 rfl (lv_at hl 2 rfl) ?_
              refine lv_i2l hx hb dX13_sum_67 rfl ?_
              refine lv_topl (fun y92 ey92 => ?_)
              refine lv_lload_n hx hb dX13_sum_68 rfl (lv_at hl 0 rfl) ?_
              refine lv_ladd hx hb dX13_sum_69 ?_
              refine lv_topl (fun y93 ey93 => ?_)
              refine lv_goto (tgt := 77) hx hb dX13_sum_70 (by decide) ?_
              refine th_pi (va_runS (As := [.long y93]) (rest := []) ⟨hx, hb, hml, hown, hts⟩ (q_boundX l y93) (va_cwS 1 hts (gi_S (in_26 _ (zs16 (zs4 (zs4 (zs4 (zs1 (zs1 (zs1 (zs0))))))))) (in_26 _ (zs16 (zs16 (zs0)))) (in_24 _ (zs4 (zs4 (zs4 (zs1 (zs1 (zs1 (zs0)))))))) (in_26 _ (zs16 (zs16 (zs1 (zs0)))))) rfl rfl rfl hz_yX13_bound_1 ⟨(show 1 + 1 ≤ 7 * n + 7 from nl_1 (Nat.le_of_ble_eq_true rfl)), (show 8 + (2 + 11) + 40 * (1) ≤ 40 * (7 * n + 7) from nl_2 (Nat.le_of_ble_eq_true rfl))⟩) ⟨fun _ _ _ _ q => q, fun _ _ _ => ⟨rfl, trivial⟩⟩ rfl rfl hl.1 rfl (lv_room (Nat.le_of_ble_eq_true rfl)) dX13_sum_77 ⟨Nat.le_of_ble_eq_true rfl, Nat.le_of_ble_eq_true rfl⟩) hS (fun r94 H1 locs1 hw hk1 hS => ?_)
              have hP := ub_keep hP hk1
              generalize H1 = H at hP hS ⊢
              generalize locs1 = locs at hS ⊢
              have f95 := hw
              refine lv_istore_n (lv' := [(1, .int r94), (3, .long y90), (2, .int 1), (0, .ref (ad 0))]) hx hb dX13_sum_80 rfl hl (by decide) rfl (fun ls hl => ?_)
              refine lv_goto (tgt := 5) hx hb dX13_sum_81 (by decide) ?_
              exact ih5 y81 y82 y83 r94 E79 _ _ _ iy81 iy82 iy83 (by  first | exact (Int.le_trans (Int.le_trans (Int.le_trans (Int.le_trans hx5_0 f28) f40) (Int.le_trans (Int.le_add_of_nonneg_right (by decide)) (Int.le_of_eq ty72.symm))) f84) | omega) (by  first | exact (Int.le_trans hx5_1 f85) | omega) (by  first | exact fun q9 => ((f86 (q9)).trans (hx5_2 (f87 (q9)))) | omega) (by  first | exact fun q9 => hx5_3 (f87 (q9)) | omega) (LpM.step (op := isAdd) (cb := jb) hx5_4 (f31.two f43) (is_add.mpr (by have q20 := f31.eq f43 (by show (xi (E5_ 0) 22).toInt = -1; rw [show xi (E5_ 0) 22 = w5_0_22 from vi_e hs5_0_22]; first | exact t21 | omega); omega)) (by show (xi (E5_ 0) 22).toInt = -1; rw [show xi (E5_ 0) 22 = w5_0_22 from vi_e hs5_0_22]; first | exact t21 | omega) k76 f88 KM.rf (by decide) (fun t m => termS_mono true t m n) (fun t m a c h => opL_1 (termS_mono true t m n) rfl h)) (LpW.step (op := isAdd) hx5_4 hx5_5 (f31.two f43) (is_add.mpr (by have q20 := f31.eq f43 (by show (xi (E5_ 0) 22).toInt = -1; rw [show xi (E5_ 0) 22 = w5_0_22 from vi_e hs5_0_22]; first | exact t21 | omega); omega)) k76 k77 f88 f89 (by have q20 := f31.eq f43 (by show (xi (E5_ 0) 22).toInt = -1; rw [show xi (E5_ 0) 22 = w5_0_22 from vi_e hs5_0_22]; first | exact t21 | omega); first | (exfalso; omega) | (rw [show r35.toInt = 43 by omega]; exact jn_add (ey93.trans (by rw [ey92, ey90])) f95)) (by have q20 := f31.eq f43 (by show (xi (E5_ 0) 22).toInt = -1; rw [show xi (E5_ 0) 22 = w5_0_22 from vi_e hs5_0_22]; first | exact t21 | omega); omega) (by have q20 := f31.eq f43 (by show (xi (E5_ 0) 22).toInt = -1; rw [show xi (E5_ 0) 22 = w5_0_22 from vi_e hs5_0_22]; first | exact t21 | omega); omega) (fun t m a c h => opL_1 (termS_mono true t m n) rfl h)) (by omega) hI hKp fy81 fy82 fy83 hP hS (lv_sub hl [0, 3] rfl)
        · --19 not
          have t96 : ¬ r23.toInt = 43 := ti_ne c32
          refine lv_aload_n hx hb dX13_sum_22 rfl (lv_at hl 1 rfl) ?_
          refine th_i (va_runV (As := []) (rest := []) ⟨hx, hb, hml, hown, hts⟩ (q_lookX l dC dI cT ad E24 H.size k nl hI (by exact hh0) (by exact hh1) (by exact hh2) (by exact (hKp 0 18 rfl).trans hh3) (by (try rw [hKp.ei 0 19 rfl]); exact hh4)) (cwV 0 hts (gi_V (in_26 _ (zs1 (zs1 (zs0)))) (in_26 _ (zs1 (zs1 (zs1 (zs0))))) (in_26 _ (zs4 (zs0))) (in_24 _ (zs4 (zs4 (zs4 (zs1 (zs1 (zs1 (zs0)))))))) (in_26 _ (zs4 (zs1 (zs0))))) rfl rfl rfl ⟨rfl, hz_yX13_look_0⟩ ⟨(show 0 + 1 ≤ 7 * n + 7 from nl_1 (Nat.le_of_ble_eq_true rfl)), (show 8 + (1 + 11) + 40 * (0) ≤ 40 * (7 * n + 7) from nl_2 (Nat.le_of_ble_eq_true rfl))⟩) ⟨HW_bl, va_recv hK hP (ci := 14) (q0 := 0) rfl (hI.ob 0 (Nat.le_of_ble_eq_true rfl) rfl), (HW_wi hP hK (WX_D hD) hS hA hEV)⟩ rfl rfl hl.1 rfl (lv_room (Nat.le_of_ble_eq_true rfl)) dX13_sum_23 ⟨Nat.le_of_ble_eq_true rfl, Nat.le_of_ble_eq_true rfl⟩) (WX_D hD) hS hA (fun r97 E98 H locs hw hP hS => ?_)
          obtain ⟨hI, kq99, hw⟩ := hw
          have hKb := hKp
          have hKp := hKp.tr kq99 (wl_sub rfl rfl)
          obtain ⟨y100, ey100⟩ : ∃ y, xi (E98 0) 21 = y := ⟨_, rfl⟩
          have fy100 : xv (E98 0) 21 = .int y100 := (hI.fi 0 (Nat.le_of_ble_eq_true rfl) rfl (Nat.le_of_ble_eq_true rfl) rfl).trans (congrArg Value.int ey100)
          have iy100 : 0 ≤ y100.toInt ∧ y100.toInt ≤ 201 := by rw [← ey100]; exact hI.iv 0 (Nat.le_of_ble_eq_true rfl) rfl (Nat.le_of_ble_eq_true rfl) rfl
          obtain ⟨f101, f102, f103, f104, f105⟩ := hw
          try rw [(show xi (E24 0) 21 = y26 from vi_e fy26)] at f102
          try rw [(show xi (E98 0) 21 = y100 from vi_e fy100)] at f102
          try rw [(show xi (E24 0) 21 = y26 from vi_e fy26)] at f103
          try rw [hKb.ei 0 20 rfl] at f103
          try rw [(show xi (E98 0) 21 = y100 from vi_e fy100)] at f103
          try rw [(show xi (E24 0) 21 = y26 from vi_e fy26)] at f104
          try rw [hKb.ei 0 20 rfl] at f104
          try rw [(show xi (E98 0) 21 = y100 from vi_e fy100)] at f104
          refine lv_bipush (v := 45) hx hb dX13_sum_26 (by decide) ?_
          refine lv_icmp_ne (tgt := 84) hx hb dX13_sum_28 (by decide) (fun c106 => ?_) (fun c106 => ?_)
          · --28 taken
            have t107 : ¬ r97.toInt = 45 := ti_ne c106
            refine lv_iload_n hx hb dX13_sum_84 rfl (lv_at hl 0 rfl) ?_
            rw [hQ]
            exact W.iret (v := v5_1) hx hb hr (fun t ht hW => ⟨⟨v5_1, E98, rfl, ⟨hI, hKp, ⟨by (try rw [(show xi (E98 0) 21 = y100 from vi_e fy100)]); (try rw [ey1]); first | done | exact (Int.le_trans (Int.le_trans hx5_0 f28) f102) | all_goals omega, by (try rw [(show xi (E98 0) 23 = w5_0_23 from vi_e ((kq99 0 23 rfl).trans ((kq25 0 23 rfl).trans hs5_0_23)))]); (try rw [ey3]); first | done | exact hx5_1 | all_goals omega, by (try rw [(show xi (E98 0) 22 = w5_0_22 from vi_e ((kq99 0 22 rfl).trans ((kq25 0 22 rfl).trans hs5_0_22)))]); (try rw [(show xi (E98 0) 23 = w5_0_23 from vi_e ((kq99 0 23 rfl).trans ((kq25 0 23 rfl).trans hs5_0_23)))]); (try rw [ey2]); (try rw [ey3]); first | done | exact fun q9 => (hx5_2 (q9)) | all_goals omega, by (try rw [(show xi (E98 0) 22 = w5_0_22 from vi_e ((kq99 0 22 rfl).trans ((kq25 0 22 rfl).trans hs5_0_22)))]); (try rw [ey2]); first | done | exact fun q9 => hx5_3 (q9) | all_goals omega, LpM.exit (op := isAdd) hx5_4 (f31.two f105) (fun q9 => by have q8 := is_add.mp q9; have q20 := f31.eq f105 (by show (xi (E5_ 0) 22).toInt = -1; rw [show xi (E5_ 0) 22 = w5_0_22 from vi_e hs5_0_22]; first | exact t21 | omega); omega) (fun t m a c h => opL_0 h), LpW.exit (op := isAdd) hx5_4 hx5_5 (f31.two f105) (fun q9 => by have q8 := is_add.mp q9; have q20 := f31.eq f105 (by show (xi (E5_ 0) 22).toInt = -1; rw [show xi (E5_ 0) 22 = w5_0_22 from vi_e hs5_0_22]; first | exact t21 | omega); omega) (fun t m a c h => opL_0 h)⟩⟩, by show va_P (dC, dI) vwCl (WX 72 ad E98) t.heap; rw [ht]; exact hP⟩, hS.F ht⟩) hS.2.2 dX13_sum_85
          · --28 not
            have t108 : r97.toInt = 45 := ti_eq c106
            have i109 : 45 ≤ r97.toInt ∧ r97.toInt ≤ 45 := iv_eqi t108 f101 (il_ 45) (by decide)
            refine lv_aload_n hx hb dX13_sum_31 rfl (lv_at hl 1 rfl) ?_
            refine th_i (va_runV (As := []) (rest := []) ⟨hx, hb, hml, hown, hts⟩ (q_lookX l dC dI cT ad E98 H.size k nl hI (by exact hh0) (by exact hh1) (by exact hh2) (by exact (hKp 0 18 rfl).trans hh3) (by (try rw [hKp.ei 0 19 rfl]); exact hh4)) (cwV 0 hts (gi_V (in_26 _ (zs1 (zs1 (zs0)))) (in_26 _ (zs1 (zs1 (zs1 (zs0))))) (in_26 _ (zs4 (zs0))) (in_24 _ (zs4 (zs4 (zs4 (zs1 (zs1 (zs1 (zs0)))))))) (in_26 _ (zs4 (zs1 (zs0))))) rfl rfl rfl ⟨rfl, hz_yX13_look_0⟩ ⟨(show 0 + 1 ≤ 7 * n + 7 from nl_1 (Nat.le_of_ble_eq_true rfl)), (show 8 + (1 + 11) + 40 * (0) ≤ 40 * (7 * n + 7) from nl_2 (Nat.le_of_ble_eq_true rfl))⟩) ⟨HW_bl, va_recv hK hP (ci := 14) (q0 := 0) rfl (hI.ob 0 (Nat.le_of_ble_eq_true rfl) rfl), (HW_wi hP hK (WX_D hD) hS hA hEV)⟩ rfl rfl hl.1 rfl (lv_room (Nat.le_of_ble_eq_true rfl)) dX13_sum_32 ⟨Nat.le_of_ble_eq_true rfl, Nat.le_of_ble_eq_true rfl⟩) (WX_D hD) hS hA (fun r110 E111 H locs hw hP hS => ?_)
            obtain ⟨hI, kq112, hw⟩ := hw
            have hKb := hKp
            have hKp := hKp.tr kq112 (wl_sub rfl rfl)
            obtain ⟨y113, ey113⟩ : ∃ y, xi (E111 0) 21 = y := ⟨_, rfl⟩
            have fy113 : xv (E111 0) 21 = .int y113 := (hI.fi 0 (Nat.le_of_ble_eq_true rfl) rfl (Nat.le_of_ble_eq_true rfl) rfl).trans (congrArg Value.int ey113)
            have iy113 : 0 ≤ y113.toInt ∧ y113.toInt ≤ 201 := by rw [← ey113]; exact hI.iv 0 (Nat.le_of_ble_eq_true rfl) rfl (Nat.le_of_ble_eq_true rfl) rfl
            obtain ⟨f114, f115, f116, f117, f118⟩ := hw
            try rw [(show xi (E98 0) 21 = y100 from vi_e fy100)] at f115
            try rw [(show xi (E111 0) 21 = y113 from vi_e fy113)] at f115
            try rw [(show xi (E98 0) 21 = y100 from vi_e fy100)] at f116
            try rw [hKb.ei 0 20 rfl] at f116
            try rw [(show xi (E111 0) 21 = y113 from vi_e fy113)] at f116
            try rw [(show xi (E98 0) 21 = y100 from vi_e fy100)] at f117
            try rw [hKb.ei 0 20 rfl] at f117
            try rw [(show xi (E111 0) 21 = y113 from vi_e fy113)] at f117
            refine lv_bipush (v := 43) hx hb dX13_sum_35 (by decide) ?_
            refine lv_icmp_ne (tgt := 44) hx hb dX13_sum_37 (by decide) (fun c119 => ?_) (fun c119 => ?_)
            · --37 taken
              have t120 : ¬ r110.toInt = 43 := ti_ne c119
              refine lv_iconst (v := 0) hx hb dX13_sum_44 (by decide) ?_
              refine lv_istore_n (lv' := [(2, .int 0), (1, .int v5_1), (0, .ref (ad 0))]) hx hb dX13_sum_45 rfl hl (by decide) rfl (fun ls hl => ?_)
              refine lv_aload_n hx hb dX13_sum_46 rfl (lv_at hl 2 rfl) ?_
              refine lv_dup hx hb dX13_sum_47 rfl ?_
              refine th_get (ci := 14) (C := RX13) (T := TX13) (N := 97) (v := .int y113) hx hb hts hinX13 hown hK hP hI 0 (Nat.le_of_ble_eq_true rfl) rfl rfl 21 (Nat.le_of_ble_eq_true rfl) (hts _ (vA_in _ _ (in_25 _ (zs16 (zs16 (zs4 (zs0))))))) (fun _ h9 => h9) fy113 dX13_sum_48 ?_
              refine lv_iconst (v := 1) hx hb dX13_sum_51 (by decide) ?_
              refine lv_iadd hx hb dX13_sum_52 ?_
              refine lv_topi (fun y121 ey121 => ?_)
              obtain ⟨ty121, iy121⟩ := ti_add (e := 1) (f := 202) iy113 ln_1 ey121 (by decide)
              have ty121 : y121.toInt = y113.toInt + 1 := ty121
              have iy121 : 1 ≤ y121.toInt ∧ y121.toInt ≤ 202 := iy121
              have i122 : 1 ≤ y121.toInt ∧ y121.toInt ≤ 201 := by omega
              refine th_put (ci := 14) (C := RX13) (T := TX13) (N := 97) (v := .int y121) (ty := .int) hx hb hts hinX13 tyX13 tyX13_ok nmX13 hown hK hP (WX_D hD) hS hI 0 (Nat.le_of_ble_eq_true rfl) rfl rfl 21 (Nat.le_of_ble_eq_true rfl) (hts _ (vA_in _ _ (in_25 _ (zs16 (zs16 (zs4 (zs0))))))) (fun _ h9 => h9) rfl (by decide +kernel) rfl rfl (okI rfl (iv_w i122 (by decide))) dX13_sum_53 (fun H locs E123 pw124 hI hP hS => ?_)
              have hKp := hKp.pw pw124 rfl
              have k125 : AtM k E111 E123 := AtM.pw pw124.2 hk0 (vi_e fy113) (vi_e pw124.1) ty121 (by omega)
              have k126 : MZ E E123 := MZ.kp hKp (fun _ => rfl)
              refine lv_aload_n hx hb dX13_sum_56 rfl (lv_at hl 2 rfl) ?_
              refine th_i (va_runV (As := []) (rest := []) ⟨hx, hb, hml, hown, hts⟩ (gT dC dI cT ad E123 H.size k nl hI (by exact hh0) (by exact hh1) (by exact hh2) (by exact (hKp 0 18 rfl).trans hh3) (by (try rw [hKp.ei 0 19 rfl]); exact hh4) (by (try rw [(show xi (E123 0) 23 = w5_0_23 from vi_e ((pw124.2 0 23 (fun q9 => absurd q9.2 (Nat.ne_of_beq_eq_false rfl))).trans ((kq112 0 23 rfl).trans ((kq99 0 23 rfl).trans ((kq25 0 23 rfl).trans hs5_0_23)))))]); omega) (by (try rw [(show xi (E123 0) 22 = w5_0_22 from vi_e ((pw124.2 0 22 (fun q9 => absurd q9.2 (Nat.ne_of_beq_eq_false rfl))).trans ((kq112 0 22 rfl).trans ((kq99 0 22 rfl).trans ((kq25 0 22 rfl).trans hs5_0_22)))))]); omega)) (cwV 0 hts (gi_V (in_26 _ (zs16 (zs4 (zs4 (zs4 (zs0)))))) (in_26 _ (zs16 (zs4 (zs4 (zs4 (zs1 (zs0))))))) (in_26 _ (zs16 (zs4 (zs4 (zs4 (zs1 (zs1 (zs0)))))))) (in_24 _ (zs4 (zs4 (zs4 (zs1 (zs1 (zs1 (zs0)))))))) (in_27 _ (zs1 (zs1 (zs0))))) rfl rfl rfl (by decide +kernel) ⟨(show 7 * n + 6 + 1 ≤ 7 * n + 7 from nl_4 (Nat.le_of_ble_eq_true rfl) (Nat.le_of_ble_eq_true rfl)), (show 8 + (5 + 11) + 40 * (7 * n + 6) ≤ 40 * (7 * n + 7) from nl_3 (Nat.le_of_ble_eq_true rfl) (Nat.le_of_ble_eq_true rfl))⟩) ⟨HW_bl, va_recv hK hP (ci := 14) (q0 := 0) rfl (hI.ob 0 (Nat.le_of_ble_eq_true rfl) rfl), (HW_wi hP hK (WX_D hD) hS hA hEV)⟩ rfl rfl hl.1 rfl (lv_room (Nat.le_of_ble_eq_true rfl)) dX13_sum_57 ⟨Nat.le_of_ble_eq_true rfl, Nat.le_of_ble_eq_true rfl⟩) (WX_D hD) hS hA (fun r127 E128 H locs hw hP hS => ?_)
              obtain ⟨hI, kq129, hw⟩ := hw
              have hKb := hKp
              have hKp := hKp.tr kq129 (wl_sub rfl rfl)
              obtain ⟨y130, ey130⟩ : ∃ y, xi (E128 0) 21 = y := ⟨_, rfl⟩
              have fy130 : xv (E128 0) 21 = .int y130 := (hI.fi 0 (Nat.le_of_ble_eq_true rfl) rfl (Nat.le_of_ble_eq_true rfl) rfl).trans (congrArg Value.int ey130)
              have iy130 : 0 ≤ y130.toInt ∧ y130.toInt ≤ 201 := by rw [← ey130]; exact hI.iv 0 (Nat.le_of_ble_eq_true rfl) rfl (Nat.le_of_ble_eq_true rfl) rfl
              obtain ⟨y131, ey131⟩ : ∃ y, xi (E128 0) 22 = y := ⟨_, rfl⟩
              have fy131 : xv (E128 0) 22 = .int y131 := (hI.fi 0 (Nat.le_of_ble_eq_true rfl) rfl (Nat.le_of_ble_eq_true rfl) rfl).trans (congrArg Value.int ey131)
              have iy131 : -1 ≤ y131.toInt ∧ y131.toInt ≤ 201 := by rw [← ey131]; exact hI.iv 0 (Nat.le_of_ble_eq_true rfl) rfl (Nat.le_of_ble_eq_true rfl) rfl
              obtain ⟨y132, ey132⟩ : ∃ y, xi (E128 0) 23 = y := ⟨_, rfl⟩
              have fy132 : xv (E128 0) 23 = .int y132 := (hI.fi 0 (Nat.le_of_ble_eq_true rfl) rfl (Nat.le_of_ble_eq_true rfl) rfl).trans (congrArg Value.int ey132)
              have iy132 : 0 ≤ y132.toInt ∧ y132.toInt ≤ 8 := by rw [← ey132]; exact hI.iv 0 (Nat.le_of_ble_eq_true rfl) rfl (Nat.le_of_ble_eq_true rfl) rfl
              obtain ⟨f133, f134, f135, f136, f137, f138⟩ := hw
              try rw [(show xi (E123 0) 21 = y121 from vi_e pw124.1)] at f133
              try rw [(show xi (E128 0) 21 = y130 from vi_e fy130)] at f133
              try rw [(show xi (E123 0) 23 = w5_0_23 from vi_e ((pw124.2 0 23 (fun q9 => absurd q9.2 (Nat.ne_of_beq_eq_false rfl))).trans ((kq112 0 23 rfl).trans ((kq99 0 23 rfl).trans ((kq25 0 23 rfl).trans hs5_0_23)))))] at f134
              try rw [(show xi (E128 0) 23 = y132 from vi_e fy132)] at f134
              try rw [(show xi (E123 0) 22 = w5_0_22 from vi_e ((pw124.2 0 22 (fun q9 => absurd q9.2 (Nat.ne_of_beq_eq_false rfl))).trans ((kq112 0 22 rfl).trans ((kq99 0 22 rfl).trans ((kq25 0 22 rfl).trans hs5_0_22)))))] at f135
              try rw [(show xi (E123 0) 23 = w5_0_23 from vi_e ((pw124.2 0 23 (fun q9 => absurd q9.2 (Nat.ne_of_beq_eq_false rfl))).trans ((kq112 0 23 rfl).trans ((kq99 0 23 rfl).trans ((kq25 0 23 rfl).trans hs5_0_23)))))] at f135
              try rw [(show xi (E128 0) 22 = y131 from vi_e fy131)] at f135
              try rw [(show xi (E128 0) 23 = y132 from vi_e fy132)] at f135
              try rw [(show xi (E123 0) 22 = w5_0_22 from vi_e ((pw124.2 0 22 (fun q9 => absurd q9.2 (Nat.ne_of_beq_eq_false rfl))).trans ((kq112 0 22 rfl).trans ((kq99 0 22 rfl).trans ((kq25 0 22 rfl).trans hs5_0_22)))))] at f136
              try rw [(show xi (E128 0) 22 = y131 from vi_e fy131)] at f136
              refine lv_i2l hx hb dX13_sum_60 rfl ?_
              refine lv_topl (fun y139 ey139 => ?_)
              refine lv_lstore_n (lv' := [(3, .long y139), (2, .int 0), (1, .int v5_1), (0, .ref (ad 0))]) hx hb dX13_sum_61 rfl hl (by decide) rfl (fun ls hl => ?_)
              refine lv_iload_n hx hb dX13_sum_62 rfl (lv_at hl 1 rfl) ?_
              refine lv_if_eq (tgt := 73) hx hb dX13_sum_63 (by decide) (fun c140 => ?_) (fun c140 => ?_)
              · --63 taken
                refine lv_iload_n hx hb dX13_sum_73 rfl (lv_at hl 2 rfl) ?_
                refine lv_i2l hx hb dX13_sum_74 rfl ?_
                refine lv_topl (fun y141 ey141 => ?_)
                refine lv_lload_n hx hb dX13_sum_75 rfl (lv_at hl 0 rfl) ?_
                refine lv_lsub hx hb dX13_sum_76 ?_
                refine lv_topl (fun y142 ey142 => ?_)
                refine th_pi (va_runS (As := [.long y142]) (rest := []) ⟨hx, hb, hml, hown, hts⟩ (q_boundX l y142) (va_cwS 1 hts (gi_S (in_26 _ (zs16 (zs4 (zs4 (zs4 (zs1 (zs1 (zs1 (zs0))))))))) (in_26 _ (zs16 (zs16 (zs0)))) (in_24 _ (zs4 (zs4 (zs4 (zs1 (zs1 (zs1 (zs0)))))))) (in_26 _ (zs16 (zs16 (zs1 (zs0)))))) rfl rfl rfl hz_yX13_bound_1 ⟨(show 1 + 1 ≤ 7 * n + 7 from nl_1 (Nat.le_of_ble_eq_true rfl)), (show 8 + (2 + 11) + 40 * (1) ≤ 40 * (7 * n + 7) from nl_2 (Nat.le_of_ble_eq_true rfl))⟩) ⟨fun _ _ _ _ q => q, fun _ _ _ => ⟨rfl, trivial⟩⟩ rfl rfl hl.1 rfl (lv_room (Nat.le_of_ble_eq_true rfl)) dX13_sum_77 ⟨Nat.le_of_ble_eq_true rfl, Nat.le_of_ble_eq_true rfl⟩) hS (fun r143 H1 locs1 hw hk1 hS => ?_)
                have hP := ub_keep hP hk1
                generalize H1 = H at hP hS ⊢
                generalize locs1 = locs at hS ⊢
                have f144 := hw
                refine lv_istore_n (lv' := [(1, .int r143), (3, .long y139), (2, .int 0), (0, .ref (ad 0))]) hx hb dX13_sum_80 rfl hl (by decide) rfl (fun ls hl => ?_)
                refine lv_goto (tgt := 5) hx hb dX13_sum_81 (by decide) ?_
                exact ih5 y130 y131 y132 r143 E128 _ _ _ iy130 iy131 iy132 (by  first | exact (Int.le_trans (Int.le_trans (Int.le_trans (Int.le_trans (Int.le_trans hx5_0 f28) f102) f115) (Int.le_trans (Int.le_add_of_nonneg_right (by decide)) (Int.le_of_eq ty121.symm))) f133) | omega) (by  first | exact (Int.le_trans hx5_1 f134) | omega) (by  first | exact fun q9 => ((f135 (q9)).trans (hx5_2 (f136 (q9)))) | omega) (by  first | exact fun q9 => hx5_3 (f136 (q9)) | omega) (LpM.step (op := isAdd) (cb := jb) hx5_4 ((f31.two f105).two f118) (is_add.mpr (by have q20 := f31.eq f105 (by show (xi (E5_ 0) 22).toInt = -1; rw [show xi (E5_ 0) 22 = w5_0_22 from vi_e hs5_0_22]; first | exact t21 | omega); have q21 := (f31.two f105).eq f118 (by show (xi (E5_ 0) 22).toInt = -1; rw [show xi (E5_ 0) 22 = w5_0_22 from vi_e hs5_0_22]; first | exact t21 | omega); omega)) (by show (xi (E5_ 0) 22).toInt = -1; rw [show xi (E5_ 0) 22 = w5_0_22 from vi_e hs5_0_22]; first | exact t21 | omega) k125 f137 KM.rf (by decide) (fun t m => termS_mono true t m n) (fun t m a c h => opL_1 (termS_mono true t m n) rfl h)) (LpW.step (op := isAdd) hx5_4 hx5_5 ((f31.two f105).two f118) (is_add.mpr (by have q20 := f31.eq f105 (by show (xi (E5_ 0) 22).toInt = -1; rw [show xi (E5_ 0) 22 = w5_0_22 from vi_e hs5_0_22]; first | exact t21 | omega); have q21 := (f31.two f105).eq f118 (by show (xi (E5_ 0) 22).toInt = -1; rw [show xi (E5_ 0) 22 = w5_0_22 from vi_e hs5_0_22]; first | exact t21 | omega); omega)) k125 k126 f137 f138 (by have q20 := f31.eq f105 (by show (xi (E5_ 0) 22).toInt = -1; rw [show xi (E5_ 0) 22 = w5_0_22 from vi_e hs5_0_22]; first | exact t21 | omega); have q21 := (f31.two f105).eq f118 (by show (xi (E5_ 0) 22).toInt = -1; rw [show xi (E5_ 0) 22 = w5_0_22 from vi_e hs5_0_22]; first | exact t21 | omega); first | (exfalso; omega) | (rw [show r110.toInt = 45 by omega]; exact jn_sub (ey142.trans (by rw [ey141, ey139])) f144)) (by have q20 := f31.eq f105 (by show (xi (E5_ 0) 22).toInt = -1; rw [show xi (E5_ 0) 22 = w5_0_22 from vi_e hs5_0_22]; first | exact t21 | omega); have q21 := (f31.two f105).eq f118 (by show (xi (E5_ 0) 22).toInt = -1; rw [show xi (E5_ 0) 22 = w5_0_22 from vi_e hs5_0_22]; first | exact t21 | omega); omega) (by have q20 := f31.eq f105 (by show (xi (E5_ 0) 22).toInt = -1; rw [show xi (E5_ 0) 22 = w5_0_22 from vi_e hs5_0_22]; first | exact t21 | omega); have q21 := (f31.two f105).eq f118 (by show (xi (E5_ 0) 22).toInt = -1; rw [show xi (E5_ 0) 22 = w5_0_22 from vi_e hs5_0_22]; first | exact t21 | omega); omega) (fun t m a c h => opL_1 (termS_mono true t m n) rfl h)) (by omega) hI hKp fy130 fy131 fy132 hP hS (lv_sub hl [0, 3] rfl)
              · --63 not
                exact absurd c140 (by decide)
            · --37 not
              have t145 : r110.toInt = 43 := ti_eq c119
              have i146 : 43 ≤ r110.toInt ∧ r110.toInt ≤ 43 := iv_eqi t145 f114 (il_ 43) (by decide)
              refine lv_iconst (v := 1) hx hb dX13_sum_40 (by decide) ?_
              refine lv_goto (tgt := 45) hx hb dX13_sum_41 (by decide) ?_
              refine lv_istore_n (lv' := [(2, .int 1), (1, .int v5_1), (0, .ref (ad 0))]) hx hb dX13_sum_45 rfl hl (by decide) rfl (fun ls hl => ?_)
              refine lv_aload_n hx hb dX13_sum_46 rfl (lv_at hl 2 rfl) ?_
              refine lv_dup hx hb dX13_sum_47 rfl ?_
              refine th_get (ci := 14) (C := RX13) (T := TX13) (N := 97) (v := .int y113) hx hb hts hinX13 hown hK hP hI 0 (Nat.le_of_ble_eq_true rfl) rfl rfl 21 (Nat.le_of_ble_eq_true rfl) (hts _ (vA_in _ _ (in_25 _ (zs16 (zs16 (zs4 (zs0))))))) (fun _ h9 => h9) fy113 dX13_sum_48 ?_
              refine lv_iconst (v := 1) hx hb dX13_sum_51 (by decide) ?_
              refine lv_iadd hx hb dX13_sum_52 ?_
              refine lv_topi (fun y147 ey147 => ?_)
              obtain ⟨ty147, iy147⟩ := ti_add (e := 1) (f := 202) iy113 ln_1 ey147 (by decide)
              have ty147 : y147.toInt = y113.toInt + 1 := ty147
              have iy147 : 1 ≤ y147.toInt ∧ y147.toInt ≤ 202 := iy147
              have i148 : 1 ≤ y147.toInt ∧ y147.toInt ≤ 201 := by omega
              refine th_put (ci := 14) (C := RX13) (T := TX13) (N := 97) (v := .int y147) (ty := .int) hx hb hts hinX13 tyX13 tyX13_ok nmX13 hown hK hP (WX_D hD) hS hI 0 (Nat.le_of_ble_eq_true rfl) rfl rfl 21 (Nat.le_of_ble_eq_true rfl) (hts _ (vA_in _ _ (in_25 _ (zs16 (zs16 (zs4 (zs0))))))) (fun _ h9 => h9) rfl (by decide +kernel) rfl rfl (okI rfl (iv_w i148 (by decide))) dX13_sum_53 (fun H locs E149 pw150 hI hP hS => ?_)
              have hKp := hKp.pw pw150 rfl
              have k151 : AtM k E111 E149 := AtM.pw pw150.2 hk0 (vi_e fy113) (vi_e pw150.1) ty147 (by omega)
              have k152 : MZ E E149 := MZ.kp hKp (fun _ => rfl)
              refine lv_aload_n hx hb dX13_sum_56 rfl (lv_at hl 2 rfl) ?_
              refine th_i (va_runV (As := []) (rest := []) ⟨hx, hb, hml, hown, hts⟩ (gT dC dI cT ad E149 H.size k nl hI (by exact hh0) (by exact hh1) (by exact hh2) (by exact (hKp 0 18 rfl).trans hh3) (by (try rw [hKp.ei 0 19 rfl]); exact hh4) (by (try rw [(show xi (E149 0) 23 = w5_0_23 from vi_e ((pw150.2 0 23 (fun q9 => absurd q9.2 (Nat.ne_of_beq_eq_false rfl))).trans ((kq112 0 23 rfl).trans ((kq99 0 23 rfl).trans ((kq25 0 23 rfl).trans hs5_0_23)))))]); omega) (by (try rw [(show xi (E149 0) 22 = w5_0_22 from vi_e ((pw150.2 0 22 (fun q9 => absurd q9.2 (Nat.ne_of_beq_eq_false rfl))).trans ((kq112 0 22 rfl).trans ((kq99 0 22 rfl).trans ((kq25 0 22 rfl).trans hs5_0_22)))))]); omega)) (cwV 0 hts (gi_V (in_26 _ (zs16 (zs4 (zs4 (zs4 (zs0)))))) (in_26 _ (zs16 (zs4 (zs4 (zs4 (zs1 (zs0))))))) (in_26 _ (zs16 (zs4 (zs4 (zs4 (zs1 (zs1 (zs0)))))))) (in_24 _ (zs4 (zs4 (zs4 (zs1 (zs1 (zs1 (zs0)))))))) (in_27 _ (zs1 (zs1 (zs0))))) rfl rfl rfl (by decide +kernel) ⟨(show 7 * n + 6 + 1 ≤ 7 * n + 7 from nl_4 (Nat.le_of_ble_eq_true rfl) (Nat.le_of_ble_eq_true rfl)), (show 8 + (5 + 11) + 40 * (7 * n + 6) ≤ 40 * (7 * n + 7) from nl_3 (Nat.le_of_ble_eq_true rfl) (Nat.le_of_ble_eq_true rfl))⟩) ⟨HW_bl, va_recv hK hP (ci := 14) (q0 := 0) rfl (hI.ob 0 (Nat.le_of_ble_eq_true rfl) rfl), (HW_wi hP hK (WX_D hD) hS hA hEV)⟩ rfl rfl hl.1 rfl (lv_room (Nat.le_of_ble_eq_true rfl)) dX13_sum_57 ⟨Nat.le_of_ble_eq_true rfl, Nat.le_of_ble_eq_true rfl⟩) (WX_D hD) hS hA (fun r153 E154 H locs hw hP hS => ?_)
              obtain ⟨hI, kq155, hw⟩ := hw
              have hKb := hKp
              have hKp := hKp.tr kq155 (wl_sub rfl rfl)
              obtain ⟨y156, ey156⟩ : ∃ y, xi (E154 0) 21 = y := ⟨_, rfl⟩
              have fy156 : xv (E154 0) 21 = .int y156 := (hI.fi 0 (Nat.le_of_ble_eq_true rfl) rfl (Nat.le_of_ble_eq_true rfl) rfl).trans (congrArg Value.int ey156)
              have iy156 : 0 ≤ y156.toInt ∧ y156.toInt ≤ 201 := by rw [← ey156]; exact hI.iv 0 (Nat.le_of_ble_eq_true rfl) rfl (Nat.le_of_ble_eq_true rfl) rfl
              obtain ⟨y157, ey157⟩ : ∃ y, xi (E154 0) 22 = y := ⟨_, rfl⟩
              have fy157 : xv (E154 0) 22 = .int y157 := (hI.fi 0 (Nat.le_of_ble_eq_true rfl) rfl (Nat.le_of_ble_eq_true rfl) rfl).trans (congrArg Value.int ey157)
              have iy157 : -1 ≤ y157.toInt ∧ y157.toInt ≤ 201 := by rw [← ey157]; exact hI.iv 0 (Nat.le_of_ble_eq_true rfl) rfl (Nat.le_of_ble_eq_true rfl) rfl
              obtain ⟨y158, ey158⟩ : ∃ y, xi (E154 0) 23 = y := ⟨_, rfl⟩
              have fy158 : xv (E154 0) 23 = .int y158 := (hI.fi 0 (Nat.le_of_ble_eq_true rfl) rfl (Nat.le_of_ble_eq_true rfl) rfl).trans (congrArg Value.int ey158)
              have iy158 : 0 ≤ y158.toInt ∧ y158.toInt ≤ 8 := by rw [← ey158]; exact hI.iv 0 (Nat.le_of_ble_eq_true rfl) rfl (Nat.le_of_ble_eq_true rfl) rfl
              obtain ⟨f159, f160, f161, f162, f163, f164⟩ := hw
              try rw [(show xi (E149 0) 21 = y147 from vi_e pw150.1)] at f159
              try rw [(show xi (E154 0) 21 = y156 from vi_e fy156)] at f159
              try rw [(show xi (E149 0) 23 = w5_0_23 from vi_e ((pw150.2 0 23 (fun q9 => absurd q9.2 (Nat.ne_of_beq_eq_false rfl))).trans ((kq112 0 23 rfl).trans ((kq99 0 23 rfl).trans ((kq25 0 23 rfl).trans hs5_0_23)))))] at f160
              try rw [(show xi (E154 0) 23 = y158 from vi_e fy158)] at f160
              try rw [(show xi (E149 0) 22 = w5_0_22 from vi_e ((pw150.2 0 22 (fun q9 => absurd q9.2 (Nat.ne_of_beq_eq_false rfl))).trans ((kq112 0 22 rfl).trans ((kq99 0 22 rfl).trans ((kq25 0 22 rfl).trans hs5_0_22)))))] at f161
              try rw [(show xi (E149 0) 23 = w5_0_23 from vi_e ((pw150.2 0 23 (fun q9 => absurd q9.2 (Nat.ne_of_beq_eq_false rfl))).trans ((kq112 0 23 rfl).trans ((kq99 0 23 rfl).trans ((kq25 0 23 rfl).trans hs5_0_23)))))] at f161
              try rw [(show xi (E154 0) 22 = y157 from vi_e fy157)] at f161
              try rw [(show xi (E154 0) 23 = y158 from vi_e fy158)] at f161
              try rw [(show xi (E149 0) 22 = w5_0_22 from vi_e ((pw150.2 0 22 (fun q9 => absurd q9.2 (Nat.ne_of_beq_eq_false rfl))).trans ((kq112 0 22 rfl).trans ((kq99 0 22 rfl).trans ((kq25 0 22 rfl).trans hs5_0_22)))))] at f162
              try rw [(show xi (E154 0) 22 = y157 from vi_e fy157)] at f162
              refine lv_i2l hx hb dX13_sum_60 rfl ?_
              refine lv_topl (fun y165 ey165 => ?_)
              refine lv_lstore_n (lv' := [(3, .long y165), (2, .int 1), (1, .int v5_1), (0, .ref (ad 0))]) hx hb dX13_sum_61 rfl hl (by decide) rfl (fun ls hl => ?_)
              refine lv_iload_n hx hb dX13_sum_62 rfl (lv_at hl 1 rfl) ?_
              refine lv_if_eq (tgt := 73) hx hb dX13_sum_63 (by decide) (fun c166 => ?_) (fun c166 => ?_)
              · --63 taken
                exact absurd c166 (by decide)
              · --63 not
                refine lv_iload_n hx hb dX13_sum_66 rfl (lv_at hl 2 rfl) ?_
                refine lv_i2l hx hb dX13_sum_67 rfl ?_
                refine lv_topl (fun y167 ey167 => ?_)
                refine lv_lload_n hx hb dX13_sum_68 rfl (lv_at hl 0 rfl) ?_
                refine lv_ladd hx hb dX13_sum_69 ?_
                refine lv_topl (fun y168 ey168 => ?_)
                refine lv_goto (tgt := 77) hx hb dX13_sum_70 (by decide) ?_
                refine th_pi (va_runS (As := [.long y168]) (rest := []) ⟨hx, hb, hml, hown, hts⟩ (q_boundX l y168) (va_cwS 1 hts (gi_S (in_26 _ (zs16 (zs4 (zs4 (zs4 (zs1 (zs1 (zs1 (zs0))))))))) (in_26 _ (zs16 (zs16 (zs0)))) (in_24 _ (zs4 (zs4 (zs4 (zs1 (zs1 (zs1 (zs0)))))))) (in_26 _ (zs16 (zs16 (zs1 (zs0)))))) rfl rfl rfl hz_yX13_bound_1 ⟨(show 1 + 1 ≤ 7 * n + 7 from nl_1 (Nat.le_of_ble_eq_true rfl)), (show 8 + (2 + 11) + 40 * (1) ≤ 40 * (7 * n + 7) from nl_2 (Nat.le_of_ble_eq_true rfl))⟩) ⟨fun _ _ _ _ q => q, fun _ _ _ => ⟨rfl, trivial⟩⟩ rfl rfl hl.1 rfl (lv_room (Nat.le_of_ble_eq_true rfl)) dX13_sum_77 ⟨Nat.le_of_ble_eq_true rfl, Nat.le_of_ble_eq_true rfl⟩) hS (fun r169 H1 locs1 hw hk1 hS => ?_)
                have hP := ub_keep hP hk1
                generalize H1 = H at hP hS ⊢
                generalize locs1 = locs at hS ⊢
                have f170 := hw
                refine lv_istore_n (lv' := [(1, .int r169), (3, .long y165), (2, .int 1), (0, .ref (ad 0))]) hx hb dX13_sum_80 rfl hl (by decide) rfl (fun ls hl => ?_)
                refine lv_goto (tgt := 5) hx hb dX13_sum_81 (by decide) ?_
                exact ih5 y156 y157 y158 r169 E154 _ _ _ iy156 iy157 iy158 (by  first | exact (Int.le_trans (Int.le_trans (Int.le_trans (Int.le_trans (Int.le_trans hx5_0 f28) f102) f115) (Int.le_trans (Int.le_add_of_nonneg_right (by decide)) (Int.le_of_eq ty147.symm))) f159) | omega) (by  first | exact (Int.le_trans hx5_1 f160) | omega) (by  first | exact fun q9 => ((f161 (q9)).trans (hx5_2 (f162 (q9)))) | omega) (by  first | exact fun q9 => hx5_3 (f162 (q9)) | omega) (LpM.step (op := isAdd) (cb := jb) hx5_4 ((f31.two f105).two f118) (is_add.mpr (by have q20 := f31.eq f105 (by show (xi (E5_ 0) 22).toInt = -1; rw [show xi (E5_ 0) 22 = w5_0_22 from vi_e hs5_0_22]; first | exact t21 | omega); have q21 := (f31.two f105).eq f118 (by show (xi (E5_ 0) 22).toInt = -1; rw [show xi (E5_ 0) 22 = w5_0_22 from vi_e hs5_0_22]; first | exact t21 | omega); omega)) (by show (xi (E5_ 0) 22).toInt = -1; rw [show xi (E5_ 0) 22 = w5_0_22 from vi_e hs5_0_22]; first | exact t21 | omega) k151 f163 KM.rf (by decide) (fun t m => termS_mono true t m n) (fun t m a c h => opL_1 (termS_mono true t m n) rfl h)) (LpW.step (op := isAdd) hx5_4 hx5_5 ((f31.two f105).two f118) (is_add.mpr (by have q20 := f31.eq f105 (by show (xi (E5_ 0) 22).toInt = -1; rw [show xi (E5_ 0) 22 = w5_0_22 from vi_e hs5_0_22]; first | exact t21 | omega); have q21 := (f31.two f105).eq f118 (by show (xi (E5_ 0) 22).toInt = -1; rw [show xi (E5_ 0) 22 = w5_0_22 from vi_e hs5_0_22]; first | exact t21 | omega); omega)) k151 k152 f163 f164 (by have q20 := f31.eq f105 (by show (xi (E5_ 0) 22).toInt = -1; rw [show xi (E5_ 0) 22 = w5_0_22 from vi_e hs5_0_22]; first | exact t21 | omega); have q21 := (f31.two f105).eq f118 (by show (xi (E5_ 0) 22).toInt = -1; rw [show xi (E5_ 0) 22 = w5_0_22 from vi_e hs5_0_22]; first | exact t21 | omega); first | (exfalso; omega) | (rw [show r110.toInt = 43 by omega]; exact jn_add (ey168.trans (by rw [ey167, ey165])) f170)) (by have q20 := f31.eq f105 (by show (xi (E5_ 0) 22).toInt = -1; rw [show xi (E5_ 0) 22 = w5_0_22 from vi_e hs5_0_22]; first | exact t21 | omega); have q21 := (f31.two f105).eq f118 (by show (xi (E5_ 0) 22).toInt = -1; rw [show xi (E5_ 0) 22 = w5_0_22 from vi_e hs5_0_22]; first | exact t21 | omega); omega) (by have q20 := f31.eq f105 (by show (xi (E5_ 0) 22).toInt = -1; rw [show xi (E5_ 0) 22 = w5_0_22 from vi_e hs5_0_22]; first | exact t21 | omega); have q21 := (f31.two f105).eq f118 (by show (xi (E5_ 0) 22).toInt = -1; rw [show xi (E5_ 0) 22 = w5_0_22 from vi_e hs5_0_22]; first | exact t21 | omega); omega) (fun t m a c h => opL_1 (termS_mono true t m n) rfl h)) (by omega) hI hKp fy156 fy157 fy158 hP hS (lv_sub hl [0, 3] rfl)
  exact hL5 (202) y7 y8 y9 r4 E5 _ _ _ iy7 iy8 iy9 (by  first | exact f10 | omega) (by  first | exact f11 | omega) (by  first | exact fun q9 => (f12 (q9)) | omega) (by  first | exact fun q9 => f13 (q9) | omega) (LpM.start f14 lmS (Int.le_refl _)) (LpW.start f15 lmS) (by have h9 := iy7; omega) hI hKp fy7 fy8 fy9 hP hS (lv_sub hl [0, 1] rfl)
set_option maxHeartbeats 4000000 in
set_option maxRecDepth 100000 in
theorem q_comparesW (l : Launch) (n : Nat) (gS : C_sumW l n) : C_comparesW l n := by
  intro dC dI cT ad E sz a0 a1 k nl hI0 hh0 hh1 hh2 hh3 hh4 hh5 hh6 hh7
  refine Met.ofW (cc := cX13_compares) (maxL := 6) (ret := (some .boolean)) (by decide) rfl ?_
  intro p e s m args below meth c s₁ B hml hv
  obtain ⟨hargs, hsz, hP, hK, hD0, hEV⟩ := hv
  subst hsz
  have hx := B.exec
  have hb := B.bytes
  have hr := B.returns
  have hts := atoms_spec (ws := v_comparesW) B.pre
  have hown : s.vm.findClass RX13 = some m.cls := findClass_of_methodNamed B.named
  have hlocks := B.notSynchronized
  have hinX13 : ∀ w ∈ u_ws RX13 TX13 97, w ∈ v_comparesW := fun w h => vA_in _ w (in_X13 w h)
  generalize hAe : va_A (WX 72 ad E) s.heap.size = A at hEV ⊢
  have hA : ∀ q : Nat, s.heap.size ≤ q → A q := fun q h => by rw [← hAe]; exact Or.inr h
  have hD : va_D A (WX 72 ad E) := by rw [← hAe]; exact hD0.self
  have hS : va_S A s.heap s.heap [] := va_S.rf
  have hI := hI0
  have hKp : Kp w_comparesW E E := Kp.rf
  have hl := lv_entry ([.ref (ad 0), .int a0, .int a1]) (n := 6) (Nat.le_of_ble_eq_true rfl)
  obtain ⟨Q, hQ⟩ : ∃ Q, Q = MQ below (va_Qi (S := Nat → va_E) (fun r u => IX cT shM spM 72 ad u ∧ Kp w_comparesW E u ∧ ((0 ≤ r.toInt ∧ r.toInt ≤ 1) ∧ ((xi (E 0) 21).toInt ≤ (xi (u 0) 21).toInt) ∧ ((xi (E 0) 23).toInt ≤ (xi (u 0) 23).toInt) ∧ ((xi (u 0) 22).toInt = -1 → (xi (u 0) 23).toInt = (xi (E 0) 23).toInt) ∧ ((xi (u 0) 22).toInt = -1 → (xi (E 0) 22).toInt = -1) ∧ (RdM k (cpX a0 n) E u) ∧ (RdW k (pr a0 a1) (cpX a0 n) E u r))) (HB dC dI 72 ad) (A)) args s 0 0 (A) := ⟨_, rfl⟩
  rw [← hQ, show entryFrame m args 6 = _ from (congrArg (fun z => entryFrame m z 6) hargs).trans (lg_entry_eq _ _ _)]
  generalize (lg_sl ([.ref (ad 0), .int a0, .int a1]) ++ List.replicate (6 - (lg_sl ([.ref (ad 0), .int a0, .int a1])).length) Slot.unset).toArray = ls at hl ⊢
  have hl : lv_has ls 6 [(0, .ref (ad 0)), (1, .int a0), (2, .int a1)] := hl
  obtain ⟨y1, ey1⟩ : ∃ y, xi (E 0) 21 = y := ⟨_, rfl⟩
  have fy1 : xv (E 0) 21 = .int y1 := (hI.fi 0 (Nat.le_of_ble_eq_true rfl) rfl (Nat.le_of_ble_eq_true rfl) rfl).trans (congrArg Value.int ey1)
  have iy1 : 0 ≤ y1.toInt ∧ y1.toInt ≤ 201 := by rw [← ey1]; exact hI.iv 0 (Nat.le_of_ble_eq_true rfl) rfl (Nat.le_of_ble_eq_true rfl) rfl
  obtain ⟨y2, ey2⟩ : ∃ y, xi (E 0) 22 = y := ⟨_, rfl⟩
  have fy2 : xv (E 0) 22 = .int y2 := (hI.fi 0 (Nat.le_of_ble_eq_true rfl) rfl (Nat.le_of_ble_eq_true rfl) rfl).trans (congrArg Value.int ey2)
  have iy2 : -1 ≤ y2.toInt ∧ y2.toInt ≤ 201 := by rw [← ey2]; exact hI.iv 0 (Nat.le_of_ble_eq_true rfl) rfl (Nat.le_of_ble_eq_true rfl) rfl
  rw [ey2] at hh6
  obtain ⟨y3, ey3⟩ : ∃ y, xi (E 0) 23 = y := ⟨_, rfl⟩
  have fy3 : xv (E 0) 23 = .int y3 := (hI.fi 0 (Nat.le_of_ble_eq_true rfl) rfl (Nat.le_of_ble_eq_true rfl) rfl).trans (congrArg Value.int ey3)
  have iy3 : 0 ≤ y3.toInt ∧ y3.toInt ≤ 8 := by rw [← ey3]; exact hI.iv 0 (Nat.le_of_ble_eq_true rfl) rfl (Nat.le_of_ble_eq_true rfl) rfl
  rw [ey3] at hh5
  have hk0 : ¬ k = 0 := fun q9 => by rw [q9] at hh1; exact absurd (show (shM 0).1 = 1 from congrArg Prod.fst hh1) (by decide)
  refine lv_iload_n hx hb dX13_compares_0 rfl (lv_at hl 1 rfl) ?_
  refine lv_if_eq (tgt := 8) hx hb dX13_compares_1 (by decide) (fun c4 => ?_) (fun c4 => ?_)
  · --1 taken
    have t5 : a0.toInt = 0 := ti_eq c4
    have i6 : 0 ≤ a0.toInt ∧ a0.toInt ≤ 0 := iv_eqi t5 hh7 (il_ 0) (by decide)
    refine lv_aload_n hx hb dX13_compares_8 rfl (lv_at hl 0 rfl) ?_
    refine th_i (va_runV (As := []) (rest := []) ⟨hx, hb, hml, hown, hts⟩ (gS dC dI cT ad E s.heap.size k nl hI (by exact hh0) (by exact hh1) (by exact hh2) (by exact hh3) (by exact hh4) (by (try rw [(show xi (E 0) 23 = y3 from vi_e fy3)]); omega) (by (try rw [(show xi (E 0) 22 = y2 from vi_e fy2)]); omega)) (cwV 0 hts (gi_V (in_26 _ (zs16 (zs0))) (in_26 _ (zs16 (zs1 (zs0)))) (in_26 _ (zs16 (zs1 (zs1 (zs0))))) (in_24 _ (zs4 (zs4 (zs4 (zs1 (zs1 (zs1 (zs0)))))))) (in_26 _ (zs16 (zs4 (zs4 (zs1 (zs1 (zs1 (zs0))))))))) rfl rfl rfl (by decide +kernel) ⟨(show 7 * n + 7 + 1 ≤ 7 * n + 8 from nl_4 (Nat.le_of_ble_eq_true rfl) (Nat.le_of_ble_eq_true rfl)), (show 8 + (5 + 11) + 40 * (7 * n + 7) ≤ 40 * (7 * n + 8) from nl_3 (Nat.le_of_ble_eq_true rfl) (Nat.le_of_ble_eq_true rfl))⟩) ⟨HW_bl, va_recv hK hP (ci := 14) (q0 := 0) rfl (hI.ob 0 (Nat.le_of_ble_eq_true rfl) rfl), (HW_wi hP hK (WX_D hD) hS hA hEV)⟩ rfl rfl hl.1 rfl (lv_room (Nat.le_of_ble_eq_true rfl)) dX13_compares_9 ⟨Nat.le_of_ble_eq_true rfl, Nat.le_of_ble_eq_true rfl⟩) (WX_D hD) hS hA (fun r7 E8 H locs hw hP hS => ?_)
    obtain ⟨hI, kq9, hw⟩ := hw
    have hKb := hKp
    have hKp := hKp.tr kq9 (wl_sub rfl rfl)
    obtain ⟨y10, ey10⟩ : ∃ y, xi (E8 0) 21 = y := ⟨_, rfl⟩
    have fy10 : xv (E8 0) 21 = .int y10 := (hI.fi 0 (Nat.le_of_ble_eq_true rfl) rfl (Nat.le_of_ble_eq_true rfl) rfl).trans (congrArg Value.int ey10)
    have iy10 : 0 ≤ y10.toInt ∧ y10.toInt ≤ 201 := by rw [← ey10]; exact hI.iv 0 (Nat.le_of_ble_eq_true rfl) rfl (Nat.le_of_ble_eq_true rfl) rfl
    obtain ⟨y11, ey11⟩ : ∃ y, xi (E8 0) 22 = y := ⟨_, rfl⟩
    have fy11 : xv (E8 0) 22 = .int y11 := (hI.fi 0 (Nat.le_of_ble_eq_true rfl) rfl (Nat.le_of_ble_eq_true rfl) rfl).trans (congrArg Value.int ey11)
    have iy11 : -1 ≤ y11.toInt ∧ y11.toInt ≤ 201 := by rw [← ey11]; exact hI.iv 0 (Nat.le_of_ble_eq_true rfl) rfl (Nat.le_of_ble_eq_true rfl) rfl
    obtain ⟨y12, ey12⟩ : ∃ y, xi (E8 0) 23 = y := ⟨_, rfl⟩
    have fy12 : xv (E8 0) 23 = .int y12 := (hI.fi 0 (Nat.le_of_ble_eq_true rfl) rfl (Nat.le_of_ble_eq_true rfl) rfl).trans (congrArg Value.int ey12)
    have iy12 : 0 ≤ y12.toInt ∧ y12.toInt ≤ 8 := by rw [← ey12]; exact hI.iv 0 (Nat.le_of_ble_eq_true rfl) rfl (Nat.le_of_ble_eq_true rfl) rfl
    obtain ⟨f13, f14, f15, f16, f17, f18⟩ := hw
    have i19 : 0 ≤ (xi (E 0) 19).toInt ∧ (xi (E 0) 19).toInt ≤ 3000 := (show 0 ≤ (xi (E 0) 19).toInt ∧ (xi (E 0) 19).toInt ≤ 3000 from hI0.iv 0 (Nat.le_of_ble_eq_true rfl) rfl (Nat.le_of_ble_eq_true rfl) rfl)
    have i20 : 0 ≤ (xi (E 0) 20).toInt ∧ (xi (E 0) 20).toInt ≤ 200 := (show 0 ≤ (xi (E 0) 20).toInt ∧ (xi (E 0) 20).toInt ≤ 200 from hI0.iv 0 (Nat.le_of_ble_eq_true rfl) rfl (Nat.le_of_ble_eq_true rfl) rfl)
    try rw [(show xi (E 0) 21 = y1 from vi_e fy1)] at f13
    try rw [(show xi (E8 0) 21 = y10 from vi_e fy10)] at f13
    try rw [(show xi (E 0) 23 = y3 from vi_e fy3)] at f14
    try rw [(show xi (E8 0) 23 = y12 from vi_e fy12)] at f14
    try rw [(show xi (E 0) 22 = y2 from vi_e fy2)] at f15
    try rw [(show xi (E 0) 23 = y3 from vi_e fy3)] at f15
    try rw [(show xi (E8 0) 22 = y11 from vi_e fy11)] at f15
    try rw [(show xi (E8 0) 23 = y12 from vi_e fy12)] at f15
    try rw [(show xi (E 0) 22 = y2 from vi_e fy2)] at f16
    try rw [(show xi (E8 0) 22 = y11 from vi_e fy11)] at f16
    refine lv_istore_n (lv' := [(3, .int r7), (0, .ref (ad 0)), (1, .int a0), (2, .int a1)]) hx hb dX13_compares_12 rfl hl (by decide) rfl (fun ls hl => ?_)
    have k21 : MZ E E8 := MZ.kp hKp (fun _ => rfl)
    refine lv_aload_n hx hb dX13_compares_13 rfl (lv_at hl 1 rfl) ?_
    refine th_get (ci := 14) (C := RX13) (T := TX13) (N := 97) (v := .int y11) hx hb hts hinX13 hown hK hP hI 0 (Nat.le_of_ble_eq_true rfl) rfl rfl 22 (Nat.le_of_ble_eq_true rfl) (hts _ (vA_in _ _ (in_25 _ (zs16 (zs16 (zs4 (zs1 (zs1 (zs1 (zs0)))))))))) (fun _ h9 => h9) fy11 dX13_compares_14 ?_
    refine lv_iconst (v := -1) hx hb dX13_compares_17 (by decide) ?_
    refine lv_icmp_eq (tgt := 23) hx hb dX13_compares_18 (by decide) (fun c22 => ?_) (fun c22 => ?_)
    · --18 taken
      have t23 : y11.toInt = -1 := ti_eq c22
      have i24 : -1 ≤ y11.toInt ∧ y11.toInt ≤ -1 := iv_eqi t23 iy11 (il_ (-1)) (by decide)
      refine lv_aload_n hx hb dX13_compares_23 rfl (lv_at hl 1 rfl) ?_
      refine th_i (va_runV (As := []) (rest := []) ⟨hx, hb, hml, hown, hts⟩ (q_lookX l dC dI cT ad E8 H.size k nl hI (by exact hh0) (by exact hh1) (by exact hh2) (by exact (hKp 0 18 rfl).trans hh3) (by (try rw [hKp.ei 0 19 rfl]); exact hh4)) (cwV 0 hts (gi_V (in_26 _ (zs1 (zs1 (zs0)))) (in_26 _ (zs1 (zs1 (zs1 (zs0))))) (in_26 _ (zs4 (zs0))) (in_24 _ (zs4 (zs4 (zs4 (zs1 (zs1 (zs1 (zs0)))))))) (in_26 _ (zs4 (zs1 (zs0))))) rfl rfl rfl ⟨rfl, hz_yX13_look_0⟩ ⟨(show 0 + 1 ≤ 7 * n + 8 from nl_1 (Nat.le_of_ble_eq_true rfl)), (show 8 + (1 + 11) + 40 * (0) ≤ 40 * (7 * n + 8) from nl_2 (Nat.le_of_ble_eq_true rfl))⟩) ⟨HW_bl, va_recv hK hP (ci := 14) (q0 := 0) rfl (hI.ob 0 (Nat.le_of_ble_eq_true rfl) rfl), (HW_wi hP hK (WX_D hD) hS hA hEV)⟩ rfl rfl hl.1 rfl (lv_room (Nat.le_of_ble_eq_true rfl)) dX13_compares_24 ⟨Nat.le_of_ble_eq_true rfl, Nat.le_of_ble_eq_true rfl⟩) (WX_D hD) hS hA (fun r25 E26 H locs hw hP hS => ?_)
      obtain ⟨hI, kq27, hw⟩ := hw
      have hKb := hKp
      have hKp := hKp.tr kq27 (wl_sub rfl rfl)
      obtain ⟨y28, ey28⟩ : ∃ y, xi (E26 0) 21 = y := ⟨_, rfl⟩
      have fy28 : xv (E26 0) 21 = .int y28 := (hI.fi 0 (Nat.le_of_ble_eq_true rfl) rfl (Nat.le_of_ble_eq_true rfl) rfl).trans (congrArg Value.int ey28)
      have iy28 : 0 ≤ y28.toInt ∧ y28.toInt ≤ 201 := by rw [← ey28]; exact hI.iv 0 (Nat.le_of_ble_eq_true rfl) rfl (Nat.le_of_ble_eq_true rfl) rfl
      obtain ⟨f29, f30, f31, f32, f33⟩ := hw
      try rw [(show xi (E8 0) 21 = y10 from vi_e fy10)] at f30
      try rw [(show xi (E26 0) 21 = y28 from vi_e fy28)] at f30
      try rw [(show xi (E8 0) 21 = y10 from vi_e fy10)] at f31
      try rw [hKb.ei 0 20 rfl] at f31
      try rw [(show xi (E26 0) 21 = y28 from vi_e fy28)] at f31
      try rw [(show xi (E8 0) 21 = y10 from vi_e fy10)] at f32
      try rw [hKb.ei 0 20 rfl] at f32
      try rw [(show xi (E26 0) 21 = y28 from vi_e fy28)] at f32
      refine lv_istore (lv' := [(4, .int r25), (3, .int r7), (0, .ref (ad 0)), (1, .int a0), (2, .int a1)]) hx hb dX13_compares_27 hl (by decide) rfl (fun ls hl => ?_)
      refine lv_iload hx hb dX13_compares_29 (lv_at hl 0 rfl) ?_
      refine th_pi (va_runS (As := [.int r25]) (rest := []) ⟨hx, hb, hml, hown, hts⟩ (q_isSignX l r25) (va_cwS 1 hts (gi_S (in_29 _ (zs16 (zs4 (zs4 (zs4 (zs1 (zs1 (zs0)))))))) (in_29 _ (zs16 (zs4 (zs4 (zs4 (zs1 (zs1 (zs1 (zs0))))))))) (in_24 _ (zs4 (zs4 (zs4 (zs1 (zs1 (zs1 (zs0)))))))) (in_29 _ (zs16 (zs16 (zs0))))) rfl rfl rfl hz_yX13_isSign_1 ⟨(show 0 + 1 ≤ 7 * n + 8 from nl_1 (Nat.le_of_ble_eq_true rfl)), (show 8 + (1 + 11) + 40 * (0) ≤ 40 * (7 * n + 8) from nl_2 (Nat.le_of_ble_eq_true rfl))⟩) ⟨fun _ _ _ _ q => q, fun _ _ _ => ⟨rfl, trivial⟩⟩ rfl rfl hl.1 rfl (lv_room (Nat.le_of_ble_eq_true rfl)) dX13_compares_31 ⟨Nat.le_of_ble_eq_true rfl, Nat.le_of_ble_eq_true rfl⟩) hS (fun r34 H1 locs1 hw hk1 hS => ?_)
      have hP := ub_keep hP hk1
      generalize H1 = H at hP hS ⊢
      generalize locs1 = locs at hS ⊢
      rcases hw with hw | hw
      · -- isSignX, case 0
        obtain ⟨rfl, f35⟩ := hw
        refine lv_if_ne (tgt := 42) hx hb dX13_compares_34 (by decide) (fun c36 => ?_) (fun c36 => ?_)
        · --34 taken
          refine lv_aload_n hx hb dX13_compares_42 rfl (lv_at hl 2 rfl) ?_
          refine lv_dup hx hb dX13_compares_43 rfl ?_
          refine th_get (ci := 14) (C := RX13) (T := TX13) (N := 97) (v := .int y28) hx hb hts hinX13 hown hK hP hI 0 (Nat.le_of_ble_eq_true rfl) rfl rfl 21 (Nat.le_of_ble_eq_true rfl) (hts _ (vA_in _ _ (in_25 _ (zs16 (zs16 (zs4 (zs0))))))) (fun _ h9 => h9) fy28 dX13_compares_44 ?_
          refine lv_iconst (v := 1) hx hb dX13_compares_47 (by decide) ?_
          refine lv_iadd hx hb dX13_compares_48 ?_
          refine lv_topi (fun y37 ey37 => ?_)
          obtain ⟨ty37, iy37⟩ := ti_add (e := 1) (f := 202) iy28 ln_1 ey37 (by decide)
          have ty37 : y37.toInt = y28.toInt + 1 := ty37
          have iy37 : 1 ≤ y37.toInt ∧ y37.toInt ≤ 202 := iy37
          have i38 : 1 ≤ y37.toInt ∧ y37.toInt ≤ 201 := by omega
          refine th_put (ci := 14) (C := RX13) (T := TX13) (N := 97) (v := .int y37) (ty := .int) hx hb hts hinX13 tyX13 tyX13_ok nmX13 hown hK hP (WX_D hD) hS hI 0 (Nat.le_of_ble_eq_true rfl) rfl rfl 21 (Nat.le_of_ble_eq_true rfl) (hts _ (vA_in _ _ (in_25 _ (zs16 (zs16 (zs4 (zs0))))))) (fun _ h9 => h9) rfl (by decide +kernel) rfl rfl (okI rfl (iv_w i38 (by decide))) dX13_compares_49 (fun H locs E39 pw40 hI hP hS => ?_)
          have hKp := hKp.pw pw40 rfl
          have k41 : AtM k E26 E39 := AtM.pw pw40.2 hk0 (vi_e fy28) (vi_e pw40.1) ty37 (by omega)
          have k42 : MZ E E39 := MZ.kp hKp (fun _ => rfl)
          refine lv_aload_n hx hb dX13_compares_52 rfl (lv_at hl 2 rfl) ?_
          refine th_i (va_runV (As := []) (rest := []) ⟨hx, hb, hml, hown, hts⟩ (gS dC dI cT ad E39 H.size k nl hI (by exact hh0) (by exact hh1) (by exact hh2) (by exact (hKp 0 18 rfl).trans hh3) (by (try rw [hKp.ei 0 19 rfl]); exact hh4) (by (try rw [(show xi (E39 0) 23 = y12 from vi_e ((pw40.2 0 23 (fun q9 => absurd q9.2 (Nat.ne_of_beq_eq_false rfl))).trans ((kq27 0 23 rfl).trans fy12)))]); omega) (by (try rw [(show xi (E39 0) 22 = y11 from vi_e ((pw40.2 0 22 (fun q9 => absurd q9.2 (Nat.ne_of_beq_eq_false rfl))).trans ((kq27 0 22 rfl).trans fy11)))]); omega)) (cwV 0 hts (gi_V (in_26 _ (zs16 (zs0))) (in_26 _ (zs16 (zs1 (zs0)))) (in_26 _ (zs16 (zs1 (zs1 (zs0))))) (in_24 _ (zs4 (zs4 (zs4 (zs1 (zs1 (zs1 (zs0)))))))) (in_26 _ (zs16 (zs4 (zs4 (zs1 (zs1 (zs1 (zs0))))))))) rfl rfl rfl (by decide +kernel) ⟨(show 7 * n + 7 + 1 ≤ 7 * n + 8 from nl_4 (Nat.le_of_ble_eq_true rfl) (Nat.le_of_ble_eq_true rfl)), (show 8 + (5 + 11) + 40 * (7 * n + 7) ≤ 40 * (7 * n + 8) from nl_3 (Nat.le_of_ble_eq_true rfl) (Nat.le_of_ble_eq_true rfl))⟩) ⟨HW_bl, va_recv hK hP (ci := 14) (q0 := 0) rfl (hI.ob 0 (Nat.le_of_ble_eq_true rfl) rfl), (HW_wi hP hK (WX_D hD) hS hA hEV)⟩ rfl rfl hl.1 rfl (lv_room (Nat.le_of_ble_eq_true rfl)) dX13_compares_53 ⟨Nat.le_of_ble_eq_true rfl, Nat.le_of_ble_eq_true rfl⟩) (WX_D hD) hS hA (fun r43 E44 H locs hw hP hS => ?_)
          obtain ⟨hI, kq45, hw⟩ := hw
          have hKb := hKp
          have hKp := hKp.tr kq45 (wl_sub rfl rfl)
          obtain ⟨y46, ey46⟩ : ∃ y, xi (E44 0) 21 = y := ⟨_, rfl⟩
          have fy46 : xv (E44 0) 21 = .int y46 := (hI.fi 0 (Nat.le_of_ble_eq_true rfl) rfl (Nat.le_of_ble_eq_true rfl) rfl).trans (congrArg Value.int ey46)
          have iy46 : 0 ≤ y46.toInt ∧ y46.toInt ≤ 201 := by rw [← ey46]; exact hI.iv 0 (Nat.le_of_ble_eq_true rfl) rfl (Nat.le_of_ble_eq_true rfl) rfl
          obtain ⟨y47, ey47⟩ : ∃ y, xi (E44 0) 22 = y := ⟨_, rfl⟩
          have fy47 : xv (E44 0) 22 = .int y47 := (hI.fi 0 (Nat.le_of_ble_eq_true rfl) rfl (Nat.le_of_ble_eq_true rfl) rfl).trans (congrArg Value.int ey47)
          have iy47 : -1 ≤ y47.toInt ∧ y47.toInt ≤ 201 := by rw [← ey47]; exact hI.iv 0 (Nat.le_of_ble_eq_true rfl) rfl (Nat.le_of_ble_eq_true rfl) rfl
          obtain ⟨y48, ey48⟩ : ∃ y, xi (E44 0) 23 = y := ⟨_, rfl⟩
          have fy48 : xv (E44 0) 23 = .int y48 := (hI.fi 0 (Nat.le_of_ble_eq_true rfl) rfl (Nat.le_of_ble_eq_true rfl) rfl).trans (congrArg Value.int ey48)
          have iy48 : 0 ≤ y48.toInt ∧ y48.toInt ≤ 8 := by rw [← ey48]; exact hI.iv 0 (Nat.le_of_ble_eq_true rfl) rfl (Nat.le_of_ble_eq_true rfl) rfl
          obtain ⟨f49, f50, f51, f52, f53, f54⟩ := hw
          try rw [(show xi (E39 0) 21 = y37 from vi_e pw40.1)] at f49
          try rw [(show xi (E44 0) 21 = y46 from vi_e fy46)] at f49
          try rw [(show xi (E39 0) 23 = y12 from vi_e ((pw40.2 0 23 (fun q9 => absurd q9.2 (Nat.ne_of_beq_eq_false rfl))).trans ((kq27 0 23 rfl).trans fy12)))] at f50
          try rw [(show xi (E44 0) 23 = y48 from vi_e fy48)] at f50
          try rw [(show xi (E39 0) 22 = y11 from vi_e ((pw40.2 0 22 (fun q9 => absurd q9.2 (Nat.ne_of_beq_eq_false rfl))).trans ((kq27 0 22 rfl).trans fy11)))] at f51
          try rw [(show xi (E39 0) 23 = y12 from vi_e ((pw40.2 0 23 (fun q9 => absurd q9.2 (Nat.ne_of_beq_eq_false rfl))).trans ((kq27 0 23 rfl).trans fy12)))] at f51
          try rw [(show xi (E44 0) 22 = y47 from vi_e fy47)] at f51
          try rw [(show xi (E44 0) 23 = y48 from vi_e fy48)] at f51
          try rw [(show xi (E39 0) 22 = y11 from vi_e ((pw40.2 0 22 (fun q9 => absurd q9.2 (Nat.ne_of_beq_eq_false rfl))).trans ((kq27 0 22 rfl).trans fy11)))] at f52
          try rw [(show xi (E44 0) 22 = y47 from vi_e fy47)] at f52
          refine lv_istore (lv' := [(5, .int r43), (4, .int r25), (3, .int r7), (0, .ref (ad 0)), (1, .int a0), (2, .int a1)]) hx hb dX13_compares_56 hl (by decide) rfl (fun ls hl => ?_)
          refine lv_iload hx hb dX13_compares_58 (lv_at hl 1 rfl) ?_
          refine lv_bipush (v := 61) hx hb dX13_compares_60 (by decide) ?_
          refine lv_icmp_ne (tgt := 79) hx hb dX13_compares_62 (by decide) (fun c55 => ?_) (fun c55 => ?_)
          · --62 taken
            have t56 : ¬ r25.toInt = 61 := ti_ne c55
            refine lv_iload hx hb dX13_compares_79 (lv_at hl 1 rfl) ?_
            refine lv_bipush (v := 60) hx hb dX13_compares_81 (by decide) ?_
            refine lv_icmp_ne (tgt := 100) hx hb dX13_compares_83 (by decide) (fun c57 => ?_) (fun c57 => ?_)
            · --83 taken
              have t58 : ¬ r25.toInt = 60 := ti_ne c57
              refine lv_iload_n hx hb dX13_compares_100 rfl (lv_at hl 2 rfl) ?_
              refine lv_iload hx hb dX13_compares_101 (lv_at hl 0 rfl) ?_
              refine lv_icmp_le (tgt := 110) hx hb dX13_compares_103 (by decide) (fun c59 => ?_) (fun c59 => ?_)
              · --103 taken
                have t60 : r7.toInt ≤ r43.toInt := ti_le c59
                refine lv_iconst (v := 0) hx hb dX13_compares_110 (by decide) ?_
                rw [hQ]
                exact W.zret (v := 0) hx hb hr rfl (fun t ht hW => ⟨⟨0, E44, rfl, ⟨hI, hKp, ⟨(iv_w ln_0 (by decide)), by (try rw [(show xi (E44 0) 21 = y46 from vi_e fy46)]); (try rw [ey1]); first | done | exact (Int.le_trans (Int.le_trans (Int.le_trans f13 f30) (Int.le_trans (Int.le_add_of_nonneg_right (by decide)) (Int.le_of_eq ty37.symm))) f49) | have h8 := ln_0; all_goals omega, by (try rw [(show xi (E44 0) 23 = y48 from vi_e fy48)]); (try rw [ey3]); first | done | exact (Int.le_trans f14 f50) | have h8 := ln_0; all_goals omega, by (try rw [(show xi (E44 0) 22 = y47 from vi_e fy47)]); (try rw [(show xi (E44 0) 23 = y48 from vi_e fy48)]); (try rw [ey2]); (try rw [ey3]); first | done | exact fun q9 => ((f51 (q9)).trans (f15 (f52 (q9)))) | have h8 := ln_0; all_goals omega, by (try rw [(show xi (E44 0) 22 = y47 from vi_e fy47)]); (try rw [ey2]); first | done | exact fun q9 => f16 (f52 (q9)) | have h8 := ln_0; all_goals omega, cpM_0 (by omega) f17 (cmM f33 (is_cmp.mpr (by omega)) k41 f53 KM.rf), cpW_0 (by omega) f17 f18 k21 (cmW f33 (is_cmp.mpr (by omega)) k41 (MZ.of k21 k42) f53 f54 (by rw [show r25.toInt = 62 by omega]; exact jn_gt0 (by omega)) (by omega) (by omega)) (by show (xi (E8 0) 22).toInt = -1; rw [show xi (E8 0) 22 = y11 from vi_e fy11]; first | exact t23 | omega)⟩⟩, by show va_P (dC, dI) vwCl (WX 72 ad E44) t.heap; rw [ht]; exact hP⟩, hS.F ht⟩) hS.2.2 dX13_compares_111
              · --103 not
                have t61 : r43.toInt < r7.toInt := ti_nle c59
                have i62 : -2147483648 ≤ r43.toInt ∧ r43.toInt ≤ 2147483646 := iv_lt_l t61 (iv_all _) (iv_all _) (by decide)
                have i63 : -2147483647 ≤ r7.toInt ∧ r7.toInt ≤ 2147483647 := iv_lt_r t61 (iv_all _) (iv_all _) (by decide)
                refine lv_iconst (v := 1) hx hb dX13_compares_106 (by decide) ?_
                refine lv_goto (tgt := 111) hx hb dX13_compares_107 (by decide) ?_
                rw [hQ]
                exact W.zret (v := 1) hx hb hr rfl (fun t ht hW => ⟨⟨1, E44, rfl, ⟨hI, hKp, ⟨(iv_w ln_1 (by decide)), by (try rw [(show xi (E44 0) 21 = y46 from vi_e fy46)]); (try rw [ey1]); first | done | exact (Int.le_trans (Int.le_trans (Int.le_trans f13 f30) (Int.le_trans (Int.le_add_of_nonneg_right (by decide)) (Int.le_of_eq ty37.symm))) f49) | have h8 := ln_1; all_goals omega, by (try rw [(show xi (E44 0) 23 = y48 from vi_e fy48)]); (try rw [ey3]); first | done | exact (Int.le_trans f14 f50) | have h8 := ln_1; all_goals omega, by (try rw [(show xi (E44 0) 22 = y47 from vi_e fy47)]); (try rw [(show xi (E44 0) 23 = y48 from vi_e fy48)]); (try rw [ey2]); (try rw [ey3]); first | done | exact fun q9 => ((f51 (q9)).trans (f15 (f52 (q9)))) | have h8 := ln_1; all_goals omega, by (try rw [(show xi (E44 0) 22 = y47 from vi_e fy47)]); (try rw [ey2]); first | done | exact fun q9 => f16 (f52 (q9)) | have h8 := ln_1; all_goals omega, cpM_0 (by omega) f17 (cmM f33 (is_cmp.mpr (by omega)) k41 f53 KM.rf), cpW_0 (by omega) f17 f18 k21 (cmW f33 (is_cmp.mpr (by omega)) k41 (MZ.of k21 k42) f53 f54 (by rw [show r25.toInt = 62 by omega]; exact jn_gt1 (by omega)) (by omega) (by omega)) (by show (xi (E8 0) 22).toInt = -1; rw [show xi (E8 0) 22 = y11 from vi_e fy11]; first | exact t23 | omega)⟩⟩, by show va_P (dC, dI) vwCl (WX 72 ad E44) t.heap; rw [ht]; exact hP⟩, hS.F ht⟩) hS.2.2 dX13_compares_111
            · --83 not
              have t64 : r25.toInt = 60 := ti_eq c57
              have i65 : 60 ≤ r25.toInt ∧ r25.toInt ≤ 60 := iv_eqi t64 f29 (il_ 60) (by decide)
              refine lv_iload_n hx hb dX13_compares_86 rfl (lv_at hl 2 rfl) ?_
              refine lv_iload hx hb dX13_compares_87 (lv_at hl 0 rfl) ?_
              refine lv_icmp_ge (tgt := 96) hx hb dX13_compares_89 (by decide) (fun c66 => ?_) (fun c66 => ?_)
              · --89 taken
                have t67 : r43.toInt ≤ r7.toInt := ti_le c66
                refine lv_iconst (v := 0) hx hb dX13_compares_96 (by decide) ?_
                refine lv_goto (tgt := 111) hx hb dX13_compares_97 (by decide) ?_
                rw [hQ]
                exact W.zret (v := 0) hx hb hr rfl (fun t ht hW => ⟨⟨0, E44, rfl, ⟨hI, hKp, ⟨(iv_w ln_0 (by decide)), by (try rw [(show xi (E44 0) 21 = y46 from vi_e fy46)]); (try rw [ey1]); first | done | exact (Int.le_trans (Int.le_trans (Int.le_trans f13 f30) (Int.le_trans (Int.le_add_of_nonneg_right (by decide)) (Int.le_of_eq ty37.symm))) f49) | have h8 := ln_0; all_goals omega, by (try rw [(show xi (E44 0) 23 = y48 from vi_e fy48)]); (try rw [ey3]); first | done | exact (Int.le_trans f14 f50) | have h8 := ln_0; all_goals omega, by (try rw [(show xi (E44 0) 22 = y47 from vi_e fy47)]); (try rw [(show xi (E44 0) 23 = y48 from vi_e fy48)]); (try rw [ey2]); (try rw [ey3]); first | done | exact fun q9 => ((f51 (q9)).trans (f15 (f52 (q9)))) | have h8 := ln_0; all_goals omega, by (try rw [(show xi (E44 0) 22 = y47 from vi_e fy47)]); (try rw [ey2]); first | done | exact fun q9 => f16 (f52 (q9)) | have h8 := ln_0; all_goals omega, cpM_0 (by omega) f17 (cmM f33 (is_cmp.mpr (by omega)) k41 f53 KM.rf), cpW_0 (by omega) f17 f18 k21 (cmW f33 (is_cmp.mpr (by omega)) k41 (MZ.of k21 k42) f53 f54 (by rw [show r25.toInt = 60 by omega]; exact jn_lt0 (by omega)) (by omega) (by omega)) (by show (xi (E8 0) 22).toInt = -1; rw [show xi (E8 0) 22 = y11 from vi_e fy11]; first | exact t23 | omega)⟩⟩, by show va_P (dC, dI) vwCl (WX 72 ad E44) t.heap; rw [ht]; exact hP⟩, hS.F ht⟩) hS.2.2 dX13_compares_111
              · --89 not
                have t68 : r7.toInt < r43.toInt := ti_nle c66
                have i69 : -2147483648 ≤ r7.toInt ∧ r7.toInt ≤ 2147483646 := iv_lt_l t68 (iv_all _) (iv_all _) (by decide)
                have i70 : -2147483647 ≤ r43.toInt ∧ r43.toInt ≤ 2147483647 := iv_lt_r t68 (iv_all _) (iv_all _) (by decide)
                refine lv_iconst (v := 1) hx hb dX13_compares_92 (by decide) ?_
                refine lv_goto (tgt := 111) hx hb dX13_compares_93 (by decide) ?_
                rw [hQ]
                exact W.zret (v := 1) hx hb hr rfl (fun t ht hW => ⟨⟨1, E44, rfl, ⟨hI, hKp, ⟨(iv_w ln_1 (by decide)), by (try rw [(show xi (E44 0) 21 = y46 from vi_e fy46)]); (try rw [ey1]); first | done | exact (Int.le_trans (Int.le_trans (Int.le_trans f13 f30) (Int.le_trans (Int.le_add_of_nonneg_right (by decide)) (Int.le_of_eq ty37.symm))) f49) | have h8 := ln_1; all_goals omega, by (try rw [(show xi (E44 0) 23 = y48 from vi_e fy48)]); (try rw [ey3]); first | done | exact (Int.le_trans f14 f50) | have h8 := ln_1; all_goals omega, by (try rw [(show xi (E44 0) 22 = y47 from vi_e fy47)]); (try rw [(show xi (E44 0) 23 = y48 from vi_e fy48)]); (try rw [ey2]); (try rw [ey3]); first | done | exact fun q9 => ((f51 (q9)).trans (f15 (f52 (q9)))) | have h8 := ln_1; all_goals omega, by (try rw [(show xi (E44 0) 22 = y47 from vi_e fy47)]); (try rw [ey2]); first | done | exact fun q9 => f16 (f52 (q9)) | have h8 := ln_1; all_goals omega, cpM_0 (by omega) f17 (cmM f33 (is_cmp.mpr (by omega)) k41 f53 KM.rf), cpW_0 (by omega) f17 f18 k21 (cmW f33 (is_cmp.mpr (by omega)) k41 (MZ.of k21 k42) f53 f54 (by rw [show r25.toInt = 60 by omega]; exact jn_lt1 (by omega)) (by omega) (by omega)) (by show (xi (E8 0) 22).toInt = -1; rw [show xi (E8 0) 22 = y11 from vi_e fy11]; first | exact t23 | omega)⟩⟩, by show va_P (dC, dI) vwCl (WX 72 ad E44) t.heap; rw [ht]; exact hP⟩, hS.F ht⟩) hS.2.2 dX13_compares_111
          · --62 not
            have t71 : r25.toInt = 61 := ti_eq c55
            have i72 : 61 ≤ r25.toInt ∧ r25.toInt ≤ 61 := iv_eqi t71 f29 (il_ 61) (by decide)
            refine lv_iload_n hx hb dX13_compares_65 rfl (lv_at hl 2 rfl) ?_
            refine lv_iload hx hb dX13_compares_66 (lv_at hl 0 rfl) ?_
            refine lv_icmp_ne (tgt := 75) hx hb dX13_compares_68 (by decide) (fun c73 => ?_) (fun c73 => ?_)
            · --68 taken
              have t74 : ¬ r7.toInt = r43.toInt := ti_ne c73
              refine lv_iconst (v := 0) hx hb dX13_compares_75 (by decide) ?_
              refine lv_goto (tgt := 111) hx hb dX13_compares_76 (by decide) ?_
              rw [hQ]
              exact W.zret (v := 0) hx hb hr rfl (fun t ht hW => ⟨⟨0, E44, rfl, ⟨hI, hKp, ⟨(iv_w ln_0 (by decide)), by (try rw [(show xi (E44 0) 21 = y46 from vi_e fy46)]); (try rw [ey1]); first | done | exact (Int.le_trans (Int.le_trans (Int.le_trans f13 f30) (Int.le_trans (Int.le_add_of_nonneg_right (by decide)) (Int.le_of_eq ty37.symm))) f49) | have h8 := ln_0; all_goals omega, by (try rw [(show xi (E44 0) 23 = y48 from vi_e fy48)]); (try rw [ey3]); first | done | exact (Int.le_trans f14 f50) | have h8 := ln_0; all_goals omega, by (try rw [(show xi (E44 0) 22 = y47 from vi_e fy47)]); (try rw [(show xi (E44 0) 23 = y48 from vi_e fy48)]); (try rw [ey2]); (try rw [ey3]); first | done | exact fun q9 => ((f51 (q9)).trans (f15 (f52 (q9)))) | have h8 := ln_0; all_goals omega, by (try rw [(show xi (E44 0) 22 = y47 from vi_e fy47)]); (try rw [ey2]); first | done | exact fun q9 => f16 (f52 (q9)) | have h8 := ln_0; all_goals omega, cpM_0 (by omega) f17 (cmM f33 (is_cmp.mpr (by omega)) k41 f53 KM.rf), cpW_0 (by omega) f17 f18 k21 (cmW f33 (is_cmp.mpr (by omega)) k41 (MZ.of k21 k42) f53 f54 (by rw [show r25.toInt = 61 by omega]; exact jn_eq0 (by omega)) (by omega) (by omega)) (by show (xi (E8 0) 22).toInt = -1; rw [show xi (E8 0) 22 = y11 from vi_e fy11]; first | exact t23 | omega)⟩⟩, by show va_P (dC, dI) vwCl (WX 72 ad E44) t.heap; rw [ht]; exact hP⟩, hS.F ht⟩) hS.2.2 dX13_compares_111
            · --68 not
              have t75 : r7.toInt = r43.toInt := ti_eq c73
              refine lv_iconst (v := 1) hx hb dX13_compares_71 (by decide) ?_
              refine lv_goto (tgt := 111) hx hb dX13_compares_72 (by decide) ?_
              rw [hQ]
              exact W.zret (v := 1) hx hb hr rfl (fun t ht hW => ⟨⟨1, E44, rfl, ⟨hI, hKp, ⟨(iv_w ln_1 (by decide)), by (try rw [(show xi (E44 0) 21 = y46 from vi_e fy46)]); (try rw [ey1]); first | done | exact (Int.le_trans (Int.le_trans (Int.le_trans f13 f30) (Int.le_trans (Int.le_add_of_nonneg_right (by decide)) (Int.le_of_eq ty37.symm))) f49) | have h8 := ln_1; all_goals omega, by (try rw [(show xi (E44 0) 23 = y48 from vi_e fy48)]); (try rw [ey3]); first | done | exact (Int.le_trans f14 f50) | have h8 := ln_1; all_goals omega, by (try rw [(show xi (E44 0) 22 = y47 from vi_e fy47)]); (try rw [(show xi (E44 0) 23 = y48 from vi_e fy48)]); (try rw [ey2]); (try rw [ey3]); first | done | exact fun q9 => ((f51 (q9)).trans (f15 (f52 (q9)))) | have h8 := ln_1; all_goals omega, by (try rw [(show xi (E44 0) 22 = y47 from vi_e fy47)]); (try rw [ey2]); first | done | exact fun q9 => f16 (f52 (q9)) | have h8 := ln_1; all_goals omega, cpM_0 (by omega) f17 (cmM f33 (is_cmp.mpr (by omega)) k41 f53 KM.rf), cpW_0 (by omega) f17 f18 k21 (cmW f33 (is_cmp.mpr (by omega)) k41 (MZ.of k21 k42) f53 f54 (by rw [show r25.toInt = 61 by omega]; exact jn_eq1 (by omega)) (by omega) (by omega)) (by show (xi (E8 0) 22).toInt = -1; rw [show xi (E8 0) 22 = y11 from vi_e fy11]; first | exact t23 | omega)⟩⟩, by show va_P (dC, dI) vwCl (WX 72 ad E44) t.heap; rw [ht]; exact hP⟩, hS.F ht⟩) hS.2.2 dX13_compares_111
        · --34 not
          exact absurd c36 (by decide)
      · -- isSignX, case 1
        obtain ⟨rfl, f76⟩ := hw
        refine lv_if_ne (tgt := 42) hx hb dX13_compares_34 (by decide) (fun c77 => ?_) (fun c77 => ?_)
        · --34 taken
          exact absurd c77 (by decide)
        · --34 not
          refine lv_aload_n hx hb dX13_compares_37 rfl (lv_at hl 2 rfl) ?_
          refine th_i (va_runV (As := []) (rest := []) ⟨hx, hb, hml, hown, hts⟩ (q_stopX l dC dI cT ad E26 H.size k nl hI (by exact hh0) (by exact hh1) (by exact hh2) (by exact (hKp 0 18 rfl).trans hh3) (by (try rw [hKp.ei 0 19 rfl]); exact hh4)) (cwV 0 hts (gi_V (in_26 _ (zs4 (zs4 (zs4 (zs0))))) (in_26 _ (zs4 (zs4 (zs4 (zs1 (zs0)))))) (in_26 _ (zs4 (zs4 (zs4 (zs1 (zs1 (zs0))))))) (in_24 _ (zs4 (zs4 (zs4 (zs1 (zs1 (zs1 (zs0)))))))) (in_26 _ (zs4 (zs4 (zs4 (zs1 (zs1 (zs1 (zs0))))))))) rfl rfl rfl ⟨rfl, hz_yX13_stop_0⟩ ⟨(show 0 + 1 ≤ 7 * n + 8 from nl_1 (Nat.le_of_ble_eq_true rfl)), (show 8 + (1 + 11) + 40 * (0) ≤ 40 * (7 * n + 8) from nl_2 (Nat.le_of_ble_eq_true rfl))⟩) ⟨HW_bl, va_recv hK hP (ci := 14) (q0 := 0) rfl (hI.ob 0 (Nat.le_of_ble_eq_true rfl) rfl), (HW_wi hP hK (WX_D hD) hS hA hEV)⟩ rfl rfl hl.1 rfl (lv_room (Nat.le_of_ble_eq_true rfl)) dX13_compares_38 ⟨Nat.le_of_ble_eq_true rfl, Nat.le_of_ble_eq_true rfl⟩) (WX_D hD) hS hA (fun r78 E79 H locs hw hP hS => ?_)
          obtain ⟨hI, kq80, hw⟩ := hw
          have hKb := hKp
          have hKp := hKp.tr kq80 (wl_sub rfl rfl)
          obtain ⟨y81, ey81⟩ : ∃ y, xi (E79 0) 22 = y := ⟨_, rfl⟩
          have fy81 : xv (E79 0) 22 = .int y81 := (hI.fi 0 (Nat.le_of_ble_eq_true rfl) rfl (Nat.le_of_ble_eq_true rfl) rfl).trans (congrArg Value.int ey81)
          have iy81 : -1 ≤ y81.toInt ∧ y81.toInt ≤ 201 := by rw [← ey81]; exact hI.iv 0 (Nat.le_of_ble_eq_true rfl) rfl (Nat.le_of_ble_eq_true rfl) rfl
          obtain ⟨rfl, f82, f83⟩ := hw
          try rw [(show xi (E26 0) 22 = y11 from vi_e ((kq27 0 22 rfl).trans fy11))] at f82
          try rw [(show xi (E79 0) 22 = y81 from vi_e fy81)] at f82
          rw [hQ]
          exact W.zret (v := 0) hx hb hr rfl (fun t ht hW => ⟨⟨0, E79, rfl, ⟨hI, hKp, ⟨(iv_w ln_0 (by decide)), by (try rw [(show xi (E79 0) 21 = y28 from vi_e ((kq80 0 21 rfl).trans fy28))]); (try rw [ey1]); first | done | exact (Int.le_trans f13 f30) | have h8 := ln_0; all_goals omega, by (try rw [(show xi (E79 0) 23 = y12 from vi_e ((kq80 0 23 rfl).trans ((kq27 0 23 rfl).trans fy12)))]); (try rw [ey3]); first | done | exact f14 | have h8 := ln_0; all_goals omega, by (try rw [(show xi (E79 0) 22 = y81 from vi_e fy81)]); (try rw [(show xi (E79 0) 23 = y12 from vi_e ((kq80 0 23 rfl).trans ((kq27 0 23 rfl).trans fy12)))]); (try rw [ey2]); (try rw [ey3]); first | done | exact fun q9 => absurd (q9) f82 | have h8 := ln_0; all_goals omega, by (try rw [(show xi (E79 0) 22 = y81 from vi_e fy81)]); (try rw [ey2]); first | done | exact fun q9 => absurd (q9) f82 | have h8 := ln_0; all_goals omega, cpM_0 (by omega) f17 (cmM_no f33 (fun q9 => by have q8 := is_cmp.mp q9; omega) f83), RdW.nf (by show ¬ (xi (E79 0) 22).toInt = -1; rw [show xi (E79 0) 22 = y81 from vi_e fy81]; omega)⟩⟩, by show va_P (dC, dI) vwCl (WX 72 ad E79) t.heap; rw [ht]; exact hP⟩, hS.F ht⟩) hS.2.2 dX13_compares_41
    · --18 not
      have t84 : ¬ y11.toInt = -1 := ti_ne c22
      have i85 : 0 ≤ y11.toInt ∧ y11.toInt ≤ 201 := iv_ne_l t84 iy11 (il_ (-1))
      refine lv_iconst (v := 0) hx hb dX13_compares_21 (by decide) ?_
      rw [hQ]
      exact W.zret (v := 0) hx hb hr rfl (fun t ht hW => ⟨⟨0, E8, rfl, ⟨hI, hKp, ⟨(iv_w ln_0 (by decide)), by (try rw [(show xi (E8 0) 21 = y10 from vi_e fy10)]); (try rw [ey1]); first | done | exact f13 | have h8 := ln_0; all_goals omega, by (try rw [(show xi (E8 0) 23 = y12 from vi_e fy12)]); (try rw [ey3]); first | done | exact f14 | have h8 := ln_0; all_goals omega, by (try rw [(show xi (E8 0) 22 = y11 from vi_e fy11)]); (try rw [(show xi (E8 0) 23 = y12 from vi_e fy12)]); (try rw [ey2]); (try rw [ey3]); first | done | exact fun q9 => absurd (q9) t84 | have h8 := ln_0; all_goals omega, by (try rw [(show xi (E8 0) 22 = y11 from vi_e fy11)]); (try rw [ey2]); first | done | exact fun q9 => absurd (q9) t84 | have h8 := ln_0; all_goals omega, cpM_0 (by omega) f17 (RdM.dead (by show ¬ (xi (E8 0) 22).toInt = -1; rw [show xi (E8 0) 22 = y11 from vi_e fy11]; omega)), RdW.nf (by show ¬ (xi (E8 0) 22).toInt = -1; rw [show xi (E8 0) 22 = y11 from vi_e fy11]; omega)⟩⟩, by show va_P (dC, dI) vwCl (WX 72 ad E8) t.heap; rw [ht]; exact hP⟩, hS.F ht⟩) hS.2.2 dX13_compares_22
  · --1 not
    have t86 : ¬ a0.toInt = 0 := ti_ne c4
    have i87 : 1 ≤ a0.toInt ∧ a0.toInt ≤ 1 := iv_ne_l t86 hh7 (il_ 0)
    refine lv_iload_n hx hb dX13_compares_4 rfl (lv_at hl 2 rfl) ?_
    refine lv_goto (tgt := 12) hx hb dX13_compares_5 (by decide) ?_
    refine lv_istore_n (lv' := [(3, .int a1), (0, .ref (ad 0)), (1, .int a0), (2, .int a1)]) hx hb dX13_compares_12 rfl hl (by decide) rfl (fun ls hl => ?_)
    have k88 : MZ E E := MZ.kp hKp (fun _ => rfl)
    refine lv_aload_n hx hb dX13_compares_13 rfl (lv_at hl 1 rfl) ?_
    refine th_get (ci := 14) (C := RX13) (T := TX13) (N := 97) (v := .int y2) hx hb hts hinX13 hown hK hP hI 0 (Nat.le_of_ble_eq_true rfl) rfl rfl 22 (Nat.le_of_ble_eq_true rfl) (hts _ (vA_in _ _ (in_25 _ (zs16 (zs16 (zs4 (zs1 (zs1 (zs1 (zs0)))))))))) (fun _ h9 => h9) fy2 dX13_compares_14 ?_
    refine lv_iconst (v := -1) hx hb dX13_compares_17 (by decide) ?_
    refine lv_icmp_eq (tgt := 23) hx hb dX13_compares_18 (by decide) (fun c89 => ?_) (fun c89 => ?_)
    · --18 taken
      have t90 : y2.toInt = -1 := ti_eq c89
      have i91 : -1 ≤ y2.toInt ∧ y2.toInt ≤ -1 := iv_eqi t90 iy2 (il_ (-1)) (by decide)
      refine lv_aload_n hx hb dX13_compares_23 rfl (lv_at hl 1 rfl) ?_
      refine th_i (va_runV (As := []) (rest := []) ⟨hx, hb, hml, hown, hts⟩ (q_lookX l dC dI cT ad E s.heap.size k nl hI (by exact hh0) (by exact hh1) (by exact hh2) (by exact hh3) (by exact hh4)) (cwV 0 hts (gi_V (in_26 _ (zs1 (zs1 (zs0)))) (in_26 _ (zs1 (zs1 (zs1 (zs0))))) (in_26 _ (zs4 (zs0))) (in_24 _ (zs4 (zs4 (zs4 (zs1 (zs1 (zs1 (zs0)))))))) (in_26 _ (zs4 (zs1 (zs0))))) rfl rfl rfl ⟨rfl, hz_yX13_look_0⟩ ⟨(show 0 + 1 ≤ 7 * n + 8 from nl_1 (Nat.le_of_ble_eq_true rfl)), (show 8 + (1 + 11) + 40 * (0) ≤ 40 * (7 * n + 8) from nl_2 (Nat.le_of_ble_eq_true rfl))⟩) ⟨HW_bl, va_recv hK hP (ci := 14) (q0 := 0) rfl (hI.ob 0 (Nat.le_of_ble_eq_true rfl) rfl), (HW_wi hP hK (WX_D hD) hS hA hEV)⟩ rfl rfl hl.1 rfl (lv_room (Nat.le_of_ble_eq_true rfl)) dX13_compares_24 ⟨Nat.le_of_ble_eq_true rfl, Nat.le_of_ble_eq_true rfl⟩) (WX_D hD) hS hA (fun r92 E93 H locs hw hP hS => ?_)
      obtain ⟨hI, kq94, hw⟩ := hw
      have hKb := hKp
      have hKp := hKp.tr kq94 (wl_sub rfl rfl)
      obtain ⟨y95, ey95⟩ : ∃ y, xi (E93 0) 21 = y := ⟨_, rfl⟩
      have fy95 : xv (E93 0) 21 = .int y95 := (hI.fi 0 (Nat.le_of_ble_eq_true rfl) rfl (Nat.le_of_ble_eq_true rfl) rfl).trans (congrArg Value.int ey95)
      have iy95 : 0 ≤ y95.toInt ∧ y95.toInt ≤ 201 := by rw [← ey95]; exact hI.iv 0 (Nat.le_of_ble_eq_true rfl) rfl (Nat.le_of_ble_eq_true rfl) rfl
      obtain ⟨f96, f97, f98, f99, f100⟩ := hw
      have i101 : 0 ≤ (xi (E 0) 19).toInt ∧ (xi (E 0) 19).toInt ≤ 3000 := (show 0 ≤ (xi (E 0) 19).toInt ∧ (xi (E 0) 19).toInt ≤ 3000 from hI0.iv 0 (Nat.le_of_ble_eq_true rfl) rfl (Nat.le_of_ble_eq_true rfl) rfl)
      have i102 : 0 ≤ (xi (E 0) 20).toInt ∧ (xi (E 0) 20).toInt ≤ 200 := (show 0 ≤ (xi (E 0) 20).toInt ∧ (xi (E 0) 20).toInt ≤ 200 from hI0.iv 0 (Nat.le_of_ble_eq_true rfl) rfl (Nat.le_of_ble_eq_true rfl) rfl)
      try rw [(show xi (E 0) 21 = y1 from vi_e fy1)] at f97
      try rw [(show xi (E93 0) 21 = y95 from vi_e fy95)] at f97
      try rw [(show xi (E 0) 21 = y1 from vi_e fy1)] at f98
      try rw [(show xi (E93 0) 21 = y95 from vi_e fy95)] at f98
      try rw [(show xi (E 0) 21 = y1 from vi_e fy1)] at f99
      try rw [(show xi (E93 0) 21 = y95 from vi_e fy95)] at f99
      refine lv_istore (lv' := [(4, .int r92), (3, .int a1), (0, .ref (ad 0)), (1, .int a0), (2, .int a1)]) hx hb dX13_compares_27 hl (by decide) rfl (fun ls hl => ?_)
      refine lv_iload hx hb dX13_compares_29 (lv_at hl 0 rfl) ?_
      refine th_pi (va_runS (As := [.int r92]) (rest := []) ⟨hx, hb, hml, hown, hts⟩ (q_isSignX l r92) (va_cwS 1 hts (gi_S (in_29 _ (zs16 (zs4 (zs4 (zs4 (zs1 (zs1 (zs0)))))))) (in_29 _ (zs16 (zs4 (zs4 (zs4 (zs1 (zs1 (zs1 (zs0))))))))) (in_24 _ (zs4 (zs4 (zs4 (zs1 (zs1 (zs1 (zs0)))))))) (in_29 _ (zs16 (zs16 (zs0))))) rfl rfl rfl hz_yX13_isSign_1 ⟨(show 0 + 1 ≤ 7 * n + 8 from nl_1 (Nat.le_of_ble_eq_true rfl)), (show 8 + (1 + 11) + 40 * (0) ≤ 40 * (7 * n + 8) from nl_2 (Nat.le_of_ble_eq_true rfl))⟩) ⟨fun _ _ _ _ q => q, fun _ _ _ => ⟨rfl, trivial⟩⟩ rfl rfl hl.1 rfl (lv_room (Nat.le_of_ble_eq_true rfl)) dX13_compares_31 ⟨Nat.le_of_ble_eq_true rfl, Nat.le_of_ble_eq_true rfl⟩) hS (fun r103 H1 locs1 hw hk1 hS => ?_)
      have hP := ub_keep hP hk1
      generalize H1 = H at hP hS ⊢
      generalize locs1 = locs at hS ⊢
      rcases hw with hw | hw
      · -- isSignX, case 0
        obtain ⟨rfl, f104⟩ := hw
        refine lv_if_ne (tgt := 42) hx hb dX13_compares_34 (by decide) (fun c105 => ?_) (fun c105 => ?_)
        · --34 taken
          refine lv_aload_n hx hb dX13_compares_42 rfl (lv_at hl 2 rfl) ?_
          refine lv_dup hx hb dX13_compares_43 rfl ?_
          refine th_get (ci := 14) (C := RX13) (T := TX13) (N := 97) (v := .int y95) hx hb hts hinX13 hown hK hP hI 0 (Nat.le_of_ble_eq_true rfl) rfl rfl 21 (Nat.le_of_ble_eq_true rfl) (hts _ (vA_in _ _ (in_25 _ (zs16 (zs16 (zs4 (zs0))))))) (fun _ h9 => h9) fy95 dX13_compares_44 ?_
          refine lv_iconst (v := 1) hx hb dX13_compares_47 (by decide) ?_
          refine lv_iadd hx hb dX13_compares_48 ?_
          refine lv_topi (fun y106 ey106 => ?_)
          obtain ⟨ty106, iy106⟩ := ti_add (e := 1) (f := 202) iy95 ln_1 ey106 (by decide)
          have ty106 : y106.toInt = y95.toInt + 1 := ty106
          have iy106 : 1 ≤ y106.toInt ∧ y106.toInt ≤ 202 := iy106
          have i107 : 1 ≤ y106.toInt ∧ y106.toInt ≤ 201 := by omega
          refine th_put (ci := 14) (C := RX13) (T := TX13) (N := 97) (v := .int y106) (ty := .int) hx hb hts hinX13 tyX13 tyX13_ok nmX13 hown hK hP (WX_D hD) hS hI 0 (Nat.le_of_ble_eq_true rfl) rfl rfl 21 (Nat.le_of_ble_eq_true rfl) (hts _ (vA_in _ _ (in_25 _ (zs16 (zs16 (zs4 (zs0))))))) (fun _ h9 => h9) rfl (by decide +kernel) rfl rfl (okI rfl (iv_w i107 (by decide))) dX13_compares_49 (fun H locs E108 pw109 hI hP hS => ?_)
          have hKp := hKp.pw pw109 rfl
          have k110 : AtM k E93 E108 := AtM.pw pw109.2 hk0 (vi_e fy95) (vi_e pw109.1) ty106 (by omega)
          have k111 : MZ E E108 := MZ.kp hKp (fun _ => rfl)
          refine lv_aload_n hx hb dX13_compares_52 rfl (lv_at hl 2 rfl) ?_
          refine th_i (va_runV (As := []) (rest := []) ⟨hx, hb, hml, hown, hts⟩ (gS dC dI cT ad E108 H.size k nl hI (by exact hh0) (by exact hh1) (by exact hh2) (by exact (hKp 0 18 rfl).trans hh3) (by (try rw [hKp.ei 0 19 rfl]); exact hh4) (by (try rw [(show xi (E108 0) 23 = y3 from vi_e ((pw109.2 0 23 (fun q9 => absurd q9.2 (Nat.ne_of_beq_eq_false rfl))).trans ((kq94 0 23 rfl).trans fy3)))]); omega) (by (try rw [(show xi (E108 0) 22 = y2 from vi_e ((pw109.2 0 22 (fun q9 => absurd q9.2 (Nat.ne_of_beq_eq_false rfl))).trans ((kq94 0 22 rfl).trans fy2)))]); omega)) (cwV 0 hts (gi_V (in_26 _ (zs16 (zs0))) (in_26 _ (zs16 (zs1 (zs0)))) (in_26 _ (zs16 (zs1 (zs1 (zs0))))) (in_24 _ (zs4 (zs4 (zs4 (zs1 (zs1 (zs1 (zs0)))))))) (in_26 _ (zs16 (zs4 (zs4 (zs1 (zs1 (zs1 (zs0))))))))) rfl rfl rfl (by decide +kernel) ⟨(show 7 * n + 7 + 1 ≤ 7 * n + 8 from nl_4 (Nat.le_of_ble_eq_true rfl) (Nat.le_of_ble_eq_true rfl)), (show 8 + (5 + 11) + 40 * (7 * n + 7) ≤ 40 * (7 * n + 8) from nl_3 (Nat.le_of_ble_eq_true rfl) (Nat.le_of_ble_eq_true rfl))⟩) ⟨HW_bl, va_recv hK hP (ci := 14) (q0 := 0) rfl (hI.ob 0 (Nat.le_of_ble_eq_true rfl) rfl), (HW_wi hP hK (WX_D hD) hS hA hEV)⟩ rfl rfl hl.1 rfl (lv_room (Nat.le_of_ble_eq_true rfl)) dX13_compares_53 ⟨Nat.le_of_ble_eq_true rfl, Nat.le_of_ble_eq_true rfl⟩) (WX_D hD) hS hA (fun r112 E113 H locs hw hP hS => ?_)
          obtain ⟨hI, kq114, hw⟩ := hw
          have hKb := hKp
          have hKp := hKp.tr kq114 (wl_sub rfl rfl)
          obtain ⟨y115, ey115⟩ : ∃ y, xi (E113 0) 21 = y := ⟨_, rfl⟩
          have fy115 : xv (E113 0) 21 = .int y115 := (hI.fi 0 (Nat.le_of_ble_eq_true rfl) rfl (Nat.le_of_ble_eq_true rfl) rfl).trans (congrArg Value.int ey115)
          have iy115 : 0 ≤ y115.toInt ∧ y115.toInt ≤ 201 := by rw [← ey115]; exact hI.iv 0 (Nat.le_of_ble_eq_true rfl) rfl (Nat.le_of_ble_eq_true rfl) rfl
          obtain ⟨y116, ey116⟩ : ∃ y, xi (E113 0) 22 = y := ⟨_, rfl⟩
          have fy116 : xv (E113 0) 22 = .int y116 := (hI.fi 0 (Nat.le_of_ble_eq_true rfl) rfl (Nat.le_of_ble_eq_true rfl) rfl).trans (congrArg Value.int ey116)
          have iy116 : -1 ≤ y116.toInt ∧ y116.toInt ≤ 201 := by rw [← ey116]; exact hI.iv 0 (Nat.le_of_ble_eq_true rfl) rfl (Nat.le_of_ble_eq_true rfl) rfl
          obtain ⟨y117, ey117⟩ : ∃ y, xi (E113 0) 23 = y := ⟨_, rfl⟩
          have fy117 : xv (E113 0) 23 = .int y117 := (hI.fi 0 (Nat.le_of_ble_eq_true rfl) rfl (Nat.le_of_ble_eq_true rfl) rfl).trans (congrArg Value.int ey117)
          have iy117 : 0 ≤ y117.toInt ∧ y117.toInt ≤ 8 := by rw [← ey117]; exact hI.iv 0 (Nat.le_of_ble_eq_true rfl) rfl (Nat.le_of_ble_eq_true rfl) rfl
          obtain ⟨f118, f119, f120, f121, f122, f123⟩ := hw
          try rw [(show xi (E108 0) 21 = y106 from vi_e pw109.1)] at f118
          try rw [(show xi (E113 0) 21 = y115 from vi_e fy115)] at f118
          try rw [(show xi (E108 0) 23 = y3 from vi_e ((pw109.2 0 23 (fun q9 => absurd q9.2 (Nat.ne_of_beq_eq_false rfl))).trans ((kq94 0 23 rfl).trans fy3)))] at f119
          try rw [(show xi (E113 0) 23 = y117 from vi_e fy117)] at f119
          try rw [(show xi (E108 0) 22 = y2 from vi_e ((pw109.2 0 22 (fun q9 => absurd q9.2 (Nat.ne_of_beq_eq_false rfl))).trans ((kq94 0 22 rfl).trans fy2)))] at f120
          try rw [(show xi (E108 0) 23 = y3 from vi_e ((pw109.2 0 23 (fun q9 => absurd q9.2 (Nat.ne_of_beq_eq_false rfl))).trans ((kq94 0 23 rfl).trans fy3)))] at f120
          try rw [(show xi (E113 0) 22 = y116 from vi_e fy116)] at f120
          try rw [(show xi (E113 0) 23 = y117 from vi_e fy117)] at f120
          try rw [(show xi (E108 0) 22 = y2 from vi_e ((pw109.2 0 22 (fun q9 => absurd q9.2 (Nat.ne_of_beq_eq_false rfl))).trans ((kq94 0 22 rfl).trans fy2)))] at f121
          try rw [(show xi (E113 0) 22 = y116 from vi_e fy116)] at f121
          refine lv_istore (lv' := [(5, .int r112), (4, .int r92), (3, .int a1), (0, .ref (ad 0)), (1, .int a0), (2, .int a1)]) hx hb dX13_compares_56 hl (by decide) rfl (fun ls hl => ?_)
          refine lv_iload hx hb dX13_compares_58 (lv_at hl 1 rfl) ?_
          refine lv_bipush (v := 61) hx hb dX13_compares_60 (by decide) ?_
          refine lv_icmp_ne (tgt := 79) hx hb dX13_compares_62 (by decide) (fun c124 => ?_) (fun c124 => ?_)
          · --62 taken
            have t125 : ¬ r92.toInt = 61 := ti_ne c124
            refine lv_iload hx hb dX13_compares_79 (lv_at hl 1 rfl) ?_
            refine lv_bipush (v := 60) hx hb dX13_compares_81 (by decide) ?_
            refine lv_icmp_ne (tgt := 100) hx hb dX13_compares_83 (by decide) (fun c126 => ?_) (fun c126 => ?_)
            · --83 taken
              have t127 : ¬ r92.toInt = 60 := ti_ne c126
              refine lv_iload_n hx hb dX13_compares_100 rfl (lv_at hl 2 rfl) ?_
              refine lv_iload hx hb dX13_compares_101 (lv_at hl 0 rfl) ?_
              refine lv_icmp_le (tgt := 110) hx hb dX13_compares_103 (by decide) (fun c128 => ?_) (fun c128 => ?_)
              · --103 taken
                have t129 : a1.toInt ≤ r112.toInt := ti_le c128
                refine lv_iconst (v := 0) hx hb dX13_compares_110 (by decide) ?_
                rw [hQ]
                exact W.zret (v := 0) hx hb hr rfl (fun t ht hW => ⟨⟨0, E113, rfl, ⟨hI, hKp, ⟨(iv_w ln_0 (by decide)), by (try rw [(show xi (E113 0) 21 = y115 from vi_e fy115)]); (try rw [ey1]); first | done | exact (Int.le_trans (Int.le_trans f97 (Int.le_trans (Int.le_add_of_nonneg_right (by decide)) (Int.le_of_eq ty106.symm))) f118) | have h8 := ln_0; all_goals omega, by (try rw [(show xi (E113 0) 23 = y117 from vi_e fy117)]); (try rw [ey3]); first | done | exact f119 | have h8 := ln_0; all_goals omega, by (try rw [(show xi (E113 0) 22 = y116 from vi_e fy116)]); (try rw [(show xi (E113 0) 23 = y117 from vi_e fy117)]); (try rw [ey2]); (try rw [ey3]); first | done | exact fun q9 => (f120 (q9)) | have h8 := ln_0; all_goals omega, by (try rw [(show xi (E113 0) 22 = y116 from vi_e fy116)]); (try rw [ey2]); first | done | exact fun q9 => f121 (q9) | have h8 := ln_0; all_goals omega, cpM_1 (by omega) (cmM f100 (is_cmp.mpr (by omega)) k110 f122 KM.rf), cpW_1 (by omega) (cmW f100 (is_cmp.mpr (by omega)) k110 k111 f122 f123 (by rw [show r92.toInt = 62 by omega]; exact jn_gt0 (by omega)) (by omega) (by omega))⟩⟩, by show va_P (dC, dI) vwCl (WX 72 ad E113) t.heap; rw [ht]; exact hP⟩, hS.F ht⟩) hS.2.2 dX13_compares_111
              · --103 not
                have t130 : r112.toInt < a1.toInt := ti_nle c128
                have i131 : -2147483648 ≤ r112.toInt ∧ r112.toInt ≤ 2147483646 := iv_lt_l t130 (iv_all _) (iv_all _) (by decide)
                have i132 : -2147483647 ≤ a1.toInt ∧ a1.toInt ≤ 2147483647 := iv_lt_r t130 (iv_all _) (iv_all _) (by decide)
                refine lv_iconst (v := 1) hx hb dX13_compares_106 (by decide) ?_
                refine lv_goto (tgt := 111) hx hb dX13_compares_107 (by decide) ?_
                rw [hQ]
                exact W.zret (v := 1) hx hb hr rfl (fun t ht hW => ⟨⟨1, E113, rfl, ⟨hI, hKp, ⟨(iv_w ln_1 (by decide)), by (try rw [(show xi (E113 0) 21 = y115 from vi_e fy115)]); (try rw [ey1]); first | done | exact (Int.le_trans (Int.le_trans f97 (Int.le_trans (Int.le_add_of_nonneg_right (by decide)) (Int.le_of_eq ty106.symm))) f118) | have h8 := ln_1; all_goals omega, by (try rw [(show xi (E113 0) 23 = y117 from vi_e fy117)]); (try rw [ey3]); first | done | exact f119 | have h8 := ln_1; all_goals omega, by (try rw [(show xi (E113 0) 22 = y116 from vi_e fy116)]); (try rw [(show xi (E113 0) 23 = y117 from vi_e fy117)]); (try rw [ey2]); (try rw [ey3]); first | done | exact fun q9 => (f120 (q9)) | have h8 := ln_1; all_goals omega, by (try rw [(show xi (E113 0) 22 = y116 from vi_e fy116)]); (try rw [ey2]); first | done | exact fun q9 => f121 (q9) | have h8 := ln_1; all_goals omega, cpM_1 (by omega) (cmM f100 (is_cmp.mpr (by omega)) k110 f122 KM.rf), cpW_1 (by omega) (cmW f100 (is_cmp.mpr (by omega)) k110 k111 f122 f123 (by rw [show r92.toInt = 62 by omega]; exact jn_gt1 (by omega)) (by omega) (by omega))⟩⟩, by show va_P (dC, dI) vwCl (WX 72 ad E113) t.heap; rw [ht]; exact hP⟩, hS.F ht⟩) hS.2.2 dX13_compares_111
            · --83 not
              have t133 : r92.toInt = 60 := ti_eq c126
              have i134 : 60 ≤ r92.toInt ∧ r92.toInt ≤ 60 := iv_eqi t133 f96 (il_ 60) (by decide)
              refine lv_iload_n hx hb dX13_compares_86 rfl (lv_at hl 2 rfl) ?_
              refine lv_iload hx hb dX13_compares_87 (lv_at hl 0 rfl) ?_
              refine lv_icmp_ge (tgt := 96) hx hb dX13_compares_89 (by decide) (fun c135 => ?_) (fun c135 => ?_)
              · --89 taken
                have t136 : r112.toInt ≤ a1.toInt := ti_le c135
                refine lv_iconst (v := 0) hx hb dX13_compares_96 (by decide) ?_
                refine lv_goto (tgt := 111) hx hb dX13_compares_97 (by decide) ?_
                rw [hQ]
                exact W.zret (v := 0) hx hb hr rfl (fun t ht hW => ⟨⟨0, E113, rfl, ⟨hI, hKp, ⟨(iv_w ln_0 (by decide)), by (try rw [(show xi (E113 0) 21 = y115 from vi_e fy115)]); (try rw [ey1]); first | done | exact (Int.le_trans (Int.le_trans f97 (Int.le_trans (Int.le_add_of_nonneg_right (by decide)) (Int.le_of_eq ty106.symm))) f118) | have h8 := ln_0; all_goals omega, by (try rw [(show xi (E113 0) 23 = y117 from vi_e fy117)]); (try rw [ey3]); first | done | exact f119 | have h8 := ln_0; all_goals omega, by (try rw [(show xi (E113 0) 22 = y116 from vi_e fy116)]); (try rw [(show xi (E113 0) 23 = y117 from vi_e fy117)]); (try rw [ey2]); (try rw [ey3]); first | done | exact fun q9 => (f120 (q9)) | have h8 := ln_0; all_goals omega, by (try rw [(show xi (E113 0) 22 = y116 from vi_e fy116)]); (try rw [ey2]); first | done | exact fun q9 => f121 (q9) | have h8 := ln_0; all_goals omega, cpM_1 (by omega) (cmM f100 (is_cmp.mpr (by omega)) k110 f122 KM.rf), cpW_1 (by omega) (cmW f100 (is_cmp.mpr (by omega)) k110 k111 f122 f123 (by rw [show r92.toInt = 60 by omega]; exact jn_lt0 (by omega)) (by omega) (by omega))⟩⟩, by show va_P (dC, dI) vwCl (WX 72 ad E113) t.heap; rw [ht]; exact hP⟩, hS.F ht⟩) hS.2.2 dX13_compares_111
              · --89 not
                have t137 : a1.toInt < r112.toInt := ti_nle c135
                have i138 : -2147483648 ≤ a1.toInt ∧ a1.toInt ≤ 2147483646 := iv_lt_l t137 (iv_all _) (iv_all _) (by decide)
                have i139 : -2147483647 ≤ r112.toInt ∧ r112.toInt ≤ 2147483647 := iv_lt_r t137 (iv_all _) (iv_all _) (by decide)
                refine lv_iconst (v := 1) hx hb dX13_compares_92 (by decide) ?_
                refine lv_goto (tgt := 111) hx hb dX13_compares_93 (by decide) ?_
                rw [hQ]
                exact W.zret (v := 1) hx hb hr rfl (fun t ht hW => ⟨⟨1, E113, rfl, ⟨hI, hKp, ⟨(iv_w ln_1 (by decide)), by (try rw [(show xi (E113 0) 21 = y115 from vi_e fy115)]); (try rw [ey1]); first | done | exact (Int.le_trans (Int.le_trans f97 (Int.le_trans (Int.le_add_of_nonneg_right (by decide)) (Int.le_of_eq ty106.symm))) f118) | have h8 := ln_1; all_goals omega, by (try rw [(show xi (E113 0) 23 = y117 from vi_e fy117)]); (try rw [ey3]); first | done | exact f119 | have h8 := ln_1; all_goals omega, by (try rw [(show xi (E113 0) 22 = y116 from vi_e fy116)]); (try rw [(show xi (E113 0) 23 = y117 from vi_e fy117)]); (try rw [ey2]); (try rw [ey3]); first | done | exact fun q9 => (f120 (q9)) | have h8 := ln_1; all_goals omega, by (try rw [(show xi (E113 0) 22 = y116 from vi_e fy116)]); (try rw [ey2]); first | done | exact fun q9 => f121 (q9) | have h8 := ln_1; all_goals omega, cpM_1 (by omega) (cmM f100 (is_cmp.mpr (by omega)) k110 f122 KM.rf), cpW_1 (by omega) (cmW f100 (is_cmp.mpr (by omega)) k110 k111 f122 f123 (by rw [show r92.toInt = 60 by omega]; exact jn_lt1 (by omega)) (by omega) (by omega))⟩⟩, by show va_P (dC, dI) vwCl (WX 72 ad E113) t.heap; rw [ht]; exact hP⟩, hS.F ht⟩) hS.2.2 dX13_compares_111
          · --62 not
            have t140 : r92.toInt = 61 := ti_eq c124
            have i141 : 61 ≤ r92.toInt ∧ r92.toInt ≤ 61 := iv_eqi t140 f96 (il_ 61) (by decide)
            refine lv_iload_n hx hb dX13_compares_65 rfl (lv_at hl 2 rfl) ?_
            refine lv_iload hx hb dX13_compares_66 (lv_at hl 0 rfl) ?_
            refine lv_icmp_ne (tgt := 75) hx hb dX13_compares_68 (by decide) (fun c142 => ?_) (fun c142 => ?_)
            · --68 taken
              have t143 : ¬ a1.toInt = r112.toInt := ti_ne c142
              refine lv_iconst (v := 0) hx hb dX13_compares_75 (by decide) ?_
              refine lv_goto (tgt := 111) hx hb dX13_compares_76 (by decide) ?_
              rw [hQ]
              exact W.zret (v := 0) hx hb hr rfl (fun t ht hW => ⟨⟨0, E113, rfl, ⟨hI, hKp, ⟨(iv_w ln_0 (by decide)), by (try rw [(show xi (E113 0) 21 = y115 from vi_e fy115)]); (try rw [ey1]); first | done | exact (Int.le_trans (Int.le_trans f97 (Int.le_trans (Int.le_add_of_nonneg_right (by decide)) (Int.le_of_eq ty106.symm))) f118) | have h8 := ln_0; all_goals omega, by (try rw [(show xi (E113 0) 23 = y117 from vi_e fy117)]); (try rw [ey3]); first | done | exact f119 | have h8 := ln_0; all_goals omega, by (try rw [(show xi (E113 0) 22 = y116 from vi_e fy116)]); (try rw [(show xi (E113 0) 23 = y117 from vi_e fy117)]); (try rw [ey2]); (try rw [ey3]); first | done | exact fun q9 => (f120 (q9)) | have h8 := ln_0; all_goals omega, by (try rw [(show xi (E113 0) 22 = y116 from vi_e fy116)]); (try rw [ey2]); first | done | exact fun q9 => f121 (q9) | have h8 := ln_0; all_goals omega, cpM_1 (by omega) (cmM f100 (is_cmp.mpr (by omega)) k110 f122 KM.rf), cpW_1 (by omega) (cmW f100 (is_cmp.mpr (by omega)) k110 k111 f122 f123 (by rw [show r92.toInt = 61 by omega]; exact jn_eq0 (by omega)) (by omega) (by omega))⟩⟩, by show va_P (dC, dI) vwCl (WX 72 ad E113) t.heap; rw [ht]; exact hP⟩, hS.F ht⟩) hS.2.2 dX13_compares_111
            · --68 not
              have t144 : a1.toInt = r112.toInt := ti_eq c142
              refine lv_iconst (v := 1) hx hb dX13_compares_71 (by decide) ?_
              refine lv_goto (tgt := 111) hx hb dX13_compares_72 (by decide) ?_
              rw [hQ]
              exact W.zret (v := 1) hx hb hr rfl (fun t ht hW => ⟨⟨1, E113, rfl, ⟨hI, hKp, ⟨(iv_w ln_1 (by decide)), by (try rw [(show xi (E113 0) 21 = y115 from vi_e fy115)]); (try rw [ey1]); first | done | exact (Int.le_trans (Int.le_trans f97 (Int.le_trans (Int.le_add_of_nonneg_right (by decide)) (Int.le_of_eq ty106.symm))) f118) | have h8 := ln_1; all_goals omega, by (try rw [(show xi (E113 0) 23 = y117 from vi_e fy117)]); (try rw [ey3]); first | done | exact f119 | have h8 := ln_1; all_goals omega, by (try rw [(show xi (E113 0) 22 = y116 from vi_e fy116)]); (try rw [(show xi (E113 0) 23 = y117 from vi_e fy117)]); (try rw [ey2]); (try rw [ey3]); first | done | exact fun q9 => (f120 (q9)) | have h8 := ln_1; all_goals omega, by (try rw [(show xi (E113 0) 22 = y116 from vi_e fy116)]); (try rw [ey2]); first | done | exact fun q9 => f121 (q9) | have h8 := ln_1; all_goals omega, cpM_1 (by omega) (cmM f100 (is_cmp.mpr (by omega)) k110 f122 KM.rf), cpW_1 (by omega) (cmW f100 (is_cmp.mpr (by omega)) k110 k111 f122 f123 (by rw [show r92.toInt = 61 by omega]; exact jn_eq1 (by omega)) (by omega) (by omega))⟩⟩, by show va_P (dC, dI) vwCl (WX 72 ad E113) t.heap; rw [ht]; exact hP⟩, hS.F ht⟩) hS.2.2 dX13_compares_111
        · --34 not
          exact absurd c105 (by decide)
      · -- isSignX, case 1
        obtain ⟨rfl, f145⟩ := hw
        refine lv_if_ne (tgt := 42) hx hb dX13_compares_34 (by decide) (fun c146 => ?_) (fun c146 => ?_)
        · --34 taken
          exact absurd c146 (by decide)
        · --34 not
          refine lv_aload_n hx hb dX13_compares_37 rfl (lv_at hl 2 rfl) ?_
          refine th_i (va_runV (As := []) (rest := []) ⟨hx, hb, hml, hown, hts⟩ (q_stopX l dC dI cT ad E93 H.size k nl hI (by exact hh0) (by exact hh1) (by exact hh2) (by exact (hKp 0 18 rfl).trans hh3) (by (try rw [hKp.ei 0 19 rfl]); exact hh4)) (cwV 0 hts (gi_V (in_26 _ (zs4 (zs4 (zs4 (zs0))))) (in_26 _ (zs4 (zs4 (zs4 (zs1 (zs0)))))) (in_26 _ (zs4 (zs4 (zs4 (zs1 (zs1 (zs0))))))) (in_24 _ (zs4 (zs4 (zs4 (zs1 (zs1 (zs1 (zs0)))))))) (in_26 _ (zs4 (zs4 (zs4 (zs1 (zs1 (zs1 (zs0))))))))) rfl rfl rfl ⟨rfl, hz_yX13_stop_0⟩ ⟨(show 0 + 1 ≤ 7 * n + 8 from nl_1 (Nat.le_of_ble_eq_true rfl)), (show 8 + (1 + 11) + 40 * (0) ≤ 40 * (7 * n + 8) from nl_2 (Nat.le_of_ble_eq_true rfl))⟩) ⟨HW_bl, va_recv hK hP (ci := 14) (q0 := 0) rfl (hI.ob 0 (Nat.le_of_ble_eq_true rfl) rfl), (HW_wi hP hK (WX_D hD) hS hA hEV)⟩ rfl rfl hl.1 rfl (lv_room (Nat.le_of_ble_eq_true rfl)) dX13_compares_38 ⟨Nat.le_of_ble_eq_true rfl, Nat.le_of_ble_eq_true rfl⟩) (WX_D hD) hS hA (fun r147 E148 H locs hw hP hS => ?_)
          obtain ⟨hI, kq149, hw⟩ := hw
          have hKb := hKp
          have hKp := hKp.tr kq149 (wl_sub rfl rfl)
          obtain ⟨y150, ey150⟩ : ∃ y, xi (E148 0) 22 = y := ⟨_, rfl⟩
          have fy150 : xv (E148 0) 22 = .int y150 := (hI.fi 0 (Nat.le_of_ble_eq_true rfl) rfl (Nat.le_of_ble_eq_true rfl) rfl).trans (congrArg Value.int ey150)
          have iy150 : -1 ≤ y150.toInt ∧ y150.toInt ≤ 201 := by rw [← ey150]; exact hI.iv 0 (Nat.le_of_ble_eq_true rfl) rfl (Nat.le_of_ble_eq_true rfl) rfl
          obtain ⟨rfl, f151, f152⟩ := hw
          try rw [(show xi (E93 0) 22 = y2 from vi_e ((kq94 0 22 rfl).trans fy2))] at f151
          try rw [(show xi (E148 0) 22 = y150 from vi_e fy150)] at f151
          rw [hQ]
          exact W.zret (v := 0) hx hb hr rfl (fun t ht hW => ⟨⟨0, E148, rfl, ⟨hI, hKp, ⟨(iv_w ln_0 (by decide)), by (try rw [(show xi (E148 0) 21 = y95 from vi_e ((kq149 0 21 rfl).trans fy95))]); (try rw [ey1]); first | done | exact f97 | have h8 := ln_0; all_goals omega, by (try rw [(show xi (E148 0) 23 = y3 from vi_e ((kq149 0 23 rfl).trans ((kq94 0 23 rfl).trans fy3)))]); (try rw [ey3]); first | done | exact Int.le_refl _ | have h8 := ln_0; all_goals omega, by (try rw [(show xi (E148 0) 22 = y150 from vi_e fy150)]); (try rw [(show xi (E148 0) 23 = y3 from vi_e ((kq149 0 23 rfl).trans ((kq94 0 23 rfl).trans fy3)))]); (try rw [ey2]); (try rw [ey3]); first | done | exact fun q9 => absurd (q9) f151 | have h8 := ln_0; all_goals omega, by (try rw [(show xi (E148 0) 22 = y150 from vi_e fy150)]); (try rw [ey2]); first | done | exact fun q9 => absurd (q9) f151 | have h8 := ln_0; all_goals omega, cpM_1 (by omega) (cmM_no f100 (fun q9 => by have q8 := is_cmp.mp q9; omega) f152), RdW.nf (by show ¬ (xi (E148 0) 22).toInt = -1; rw [show xi (E148 0) 22 = y150 from vi_e fy150]; omega)⟩⟩, by show va_P (dC, dI) vwCl (WX 72 ad E148) t.heap; rw [ht]; exact hP⟩, hS.F ht⟩) hS.2.2 dX13_compares_41
    · --18 not
      have t153 : ¬ y2.toInt = -1 := ti_ne c89
      have i154 : 0 ≤ y2.toInt ∧ y2.toInt ≤ 201 := iv_ne_l t153 iy2 (il_ (-1))
      refine lv_iconst (v := 0) hx hb dX13_compares_21 (by decide) ?_
      rw [hQ]
      exact W.zret (v := 0) hx hb hr rfl (fun t ht hW => ⟨⟨0, E, rfl, ⟨hI, hKp, ⟨(iv_w ln_0 (by decide)), by (try rw [(show xi (E 0) 21 = y1 from vi_e fy1)]); (try rw [ey1]); first | done | exact Int.le_refl _ | have h8 := ln_0; all_goals omega, by (try rw [(show xi (E 0) 23 = y3 from vi_e fy3)]); (try rw [ey3]); first | done | exact Int.le_refl _ | have h8 := ln_0; all_goals omega, by (try rw [(show xi (E 0) 22 = y2 from vi_e fy2)]); (try rw [(show xi (E 0) 23 = y3 from vi_e fy3)]); (try rw [ey2]); (try rw [ey3]); first | done | exact fun q9 => rfl | have h8 := ln_0; all_goals omega, by (try rw [(show xi (E 0) 22 = y2 from vi_e fy2)]); (try rw [ey2]); first | done | exact fun q9 => q9 | have h8 := ln_0; all_goals omega, cpM_1 (by omega) (RdM.dead (by show ¬ (xi (E 0) 22).toInt = -1; rw [show xi (E 0) 22 = y2 from vi_e fy2]; omega)), RdW.nf (by show ¬ (xi (E 0) 22).toInt = -1; rw [show xi (E 0) 22 = y2 from vi_e fy2]; omega)⟩⟩, by show va_P (dC, dI) vwCl (WX 72 ad E) t.heap; rw [ht]; exact hP⟩, hS.F ht⟩) hS.2.2 dX13_compares_22
set_option maxHeartbeats 4000000 in
set_option maxRecDepth 100000 in
theorem q_unitW (l : Launch) (n : Nat) (gC : C_comparesW l n) (gU : ∀ k, k < n → C_unitW l k) (gO : ∀ k, k < n → C_conditionW l k) : C_unitW l n := by
  intro dC dI cT ad E sz k nl hI0 hh0 hh1 hh2 hh3 hh4 hh5 hh6
  refine Met.ofW (cc := cX13_unit) (maxL := 3) (ret := (some .boolean)) (by decide) rfl ?_
  intro p e s m args below meth c s₁ B hml hv
  obtain ⟨hargs, hsz, hP, hK, hD0, hEV⟩ := hv
  subst hsz
  have hx := B.exec
  have hb := B.bytes
  have hr := B.returns
  have hts := atoms_spec (ws := v_unitW) B.pre
  have hown : s.vm.findClass RX13 = some m.cls := findClass_of_methodNamed B.named
  have hlocks := B.notSynchronized
  have hinX13 : ∀ w ∈ u_ws RX13 TX13 97, w ∈ v_unitW := fun w h => vA_in _ w (in_X13 w h)
  generalize hAe : va_A (WX 72 ad E) s.heap.size = A at hEV ⊢
  have hA : ∀ q : Nat, s.heap.size ≤ q → A q := fun q h => by rw [← hAe]; exact Or.inr h
  have hD : va_D A (WX 72 ad E) := by rw [← hAe]; exact hD0.self
  have hS : va_S A s.heap s.heap [] := va_S.rf
  have hI := hI0
  have hKp : Kp w_unitW E E := Kp.rf
  have hl := lv_entry ([.ref (ad 0)]) (n := 3) (Nat.le_of_ble_eq_true rfl)
  obtain ⟨Q, hQ⟩ : ∃ Q, Q = MQ below (va_Qi (S := Nat → va_E) (fun r u => IX cT shM spM 72 ad u ∧ Kp w_unitW E u ∧ ((0 ≤ r.toInt ∧ r.toInt ≤ 1) ∧ ((xi (E 0) 21).toInt ≤ (xi (u 0) 21).toInt) ∧ ((xi (E 0) 23).toInt ≤ (xi (u 0) 23).toInt) ∧ ((xi (u 0) 22).toInt = -1 → (xi (u 0) 23).toInt = (xi (E 0) 23).toInt) ∧ ((xi (u 0) 22).toInt = -1 → (xi (E 0) 22).toInt = -1) ∧ (RdM k (unY 0 n) E u) ∧ (RdW k [] (unY 0 n) E u r))) (HB dC dI 72 ad) (A)) args s 0 0 (A) := ⟨_, rfl⟩
  rw [← hQ, show entryFrame m args 3 = _ from (congrArg (fun z => entryFrame m z 3) hargs).trans (lg_entry_eq _ _ _)]
  generalize (lg_sl ([.ref (ad 0)]) ++ List.replicate (3 - (lg_sl ([.ref (ad 0)])).length) Slot.unset).toArray = ls at hl ⊢
  have hl : lv_has ls 3 [(0, .ref (ad 0))] := hl
  obtain ⟨y1, ey1⟩ : ∃ y, xi (E 0) 21 = y := ⟨_, rfl⟩
  have fy1 : xv (E 0) 21 = .int y1 := (hI.fi 0 (Nat.le_of_ble_eq_true rfl) rfl (Nat.le_of_ble_eq_true rfl) rfl).trans (congrArg Value.int ey1)
  have iy1 : 0 ≤ y1.toInt ∧ y1.toInt ≤ 201 := by rw [← ey1]; exact hI.iv 0 (Nat.le_of_ble_eq_true rfl) rfl (Nat.le_of_ble_eq_true rfl) rfl
  obtain ⟨y2, ey2⟩ : ∃ y, xi (E 0) 22 = y := ⟨_, rfl⟩
  have fy2 : xv (E 0) 22 = .int y2 := (hI.fi 0 (Nat.le_of_ble_eq_true rfl) rfl (Nat.le_of_ble_eq_true rfl) rfl).trans (congrArg Value.int ey2)
  have iy2 : -1 ≤ y2.toInt ∧ y2.toInt ≤ 201 := by rw [← ey2]; exact hI.iv 0 (Nat.le_of_ble_eq_true rfl) rfl (Nat.le_of_ble_eq_true rfl) rfl
  rw [ey2] at hh6
  obtain ⟨y3, ey3⟩ : ∃ y, xi (E 0) 23 = y := ⟨_, rfl⟩
  have fy3 : xv (E 0) 23 = .int y3 := (hI.fi 0 (Nat.le_of_ble_eq_true rfl) rfl (Nat.le_of_ble_eq_true rfl) rfl).trans (congrArg Value.int ey3)
  have iy3 : 0 ≤ y3.toInt ∧ y3.toInt ≤ 8 := by rw [← ey3]; exact hI.iv 0 (Nat.le_of_ble_eq_true rfl) rfl (Nat.le_of_ble_eq_true rfl) rfl
  rw [ey3] at hh5
  have hk0 : ¬ k = 0 := fun q9 => by rw [q9] at hh1; exact absurd (show (shM 0).1 = 1 from congrArg Prod.fst hh1) (by decide)
  refine lv_aload_n hx hb dX13_unit_0 rfl (lv_at hl 0 rfl) ?_
  refine th_i (va_runV (As := []) (rest := []) ⟨hx, hb, hml, hown, hts⟩ (q_lookX l dC dI cT ad E s.heap.size k nl hI (by exact hh0) (by exact hh1) (by exact hh2) (by exact hh3) (by exact hh4)) (cwV 0 hts (gi_V (in_26 _ (zs1 (zs1 (zs0)))) (in_26 _ (zs1 (zs1 (zs1 (zs0))))) (in_26 _ (zs4 (zs0))) (in_24 _ (zs4 (zs4 (zs4 (zs1 (zs1 (zs1 (zs0)))))))) (in_26 _ (zs4 (zs1 (zs0))))) rfl rfl rfl ⟨rfl, hz_yX13_look_0⟩ ⟨(show 0 + 1 ≤ 7 * n + 9 from nl_1 (Nat.le_of_ble_eq_true rfl)), (show 8 + (1 + 11) + 40 * (0) ≤ 40 * (7 * n + 9) from nl_2 (Nat.le_of_ble_eq_true rfl))⟩) ⟨HW_bl, va_recv hK hP (ci := 14) (q0 := 0) rfl (hI.ob 0 (Nat.le_of_ble_eq_true rfl) rfl), (HW_wi hP hK (WX_D hD) hS hA hEV)⟩ rfl rfl hl.1 rfl (lv_room (Nat.le_of_ble_eq_true rfl)) dX13_unit_1 ⟨Nat.le_of_ble_eq_true rfl, Nat.le_of_ble_eq_true rfl⟩) (WX_D hD) hS hA (fun r4 E5 H locs hw hP hS => ?_)
  obtain ⟨hI, kq6, hw⟩ := hw
  have hKb := hKp
  have hKp := hKp.tr kq6 (wl_sub rfl rfl)
  obtain ⟨y7, ey7⟩ : ∃ y, xi (E5 0) 21 = y := ⟨_, rfl⟩
  have fy7 : xv (E5 0) 21 = .int y7 := (hI.fi 0 (Nat.le_of_ble_eq_true rfl) rfl (Nat.le_of_ble_eq_true rfl) rfl).trans (congrArg Value.int ey7)
  have iy7 : 0 ≤ y7.toInt ∧ y7.toInt ≤ 201 := by rw [← ey7]; exact hI.iv 0 (Nat.le_of_ble_eq_true rfl) rfl (Nat.le_of_ble_eq_true rfl) rfl
  obtain ⟨f8, f9, f10, f11, f12⟩ := hw
  have i13 : 0 ≤ (xi (E 0) 19).toInt ∧ (xi (E 0) 19).toInt ≤ 3000 := (show 0 ≤ (xi (E 0) 19).toInt ∧ (xi (E 0) 19).toInt ≤ 3000 from hI0.iv 0 (Nat.le_of_ble_eq_true rfl) rfl (Nat.le_of_ble_eq_true rfl) rfl)
  have i14 : 0 ≤ (xi (E 0) 20).toInt ∧ (xi (E 0) 20).toInt ≤ 200 := (show 0 ≤ (xi (E 0) 20).toInt ∧ (xi (E 0) 20).toInt ≤ 200 from hI0.iv 0 (Nat.le_of_ble_eq_true rfl) rfl (Nat.le_of_ble_eq_true rfl) rfl)
  try rw [(show xi (E 0) 21 = y1 from vi_e fy1)] at f9
  try rw [(show xi (E5 0) 21 = y7 from vi_e fy7)] at f9
  try rw [(show xi (E 0) 21 = y1 from vi_e fy1)] at f10
  try rw [(show xi (E5 0) 21 = y7 from vi_e fy7)] at f10
  try rw [(show xi (E 0) 21 = y1 from vi_e fy1)] at f11
  try rw [(show xi (E5 0) 21 = y7 from vi_e fy7)] at f11
  refine lv_istore_n (lv' := [(1, .int r4), (0, .ref (ad 0))]) hx hb dX13_unit_4 rfl hl (by decide) rfl (fun ls hl => ?_)
  refine lv_iload_n hx hb dX13_unit_5 rfl (lv_at hl 0 rfl) ?_
  refine lv_bipush (v := 33) hx hb dX13_unit_6 (by decide) ?_
  refine lv_icmp_ne (tgt := 45) hx hb dX13_unit_8 (by decide) (fun c15 => ?_) (fun c15 => ?_)
  · --8 taken
    have t16 : ¬ r4.toInt = 33 := ti_ne c15
    refine lv_iload_n hx hb dX13_unit_45 rfl (lv_at hl 0 rfl) ?_
    refine lv_bipush (v := 40) hx hb dX13_unit_46 (by decide) ?_
    refine lv_icmp_ne (tgt := 90) hx hb dX13_unit_48 (by decide) (fun c17 => ?_) (fun c17 => ?_)
    · --48 taken
      have t18 : ¬ r4.toInt = 40 := ti_ne c17
      have k19 : MZ E E5 := MZ.kp hKp (fun _ => rfl)
      refine lv_aload_n hx hb dX13_unit_90 rfl (lv_at hl 1 rfl) ?_
      refine lv_iconst (v := 0) hx hb dX13_unit_91 (by decide) ?_
      refine lv_iconst (v := 0) hx hb dX13_unit_92 (by decide) ?_
      have z0 := ln_0
      refine th_i (va_runV (As := [.int 0, .int 0]) (rest := []) ⟨hx, hb, hml, hown, hts⟩ (gC dC dI cT ad E5 H.size (0 : Int32) (0 : Int32) k nl hI (by exact hh0) (by exact hh1) (by exact hh2) (by exact (hKp 0 18 rfl).trans hh3) (by (try rw [hKp.ei 0 19 rfl]); exact hh4) (by (try rw [(show xi (E5 0) 23 = y3 from vi_e ((kq6 0 23 rfl).trans fy3))]); omega) (by (try rw [(show xi (E5 0) 22 = y2 from vi_e ((kq6 0 22 rfl).trans fy2))]); omega) (iv_w ln_0 (by decide))) (cwV 2 hts (gi_V (in_29 _ (zs16 (zs4 (zs4 (zs1 (zs1 (zs0))))))) (in_29 _ (zs16 (zs4 (zs4 (zs1 (zs1 (zs1 (zs0)))))))) (in_29 _ (zs16 (zs4 (zs4 (zs4 (zs0)))))) (in_24 _ (zs4 (zs4 (zs4 (zs1 (zs1 (zs1 (zs0)))))))) (in_29 _ (zs16 (zs4 (zs4 (zs4 (zs1 (zs0)))))))) rfl rfl rfl (by decide +kernel) ⟨(show 7 * n + 8 + 1 ≤ 7 * n + 9 from nl_4 (Nat.le_of_ble_eq_true rfl) (Nat.le_of_ble_eq_true rfl)), (show 8 + (6 + 11) + 40 * (7 * n + 8) ≤ 40 * (7 * n + 9) from nl_3 (Nat.le_of_ble_eq_true rfl) (Nat.le_of_ble_eq_true rfl))⟩) ⟨HW_bl, va_recv hK hP (ci := 14) (q0 := 0) rfl (hI.ob 0 (Nat.le_of_ble_eq_true rfl) rfl), (HW_wi hP hK (WX_D hD) hS hA hEV)⟩ rfl rfl hl.1 rfl (lv_room (Nat.le_of_ble_eq_true rfl)) dX13_unit_93 ⟨Nat.le_of_ble_eq_true rfl, Nat.le_of_ble_eq_true rfl⟩) (WX_D hD) hS hA (fun r20 E21 H locs hw hP hS => ?_)
      obtain ⟨hI, kq22, hw⟩ := hw
      have hKb := hKp
      have hKp := hKp.tr kq22 (wl_sub rfl rfl)
      obtain ⟨y23, ey23⟩ : ∃ y, xi (E21 0) 21 = y := ⟨_, rfl⟩
      have fy23 : xv (E21 0) 21 = .int y23 := (hI.fi 0 (Nat.le_of_ble_eq_true rfl) rfl (Nat.le_of_ble_eq_true rfl) rfl).trans (congrArg Value.int ey23)
      have iy23 : 0 ≤ y23.toInt ∧ y23.toInt ≤ 201 := by rw [← ey23]; exact hI.iv 0 (Nat.le_of_ble_eq_true rfl) rfl (Nat.le_of_ble_eq_true rfl) rfl
      obtain ⟨y24, ey24⟩ : ∃ y, xi (E21 0) 22 = y := ⟨_, rfl⟩
      have fy24 : xv (E21 0) 22 = .int y24 := (hI.fi 0 (Nat.le_of_ble_eq_true rfl) rfl (Nat.le_of_ble_eq_true rfl) rfl).trans (congrArg Value.int ey24)
      have iy24 : -1 ≤ y24.toInt ∧ y24.toInt ≤ 201 := by rw [← ey24]; exact hI.iv 0 (Nat.le_of_ble_eq_true rfl) rfl (Nat.le_of_ble_eq_true rfl) rfl
      obtain ⟨y25, ey25⟩ : ∃ y, xi (E21 0) 23 = y := ⟨_, rfl⟩
      have fy25 : xv (E21 0) 23 = .int y25 := (hI.fi 0 (Nat.le_of_ble_eq_true rfl) rfl (Nat.le_of_ble_eq_true rfl) rfl).trans (congrArg Value.int ey25)
      have iy25 : 0 ≤ y25.toInt ∧ y25.toInt ≤ 8 := by rw [← ey25]; exact hI.iv 0 (Nat.le_of_ble_eq_true rfl) rfl (Nat.le_of_ble_eq_true rfl) rfl
      obtain ⟨f26, f27, f28, f29, f30, f31, f32⟩ := hw
      try rw [(show xi (E5 0) 21 = y7 from vi_e fy7)] at f27
      try rw [(show xi (E21 0) 21 = y23 from vi_e fy23)] at f27
      try rw [(show xi (E5 0) 23 = y3 from vi_e ((kq6 0 23 rfl).trans fy3))] at f28
      try rw [(show xi (E21 0) 23 = y25 from vi_e fy25)] at f28
      try rw [(show xi (E5 0) 22 = y2 from vi_e ((kq6 0 22 rfl).trans fy2))] at f29
      try rw [(show xi (E5 0) 23 = y3 from vi_e ((kq6 0 23 rfl).trans fy3))] at f29
      try rw [(show xi (E21 0) 22 = y24 from vi_e fy24)] at f29
      try rw [(show xi (E21 0) 23 = y25 from vi_e fy25)] at f29
      try rw [(show xi (E5 0) 22 = y2 from vi_e ((kq6 0 22 rfl).trans fy2))] at f30
      try rw [(show xi (E21 0) 22 = y24 from vi_e fy24)] at f30
      rw [hQ]
      exact W.zret (v := r20) hx hb hr (nar_b1 f26) (fun t ht hW => ⟨⟨r20, E21, rfl, ⟨hI, hKp, ⟨f26, by (try rw [(show xi (E21 0) 21 = y23 from vi_e fy23)]); (try rw [ey1]); first | done | exact (Int.le_trans f9 f27) | all_goals omega, by (try rw [(show xi (E21 0) 23 = y25 from vi_e fy25)]); (try rw [ey3]); first | done | exact f28 | all_goals omega, by (try rw [(show xi (E21 0) 22 = y24 from vi_e fy24)]); (try rw [(show xi (E21 0) 23 = y25 from vi_e fy25)]); (try rw [ey2]); (try rw [ey3]); first | done | exact fun q9 => (f29 (q9)) | all_goals omega, by (try rw [(show xi (E21 0) 22 = y24 from vi_e fy24)]); (try rw [ey2]); first | done | exact fun q9 => f30 (q9) | all_goals omega, unM_k f12 (by omega) (by omega) f31, unW_k f12 (by omega) (by omega) k19 f32⟩⟩, by show va_P (dC, dI) vwCl (WX 72 ad E21) t.heap; rw [ht]; exact hP⟩, hS.F ht⟩) hS.2.2 dX13_unit_96
    · --48 not
      have t33 : r4.toInt = 40 := ti_eq c17
      have i34 : 40 ≤ r4.toInt ∧ r4.toInt ≤ 40 := iv_eqi t33 f8 (il_ 40) (by decide)
      refine lv_aload_n hx hb dX13_unit_51 rfl (lv_at hl 1 rfl) ?_
      refine th_i (va_runV (As := []) (rest := []) ⟨hx, hb, hml, hown, hts⟩ (q_goesInX l dC dI cT ad E5 H.size k nl hI (by exact hh0) (by exact hh1) (by exact hh2) (by exact (hKp 0 18 rfl).trans hh3) (by (try rw [hKp.ei 0 19 rfl]); exact hh4) (by (try rw [(show xi (E5 0) 21 = y7 from vi_e fy7)]); omega)) (cwV 0 hts (gi_V (in_26 _ (zs4 (zs4 (zs0)))) (in_26 _ (zs4 (zs4 (zs1 (zs0))))) (in_26 _ (zs4 (zs4 (zs1 (zs1 (zs0)))))) (in_24 _ (zs4 (zs4 (zs4 (zs1 (zs1 (zs1 (zs0)))))))) (in_26 _ (zs4 (zs4 (zs1 (zs1 (zs1 (zs0)))))))) rfl rfl rfl ⟨rfl, hz_yX13_goesIn_0⟩ ⟨(show 1 + 1 ≤ 7 * n + 9 from nl_1 (Nat.le_of_ble_eq_true rfl)), (show 8 + (1 + 11) + 40 * (1) ≤ 40 * (7 * n + 9) from nl_2 (Nat.le_of_ble_eq_true rfl))⟩) ⟨HW_bl, va_recv hK hP (ci := 14) (q0 := 0) rfl (hI.ob 0 (Nat.le_of_ble_eq_true rfl) rfl), (HW_wi hP hK (WX_D hD) hS hA hEV)⟩ rfl rfl hl.1 rfl (lv_room (Nat.le_of_ble_eq_true rfl)) dX13_unit_52 ⟨Nat.le_of_ble_eq_true rfl, Nat.le_of_ble_eq_true rfl⟩) (WX_D hD) hS hA (fun r35 E36 H locs hw hP hS => ?_)
      obtain ⟨hI, kq37, hw⟩ := hw
      have hKb := hKp
      have hKp := hKp.tr kq37 (wl_sub rfl rfl)
      obtain ⟨y38, ey38⟩ : ∃ y, xi (E36 0) 21 = y := ⟨_, rfl⟩
      have fy38 : xv (E36 0) 21 = .int y38 := (hI.fi 0 (Nat.le_of_ble_eq_true rfl) rfl (Nat.le_of_ble_eq_true rfl) rfl).trans (congrArg Value.int ey38)
      have iy38 : 0 ≤ y38.toInt ∧ y38.toInt ≤ 201 := by rw [← ey38]; exact hI.iv 0 (Nat.le_of_ble_eq_true rfl) rfl (Nat.le_of_ble_eq_true rfl) rfl
      obtain ⟨y39, ey39⟩ : ∃ y, xi (E36 0) 22 = y := ⟨_, rfl⟩
      have fy39 : xv (E36 0) 22 = .int y39 := (hI.fi 0 (Nat.le_of_ble_eq_true rfl) rfl (Nat.le_of_ble_eq_true rfl) rfl).trans (congrArg Value.int ey39)
      have iy39 : -1 ≤ y39.toInt ∧ y39.toInt ≤ 201 := by rw [← ey39]; exact hI.iv 0 (Nat.le_of_ble_eq_true rfl) rfl (Nat.le_of_ble_eq_true rfl) rfl
      obtain ⟨y40, ey40⟩ : ∃ y, xi (E36 0) 23 = y := ⟨_, rfl⟩
      have fy40 : xv (E36 0) 23 = .int y40 := (hI.fi 0 (Nat.le_of_ble_eq_true rfl) rfl (Nat.le_of_ble_eq_true rfl) rfl).trans (congrArg Value.int ey40)
      have iy40 : 0 ≤ y40.toInt ∧ y40.toInt ≤ 8 := by rw [← ey40]; exact hI.iv 0 (Nat.le_of_ble_eq_true rfl) rfl (Nat.le_of_ble_eq_true rfl) rfl
      rcases hw with hw | hw
      · -- goesInX, case 0
        obtain ⟨rfl, f41, f42, f43, f44, f45⟩ := hw
        try rw [(show xi (E5 0) 23 = y3 from vi_e ((kq6 0 23 rfl).trans fy3))] at f41
        try rw [(show xi (E36 0) 23 = y40 from vi_e fy40)] at f41
        try rw [(show xi (E5 0) 22 = y2 from vi_e ((kq6 0 22 rfl).trans fy2))] at f42
        try rw [(show xi (E36 0) 22 = y39 from vi_e fy39)] at f42
        try rw [(show xi (E5 0) 23 = y3 from vi_e ((kq6 0 23 rfl).trans fy3))] at f43
        try rw [(show xi (E36 0) 23 = y40 from vi_e fy40)] at f43
        try rw [(show xi (E5 0) 21 = y7 from vi_e fy7)] at f44
        try rw [(show xi (E36 0) 21 = y38 from vi_e fy38)] at f44
        obtain ⟨k9, hk9⟩ : ∃ k9, n = k9 + 1 := ⟨n - 1, by omega⟩
        refine lv_if_ne (tgt := 60) hx hb dX13_unit_55 (by decide) (fun c46 => ?_) (fun c46 => ?_)
        · --55 taken
          have k47 : MZ E E36 := MZ.kp hKp (fun _ => rfl)
          refine lv_aload_n hx hb dX13_unit_60 rfl (lv_at hl 1 rfl) ?_
          refine lv_iconst (v := 0) hx hb dX13_unit_61 (by decide) ?_
          refine lv_iconst (v := 0) hx hb dX13_unit_62 (by decide) ?_
          have z0 := ln_0
          refine th_i (va_runV (As := [.int 0, .int 0]) (rest := []) ⟨hx, hb, hml, hown, hts⟩ ((gO k9 (by omega)) dC dI cT ad E36 H.size (0 : Int32) (0 : Int32) k nl hI (by exact hh0) (by exact hh1) (by exact hh2) (by exact (hKp 0 18 rfl).trans hh3) (by (try rw [hKp.ei 0 19 rfl]); exact hh4) (by (try rw [(show xi (E36 0) 23 = y40 from vi_e fy40)]); omega) (by (try rw [(show xi (E36 0) 22 = y39 from vi_e fy39)]); omega) (iv_w ln_0 (by decide))) (cwV 2 hts (gi_V (in_29 _ (zs16 (zs1 (zs1 (zs0))))) (in_29 _ (zs16 (zs1 (zs1 (zs1 (zs0)))))) (in_29 _ (zs16 (zs4 (zs0)))) (in_24 _ (zs4 (zs4 (zs4 (zs1 (zs1 (zs1 (zs0)))))))) (in_29 _ (zs16 (zs4 (zs1 (zs0)))))) rfl rfl rfl (by decide +kernel) ⟨(show 7 * k9 + 11 + 1 ≤ 7 * n + 9 by omega), (show 8 + (5 + 11) + 40 * (7 * k9 + 11) ≤ 40 * (7 * n + 9) by omega)⟩) ⟨HW_bl, va_recv hK hP (ci := 14) (q0 := 0) rfl (hI.ob 0 (Nat.le_of_ble_eq_true rfl) rfl), (HW_wi hP hK (WX_D hD) hS hA hEV)⟩ rfl rfl hl.1 rfl (lv_room (Nat.le_of_ble_eq_true rfl)) dX13_unit_63 ⟨Nat.le_of_ble_eq_true rfl, Nat.le_of_ble_eq_true rfl⟩) (WX_D hD) hS hA (fun r48 E49 H locs hw hP hS => ?_)
          obtain ⟨hI, kq50, hw⟩ := hw
          have hKb := hKp
          have hKp := hKp.tr kq50 (wl_sub rfl rfl)
          obtain ⟨y51, ey51⟩ : ∃ y, xi (E49 0) 21 = y := ⟨_, rfl⟩
          have fy51 : xv (E49 0) 21 = .int y51 := (hI.fi 0 (Nat.le_of_ble_eq_true rfl) rfl (Nat.le_of_ble_eq_true rfl) rfl).trans (congrArg Value.int ey51)
          have iy51 : 0 ≤ y51.toInt ∧ y51.toInt ≤ 201 := by rw [← ey51]; exact hI.iv 0 (Nat.le_of_ble_eq_true rfl) rfl (Nat.le_of_ble_eq_true rfl) rfl
          obtain ⟨y52, ey52⟩ : ∃ y, xi (E49 0) 22 = y := ⟨_, rfl⟩
          have fy52 : xv (E49 0) 22 = .int y52 := (hI.fi 0 (Nat.le_of_ble_eq_true rfl) rfl (Nat.le_of_ble_eq_true rfl) rfl).trans (congrArg Value.int ey52)
          have iy52 : -1 ≤ y52.toInt ∧ y52.toInt ≤ 201 := by rw [← ey52]; exact hI.iv 0 (Nat.le_of_ble_eq_true rfl) rfl (Nat.le_of_ble_eq_true rfl) rfl
          obtain ⟨y53, ey53⟩ : ∃ y, xi (E49 0) 23 = y := ⟨_, rfl⟩
          have fy53 : xv (E49 0) 23 = .int y53 := (hI.fi 0 (Nat.le_of_ble_eq_true rfl) rfl (Nat.le_of_ble_eq_true rfl) rfl).trans (congrArg Value.int ey53)
          have iy53 : 0 ≤ y53.toInt ∧ y53.toInt ≤ 8 := by rw [← ey53]; exact hI.iv 0 (Nat.le_of_ble_eq_true rfl) rfl (Nat.le_of_ble_eq_true rfl) rfl
          obtain ⟨f54, f55, f56, f57, f58, f59, f60⟩ := hw
          try rw [(show xi (E36 0) 21 = y38 from vi_e fy38)] at f55
          try rw [(show xi (E49 0) 21 = y51 from vi_e fy51)] at f55
          try rw [(show xi (E36 0) 23 = y40 from vi_e fy40)] at f56
          try rw [(show xi (E49 0) 23 = y53 from vi_e fy53)] at f56
          try rw [(show xi (E36 0) 22 = y39 from vi_e fy39)] at f57
          try rw [(show xi (E36 0) 23 = y40 from vi_e fy40)] at f57
          try rw [(show xi (E49 0) 22 = y52 from vi_e fy52)] at f57
          try rw [(show xi (E49 0) 23 = y53 from vi_e fy53)] at f57
          try rw [(show xi (E36 0) 22 = y39 from vi_e fy39)] at f58
          try rw [(show xi (E49 0) 22 = y52 from vi_e fy52)] at f58
          refine lv_istore_n (lv' := [(2, .int r48), (1, .int r4), (0, .ref (ad 0))]) hx hb dX13_unit_66 rfl hl (by decide) rfl (fun ls hl => ?_)
          refine lv_aload_n hx hb dX13_unit_67 rfl (lv_at hl 2 rfl) ?_
          refine lv_bipush (v := 41) hx hb dX13_unit_68 (by decide) ?_
          have z41 := ln_41
          refine th_i (va_runV (As := [.int 41]) (rest := []) ⟨hx, hb, hml, hown, hts⟩ (q_takesX l dC dI cT ad E49 H.size (41 : Int32) k nl hI (by exact hh0) (by exact hh1) (by exact hh2) (by exact (hKp 0 18 rfl).trans hh3) (by (try rw [hKp.ei 0 19 rfl]); exact hh4) (iv_w ln_41 (by decide))) (cwV 1 hts (gi_V (in_26 _ (zs16 (zs1 (zs1 (zs1 (zs0)))))) (in_26 _ (zs16 (zs4 (zs0)))) (in_26 _ (zs16 (zs4 (zs1 (zs0))))) (in_24 _ (zs4 (zs4 (zs4 (zs1 (zs1 (zs1 (zs0)))))))) (in_26 _ (zs16 (zs4 (zs1 (zs1 (zs0))))))) rfl rfl rfl ⟨rfl, hz_yX13_takes_1⟩ ⟨(show 1 + 1 ≤ 7 * n + 9 from nl_1 (Nat.le_of_ble_eq_true rfl)), (show 8 + (2 + 11) + 40 * (1) ≤ 40 * (7 * n + 9) from nl_2 (Nat.le_of_ble_eq_true rfl))⟩) ⟨HW_bl, va_recv hK hP (ci := 14) (q0 := 0) rfl (hI.ob 0 (Nat.le_of_ble_eq_true rfl) rfl), (HW_wi hP hK (WX_D hD) hS hA hEV)⟩ rfl rfl hl.1 rfl (lv_room (Nat.le_of_ble_eq_true rfl)) dX13_unit_70 ⟨Nat.le_of_ble_eq_true rfl, Nat.le_of_ble_eq_true rfl⟩) (WX_D hD) hS hA (fun r61 E62 H locs hw hP hS => ?_)
          obtain ⟨hI, kq63, hw⟩ := hw
          have hKb := hKp
          have hKp := hKp.tr kq63 (wl_sub rfl rfl)
          obtain ⟨y64, ey64⟩ : ∃ y, xi (E62 0) 21 = y := ⟨_, rfl⟩
          have fy64 : xv (E62 0) 21 = .int y64 := (hI.fi 0 (Nat.le_of_ble_eq_true rfl) rfl (Nat.le_of_ble_eq_true rfl) rfl).trans (congrArg Value.int ey64)
          have iy64 : 0 ≤ y64.toInt ∧ y64.toInt ≤ 201 := by rw [← ey64]; exact hI.iv 0 (Nat.le_of_ble_eq_true rfl) rfl (Nat.le_of_ble_eq_true rfl) rfl
          obtain ⟨y65, ey65⟩ : ∃ y, xi (E62 0) 22 = y := ⟨_, rfl⟩
          have fy65 : xv (E62 0) 22 = .int y65 := (hI.fi 0 (Nat.le_of_ble_eq_true rfl) rfl (Nat.le_of_ble_eq_true rfl) rfl).trans (congrArg Value.int ey65)
          have iy65 : -1 ≤ y65.toInt ∧ y65.toInt ≤ 201 := by rw [← ey65]; exact hI.iv 0 (Nat.le_of_ble_eq_true rfl) rfl (Nat.le_of_ble_eq_true rfl) rfl
          rcases hw with hw | hw
          · -- takesX, case 0
            obtain ⟨rfl, f66, f67, f68, f69, f70⟩ := hw
            try rw [(show xi (E49 0) 22 = y52 from vi_e fy52)] at f66
            try rw [(show xi (E62 0) 22 = y65 from vi_e fy65)] at f66
            try rw [(show xi (E49 0) 22 = y52 from vi_e fy52)] at f67
            try rw [(show xi (E62 0) 22 = y65 from vi_e fy65)] at f67
            try rw [(show xi (E49 0) 21 = y51 from vi_e fy51)] at f68
            try rw [(show xi (E62 0) 21 = y64 from vi_e fy64)] at f68
            try rw [(show xi (E49 0) 21 = y51 from vi_e fy51)] at f69
            try rw [(show xi (E62 0) 21 = y64 from vi_e fy64)] at f69
            refine lv_if_ne (tgt := 78) hx hb dX13_unit_73 (by decide) (fun c71 => ?_) (fun c71 => ?_)
            · --73 taken
              refine lv_aload_n hx hb dX13_unit_78 rfl (lv_at hl 2 rfl) ?_
              refine lv_dup hx hb dX13_unit_79 rfl ?_
              refine th_get (ci := 14) (C := RX13) (T := TX13) (N := 97) (v := .int y53) hx hb hts hinX13 hown hK hP hI 0 (Nat.le_of_ble_eq_true rfl) rfl rfl 23 (Nat.le_of_ble_eq_true rfl) (hts _ (vA_in _ _ (in_25 _ (zs16 (zs16 (zs4 (zs1 (zs1 (zs0))))))))) (fun _ h9 => h9) ((kq63 0 23 rfl).trans fy53) dX13_unit_80 ?_
              refine lv_iconst (v := 1) hx hb dX13_unit_83 (by decide) ?_
              refine lv_isub hx hb dX13_unit_84 ?_
              refine lv_topi (fun y72 ey72 => ?_)
              obtain ⟨ty72, iy72⟩ := ti_sub (e := (-1)) (f := 7) iy53 ln_1 ey72 (by decide)
              have ty72 : y72.toInt = y53.toInt - 1 := ty72
              have iy72 : -1 ≤ y72.toInt ∧ y72.toInt ≤ 7 := iy72
              have i73 : 0 ≤ y72.toInt ∧ y72.toInt ≤ 7 := by omega
              refine th_put (ci := 14) (C := RX13) (T := TX13) (N := 97) (v := .int y72) (ty := .int) hx hb hts hinX13 tyX13 tyX13_ok nmX13 hown hK hP (WX_D hD) hS hI 0 (Nat.le_of_ble_eq_true rfl) rfl rfl 23 (Nat.le_of_ble_eq_true rfl) (hts _ (vA_in _ _ (in_25 _ (zs16 (zs16 (zs4 (zs1 (zs1 (zs0))))))))) (fun _ h9 => h9) rfl (by decide +kernel) rfl rfl (okI rfl (iv_w i73 (by decide))) dX13_unit_85 (fun H locs E74 pw75 hI hP hS => ?_)
              have hKp := hKp.pw pw75 rfl
              have k76 : KM k E62 E74 := KM.pw pw75.2 hk0 (by decide)
              refine lv_iload_n hx hb dX13_unit_88 rfl (lv_at hl 0 rfl) ?_
              rw [hQ]
              exact W.zret (v := r48) hx hb hr (nar_b1 f54) (fun t ht hW => ⟨⟨r48, E74, rfl, ⟨hI, hKp, ⟨f54, by (try rw [(show xi (E74 0) 21 = y64 from vi_e ((pw75.2 0 21 (fun q9 => absurd q9.2 (Nat.ne_of_beq_eq_false rfl))).trans fy64))]); (try rw [ey1]); first | done | exact (Int.le_trans (Int.le_trans (Int.le_trans f9 (Int.le_trans (Int.le_add_of_nonneg_right (by decide)) (Int.le_of_eq f44.symm))) f55) f69) | all_goals omega, by (try rw [(show xi (E74 0) 23 = y72 from vi_e pw75.1)]); (try rw [ey1]); (try rw [ey2]); (try rw [ey3]); all_goals omega, by (try rw [(show xi (E74 0) 22 = y65 from vi_e ((pw75.2 0 22 (fun q9 => absurd q9.2 (Nat.ne_of_beq_eq_false rfl))).trans fy65))]); (try rw [(show xi (E74 0) 23 = y72 from vi_e pw75.1)]); (try rw [ey1]); (try rw [ey2]); (try rw [ey3]); all_goals omega, by (try rw [(show xi (E74 0) 22 = y65 from vi_e ((pw75.2 0 22 (fun q9 => absurd q9.2 (Nat.ne_of_beq_eq_false rfl))).trans fy65))]); (try rw [ey1]); (try rw [ey2]); (try rw [ey3]); all_goals omega, (unM_p (w := 0) rfl f12 (by omega) f45 f59 f70 hk9).ks k76, (unW_p (w := 0) rfl f12 (by omega) f45 k47 f59 f60 f70 hk9).ks k76⟩⟩, by show va_P (dC, dI) vwCl (WX 72 ad E74) t.heap; rw [ht]; exact hP⟩, hS.F ht⟩) hS.2.2 dX13_unit_89
            · --73 not
              exact absurd c71 (by decide)
          · -- takesX, case 1
            obtain ⟨rfl, f77, f78, f79⟩ := hw
            try rw [(show xi (E49 0) 22 = y52 from vi_e fy52)] at f77
            try rw [(show xi (E62 0) 22 = y65 from vi_e fy65)] at f77
            try rw [(show xi (E49 0) 21 = y51 from vi_e fy51)] at f78
            try rw [(show xi (E62 0) 21 = y64 from vi_e fy64)] at f78
            refine lv_if_ne (tgt := 78) hx hb dX13_unit_73 (by decide) (fun c80 => ?_) (fun c80 => ?_)
            · --73 taken
              exact absurd c80 (by decide)
            · --73 not
              refine lv_iconst (v := 0) hx hb dX13_unit_76 (by decide) ?_
              rw [hQ]
              exact W.zret (v := 0) hx hb hr rfl (fun t ht hW => ⟨⟨0, E62, rfl, ⟨hI, hKp, ⟨(iv_w ln_0 (by decide)), by (try rw [(show xi (E62 0) 21 = y64 from vi_e fy64)]); (try rw [ey1]); first | done | exact (Int.le_trans (Int.le_trans (Int.le_trans f9 (Int.le_trans (Int.le_add_of_nonneg_right (by decide)) (Int.le_of_eq f44.symm))) f55) f78) | have h8 := ln_0; all_goals omega, by (try rw [(show xi (E62 0) 23 = y53 from vi_e ((kq63 0 23 rfl).trans fy53))]); (try rw [ey3]); first | done | exact (Int.le_trans (Int.le_trans (Int.le_add_of_nonneg_right (by decide)) (Int.le_of_eq f41.symm)) f56) | have h8 := ln_0; all_goals omega, by (try rw [(show xi (E62 0) 22 = y65 from vi_e fy65)]); (try rw [(show xi (E62 0) 23 = y53 from vi_e ((kq63 0 23 rfl).trans fy53))]); (try rw [ey2]); (try rw [ey3]); first | done | exact fun q9 => absurd (q9) f77 | have h8 := ln_0; all_goals omega, by (try rw [(show xi (E62 0) 22 = y65 from vi_e fy65)]); (try rw [ey2]); first | done | exact fun q9 => absurd (q9) f77 | have h8 := ln_0; all_goals omega, unM_p (w := 0) rfl f12 (by omega) f45 f59 f79 hk9, RdW.nf (by show ¬ (xi (E62 0) 22).toInt = -1; rw [show xi (E62 0) 22 = y65 from vi_e fy65]; omega)⟩⟩, by show va_P (dC, dI) vwCl (WX 72 ad E62) t.heap; rw [ht]; exact hP⟩, hS.F ht⟩) hS.2.2 dX13_unit_77
        · --55 not
          exact absurd c46 (by decide)
      · -- goesInX, case 1
        obtain ⟨rfl, f81, f82, f83, f84, f85⟩ := hw
        try rw [(show xi (E5 0) 23 = y3 from vi_e ((kq6 0 23 rfl).trans fy3))] at f81
        try rw [(show xi (E36 0) 23 = y40 from vi_e fy40)] at f81
        try rw [(show xi (E5 0) 22 = y2 from vi_e ((kq6 0 22 rfl).trans fy2))] at f82
        try rw [(show xi (E36 0) 22 = y39 from vi_e fy39)] at f82
        try rw [(show xi (E5 0) 21 = y7 from vi_e fy7)] at f83
        try rw [(show xi (E36 0) 21 = y38 from vi_e fy38)] at f83
        try rw [(show xi (E5 0) 23 = y3 from vi_e ((kq6 0 23 rfl).trans fy3))] at f84
        try rw [(show xi (E36 0) 23 = y40 from vi_e fy40)] at f84
        refine lv_if_ne (tgt := 60) hx hb dX13_unit_55 (by decide) (fun c86 => ?_) (fun c86 => ?_)
        · --55 taken
          exact absurd c86 (by decide)
        · --55 not
          refine lv_iconst (v := 0) hx hb dX13_unit_58 (by decide) ?_
          rw [hQ]
          exact W.zret (v := 0) hx hb hr rfl (fun t ht hW => ⟨⟨0, E36, rfl, ⟨hI, hKp, ⟨(iv_w ln_0 (by decide)), by (try rw [(show xi (E36 0) 21 = y38 from vi_e fy38)]); (try rw [ey1]); first | done | exact (Int.le_trans f9 (Int.le_of_eq f83.symm)) | have h8 := ln_0; all_goals omega, by (try rw [(show xi (E36 0) 23 = y40 from vi_e fy40)]); (try rw [ey3]); first | done | exact (Int.le_of_eq f84.symm) | have h8 := ln_0; all_goals omega, by (try rw [(show xi (E36 0) 22 = y39 from vi_e fy39)]); (try rw [(show xi (E36 0) 23 = y40 from vi_e fy40)]); (try rw [ey2]); (try rw [ey3]); first | done | exact fun q9 => absurd (q9) f82 | have h8 := ln_0; all_goals omega, by (try rw [(show xi (E36 0) 22 = y39 from vi_e fy39)]); (try rw [ey2]); first | done | exact fun q9 => absurd (q9) f82 | have h8 := ln_0; all_goals omega, unM_p0 (w := 0) rfl f12 (by omega) f85 (by omega), RdW.nf (by show ¬ (xi (E36 0) 22).toInt = -1; rw [show xi (E36 0) 22 = y39 from vi_e fy39]; omega)⟩⟩, by show va_P (dC, dI) vwCl (WX 72 ad E36) t.heap; rw [ht]; exact hP⟩, hS.F ht⟩) hS.2.2 dX13_unit_59
  · --8 not
    have t87 : r4.toInt = 33 := ti_eq c15
    have i88 : 33 ≤ r4.toInt ∧ r4.toInt ≤ 33 := iv_eqi t87 f8 (il_ 33) (by decide)
    refine lv_aload_n hx hb dX13_unit_11 rfl (lv_at hl 1 rfl) ?_
    refine th_i (va_runV (As := []) (rest := []) ⟨hx, hb, hml, hown, hts⟩ (q_goesInX l dC dI cT ad E5 H.size k nl hI (by exact hh0) (by exact hh1) (by exact hh2) (by exact (hKp 0 18 rfl).trans hh3) (by (try rw [hKp.ei 0 19 rfl]); exact hh4) (by (try rw [(show xi (E5 0) 21 = y7 from vi_e fy7)]); omega)) (cwV 0 hts (gi_V (in_26 _ (zs4 (zs4 (zs0)))) (in_26 _ (zs4 (zs4 (zs1 (zs0))))) (in_26 _ (zs4 (zs4 (zs1 (zs1 (zs0)))))) (in_24 _ (zs4 (zs4 (zs4 (zs1 (zs1 (zs1 (zs0)))))))) (in_26 _ (zs4 (zs4 (zs1 (zs1 (zs1 (zs0)))))))) rfl rfl rfl ⟨rfl, hz_yX13_goesIn_0⟩ ⟨(show 1 + 1 ≤ 7 * n + 9 from nl_1 (Nat.le_of_ble_eq_true rfl)), (show 8 + (1 + 11) + 40 * (1) ≤ 40 * (7 * n + 9) from nl_2 (Nat.le_of_ble_eq_true rfl))⟩) ⟨HW_bl, va_recv hK hP (ci := 14) (q0 := 0) rfl (hI.ob 0 (Nat.le_of_ble_eq_true rfl) rfl), (HW_wi hP hK (WX_D hD) hS hA hEV)⟩ rfl rfl hl.1 rfl (lv_room (Nat.le_of_ble_eq_true rfl)) dX13_unit_12 ⟨Nat.le_of_ble_eq_true rfl, Nat.le_of_ble_eq_true rfl⟩) (WX_D hD) hS hA (fun r89 E90 H locs hw hP hS => ?_)
    obtain ⟨hI, kq91, hw⟩ := hw
    have hKb := hKp
    have hKp := hKp.tr kq91 (wl_sub rfl rfl)
    obtain ⟨y92, ey92⟩ : ∃ y, xi (E90 0) 21 = y := ⟨_, rfl⟩
    have fy92 : xv (E90 0) 21 = .int y92 := (hI.fi 0 (Nat.le_of_ble_eq_true rfl) rfl (Nat.le_of_ble_eq_true rfl) rfl).trans (congrArg Value.int ey92)
    have iy92 : 0 ≤ y92.toInt ∧ y92.toInt ≤ 201 := by rw [← ey92]; exact hI.iv 0 (Nat.le_of_ble_eq_true rfl) rfl (Nat.le_of_ble_eq_true rfl) rfl
    obtain ⟨y93, ey93⟩ : ∃ y, xi (E90 0) 22 = y := ⟨_, rfl⟩
    have fy93 : xv (E90 0) 22 = .int y93 := (hI.fi 0 (Nat.le_of_ble_eq_true rfl) rfl (Nat.le_of_ble_eq_true rfl) rfl).trans (congrArg Value.int ey93)
    have iy93 : -1 ≤ y93.toInt ∧ y93.toInt ≤ 201 := by rw [← ey93]; exact hI.iv 0 (Nat.le_of_ble_eq_true rfl) rfl (Nat.le_of_ble_eq_true rfl) rfl
    obtain ⟨y94, ey94⟩ : ∃ y, xi (E90 0) 23 = y := ⟨_, rfl⟩
    have fy94 : xv (E90 0) 23 = .int y94 := (hI.fi 0 (Nat.le_of_ble_eq_true rfl) rfl (Nat.le_of_ble_eq_true rfl) rfl).trans (congrArg Value.int ey94)
    have iy94 : 0 ≤ y94.toInt ∧ y94.toInt ≤ 8 := by rw [← ey94]; exact hI.iv 0 (Nat.le_of_ble_eq_true rfl) rfl (Nat.le_of_ble_eq_true rfl) rfl
    rcases hw with hw | hw
    · -- goesInX, case 0
      obtain ⟨rfl, f95, f96, f97, f98, f99⟩ := hw
      try rw [(show xi (E5 0) 23 = y3 from vi_e ((kq6 0 23 rfl).trans fy3))] at f95
      try rw [(show xi (E90 0) 23 = y94 from vi_e fy94)] at f95
      try rw [(show xi (E5 0) 22 = y2 from vi_e ((kq6 0 22 rfl).trans fy2))] at f96
      try rw [(show xi (E90 0) 22 = y93 from vi_e fy93)] at f96
      try rw [(show xi (E5 0) 23 = y3 from vi_e ((kq6 0 23 rfl).trans fy3))] at f97
      try rw [(show xi (E90 0) 23 = y94 from vi_e fy94)] at f97
      try rw [(show xi (E5 0) 21 = y7 from vi_e fy7)] at f98
      try rw [(show xi (E90 0) 21 = y92 from vi_e fy92)] at f98
      obtain ⟨k9, hk9⟩ : ∃ k9, n = k9 + 1 := ⟨n - 1, by omega⟩
      refine lv_if_ne (tgt := 20) hx hb dX13_unit_15 (by decide) (fun c100 => ?_) (fun c100 => ?_)
      · --15 taken
        have k101 : MZ E E90 := MZ.kp hKp (fun _ => rfl)
        refine lv_aload_n hx hb dX13_unit_20 rfl (lv_at hl 1 rfl) ?_
        refine th_i (va_runV (As := []) (rest := []) ⟨hx, hb, hml, hown, hts⟩ ((gU k9 (by omega)) dC dI cT ad E90 H.size k nl hI (by exact hh0) (by exact hh1) (by exact hh2) (by exact (hKp 0 18 rfl).trans hh3) (by (try rw [hKp.ei 0 19 rfl]); exact hh4) (by (try rw [(show xi (E90 0) 23 = y94 from vi_e fy94)]); omega) (by (try rw [(show xi (E90 0) 22 = y93 from vi_e fy93)]); omega)) (cwV 0 hts (gi_V (in_29 _ (zs16 (zs16 (zs1 (zs0))))) (in_29 _ (zs16 (zs16 (zs1 (zs1 (zs0)))))) (in_29 _ (zs16 (zs16 (zs1 (zs1 (zs1 (zs0))))))) (in_24 _ (zs4 (zs4 (zs4 (zs1 (zs1 (zs1 (zs0)))))))) (in_29 _ (zs16 (zs16 (zs4 (zs0)))))) rfl rfl rfl (by decide +kernel) ⟨(show 7 * k9 + 9 + 1 ≤ 7 * n + 9 by omega), (show 8 + (3 + 11) + 40 * (7 * k9 + 9) ≤ 40 * (7 * n + 9) by omega)⟩) ⟨HW_bl, va_recv hK hP (ci := 14) (q0 := 0) rfl (hI.ob 0 (Nat.le_of_ble_eq_true rfl) rfl), (HW_wi hP hK (WX_D hD) hS hA hEV)⟩ rfl rfl hl.1 rfl (lv_room (Nat.le_of_ble_eq_true rfl)) dX13_unit_21 ⟨Nat.le_of_ble_eq_true rfl, Nat.le_of_ble_eq_true rfl⟩) (WX_D hD) hS hA (fun r102 E103 H locs hw hP hS => ?_)
        obtain ⟨hI, kq104, hw⟩ := hw
        have hKb := hKp
        have hKp := hKp.tr kq104 (wl_sub rfl rfl)
        obtain ⟨y105, ey105⟩ : ∃ y, xi (E103 0) 21 = y := ⟨_, rfl⟩
        have fy105 : xv (E103 0) 21 = .int y105 := (hI.fi 0 (Nat.le_of_ble_eq_true rfl) rfl (Nat.le_of_ble_eq_true rfl) rfl).trans (congrArg Value.int ey105)
        have iy105 : 0 ≤ y105.toInt ∧ y105.toInt ≤ 201 := by rw [← ey105]; exact hI.iv 0 (Nat.le_of_ble_eq_true rfl) rfl (Nat.le_of_ble_eq_true rfl) rfl
        obtain ⟨y106, ey106⟩ : ∃ y, xi (E103 0) 22 = y := ⟨_, rfl⟩
        have fy106 : xv (E103 0) 22 = .int y106 := (hI.fi 0 (Nat.le_of_ble_eq_true rfl) rfl (Nat.le_of_ble_eq_true rfl) rfl).trans (congrArg Value.int ey106)
        have iy106 : -1 ≤ y106.toInt ∧ y106.toInt ≤ 201 := by rw [← ey106]; exact hI.iv 0 (Nat.le_of_ble_eq_true rfl) rfl (Nat.le_of_ble_eq_true rfl) rfl
        obtain ⟨y107, ey107⟩ : ∃ y, xi (E103 0) 23 = y := ⟨_, rfl⟩
        have fy107 : xv (E103 0) 23 = .int y107 := (hI.fi 0 (Nat.le_of_ble_eq_true rfl) rfl (Nat.le_of_ble_eq_true rfl) rfl).trans (congrArg Value.int ey107)
        have iy107 : 0 ≤ y107.toInt ∧ y107.toInt ≤ 8 := by rw [← ey107]; exact hI.iv 0 (Nat.le_of_ble_eq_true rfl) rfl (Nat.le_of_ble_eq_true rfl) rfl
        obtain ⟨f108, f109, f110, f111, f112, f113, f114⟩ := hw
        try rw [(show xi (E90 0) 21 = y92 from vi_e fy92)] at f109
        try rw [(show xi (E103 0) 21 = y105 from vi_e fy105)] at f109
        try rw [(show xi (E90 0) 23 = y94 from vi_e fy94)] at f110
        try rw [(show xi (E103 0) 23 = y107 from vi_e fy107)] at f110
        try rw [(show xi (E90 0) 22 = y93 from vi_e fy93)] at f111
        try rw [(show xi (E90 0) 23 = y94 from vi_e fy94)] at f111
        try rw [(show xi (E103 0) 22 = y106 from vi_e fy106)] at f111
        try rw [(show xi (E103 0) 23 = y107 from vi_e fy107)] at f111
        try rw [(show xi (E90 0) 22 = y93 from vi_e fy93)] at f112
        try rw [(show xi (E103 0) 22 = y106 from vi_e fy106)] at f112
        refine lv_istore_n (lv' := [(2, .int r102), (1, .int r4), (0, .ref (ad 0))]) hx hb dX13_unit_24 rfl hl (by decide) rfl (fun ls hl => ?_)
        refine lv_aload_n hx hb dX13_unit_25 rfl (lv_at hl 2 rfl) ?_
        refine lv_dup hx hb dX13_unit_26 rfl ?_
        refine th_get (ci := 14) (C := RX13) (T := TX13) (N := 97) (v := .int y107) hx hb hts hinX13 hown hK hP hI 0 (Nat.le_of_ble_eq_true rfl) rfl rfl 23 (Nat.le_of_ble_eq_true rfl) (hts _ (vA_in _ _ (in_25 _ (zs16 (zs16 (zs4 (zs1 (zs1 (zs0))))))))) (fun _ h9 => h9) fy107 dX13_unit_27 ?_
        refine lv_iconst (v := 1) hx hb dX13_unit_30 (by decide) ?_
        refine lv_isub hx hb dX13_unit_31 ?_
        refine lv_topi (fun y115 ey115 => ?_)
        obtain ⟨ty115, iy115⟩ := ti_sub (e := (-1)) (f := 7) iy107 ln_1 ey115 (by decide)
        have ty115 : y115.toInt = y107.toInt - 1 := ty115
        have iy115 : -1 ≤ y115.toInt ∧ y115.toInt ≤ 7 := iy115
        have i116 : 0 ≤ y115.toInt ∧ y115.toInt ≤ 7 := by omega
        refine th_put (ci := 14) (C := RX13) (T := TX13) (N := 97) (v := .int y115) (ty := .int) hx hb hts hinX13 tyX13 tyX13_ok nmX13 hown hK hP (WX_D hD) hS hI 0 (Nat.le_of_ble_eq_true rfl) rfl rfl 23 (Nat.le_of_ble_eq_true rfl) (hts _ (vA_in _ _ (in_25 _ (zs16 (zs16 (zs4 (zs1 (zs1 (zs0))))))))) (fun _ h9 => h9) rfl (by decide +kernel) rfl rfl (okI rfl (iv_w i116 (by decide))) dX13_unit_32 (fun H locs E117 pw118 hI hP hS => ?_)
        have hKp := hKp.pw pw118 rfl
        have k119 : KM k E103 E117 := KM.pw pw118.2 hk0 (by decide)
        refine lv_iload_n hx hb dX13_unit_35 rfl (lv_at hl 0 rfl) ?_
        refine lv_if_ne (tgt := 43) hx hb dX13_unit_36 (by decide) (fun c120 => ?_) (fun c120 => ?_)
        · --36 taken
          have t121 : ¬ r102.toInt = 0 := ti_ne c120
          have i122 : 1 ≤ r102.toInt ∧ r102.toInt ≤ 1 := iv_ne_l t121 f108 (il_ 0)
          refine lv_iconst (v := 0) hx hb dX13_unit_43 (by decide) ?_
          rw [hQ]
          exact W.zret (v := 0) hx hb hr rfl (fun t ht hW => ⟨⟨0, E117, rfl, ⟨hI, hKp, ⟨(iv_w ln_0 (by decide)), by (try rw [(show xi (E117 0) 21 = y105 from vi_e ((pw118.2 0 21 (fun q9 => absurd q9.2 (Nat.ne_of_beq_eq_false rfl))).trans fy105))]); (try rw [ey1]); first | done | exact (Int.le_trans (Int.le_trans f9 (Int.le_trans (Int.le_add_of_nonneg_right (by decide)) (Int.le_of_eq f98.symm))) f109) | have h8 := ln_0; all_goals omega, by have h8 := ln_0; (try rw [(show xi (E117 0) 23 = y115 from vi_e pw118.1)]); (try rw [ey1]); (try rw [ey2]); (try rw [ey3]); all_goals omega, by have h8 := ln_0; (try rw [(show xi (E117 0) 22 = y106 from vi_e ((pw118.2 0 22 (fun q9 => absurd q9.2 (Nat.ne_of_beq_eq_false rfl))).trans fy106))]); (try rw [(show xi (E117 0) 23 = y115 from vi_e pw118.1)]); (try rw [ey1]); (try rw [ey2]); (try rw [ey3]); all_goals omega, by have h8 := ln_0; (try rw [(show xi (E117 0) 22 = y106 from vi_e ((pw118.2 0 22 (fun q9 => absurd q9.2 (Nat.ne_of_beq_eq_false rfl))).trans fy106))]); (try rw [ey1]); (try rw [ey2]); (try rw [ey3]); all_goals omega, unM_n (w := 0) rfl f12 (by omega) f99 f113 k119 hk9, unW_n (w := 0) rfl f12 (by omega) f99 k101 f114 k119 hk9 (nt0 (by omega))⟩⟩, by show va_P (dC, dI) vwCl (WX 72 ad E117) t.heap; rw [ht]; exact hP⟩, hS.F ht⟩) hS.2.2 dX13_unit_44
        · --36 not
          have t123 : r102.toInt = 0 := ti_eq c120
          have i124 : 0 ≤ r102.toInt ∧ r102.toInt ≤ 0 := iv_eqi t123 f108 (il_ 0) (by decide)
          refine lv_iconst (v := 1) hx hb dX13_unit_39 (by decide) ?_
          refine lv_goto (tgt := 44) hx hb dX13_unit_40 (by decide) ?_
          rw [hQ]
          exact W.zret (v := 1) hx hb hr rfl (fun t ht hW => ⟨⟨1, E117, rfl, ⟨hI, hKp, ⟨(iv_w ln_1 (by decide)), by (try rw [(show xi (E117 0) 21 = y105 from vi_e ((pw118.2 0 21 (fun q9 => absurd q9.2 (Nat.ne_of_beq_eq_false rfl))).trans fy105))]); (try rw [ey1]); first | done | exact (Int.le_trans (Int.le_trans f9 (Int.le_trans (Int.le_add_of_nonneg_right (by decide)) (Int.le_of_eq f98.symm))) f109) | have h8 := ln_1; all_goals omega, by have h8 := ln_1; (try rw [(show xi (E117 0) 23 = y115 from vi_e pw118.1)]); (try rw [ey1]); (try rw [ey2]); (try rw [ey3]); all_goals omega, by have h8 := ln_1; (try rw [(show xi (E117 0) 22 = y106 from vi_e ((pw118.2 0 22 (fun q9 => absurd q9.2 (Nat.ne_of_beq_eq_false rfl))).trans fy106))]); (try rw [(show xi (E117 0) 23 = y115 from vi_e pw118.1)]); (try rw [ey1]); (try rw [ey2]); (try rw [ey3]); all_goals omega, by have h8 := ln_1; (try rw [(show xi (E117 0) 22 = y106 from vi_e ((pw118.2 0 22 (fun q9 => absurd q9.2 (Nat.ne_of_beq_eq_false rfl))).trans fy106))]); (try rw [ey1]); (try rw [ey2]); (try rw [ey3]); all_goals omega, unM_n (w := 0) rfl f12 (by omega) f99 f113 k119 hk9, unW_n (w := 0) rfl f12 (by omega) f99 k101 f114 k119 hk9 (nt1 (by omega))⟩⟩, by show va_P (dC, dI) vwCl (WX 72 ad E117) t.heap; rw [ht]; exact hP⟩, hS.F ht⟩) hS.2.2 dX13_unit_44
      · --15 not
        exact absurd c100 (by decide)
    · -- goesInX, case 1
      obtain ⟨rfl, f125, f126, f127, f128, f129⟩ := hw
      try rw [(show xi (E5 0) 23 = y3 from vi_e ((kq6 0 23 rfl).trans fy3))] at f125
      try rw [(show xi (E90 0) 23 = y94 from vi_e fy94)] at f125
      try rw [(show xi (E5 0) 22 = y2 from vi_e ((kq6 0 22 rfl).trans fy2))] at f126
      try rw [(show xi (E90 0) 22 = y93 from vi_e fy93)] at f126
      try rw [(show xi (E5 0) 21 = y7 from vi_e fy7)] at f127
      try rw [(show xi (E90 0) 21 = y92 from vi_e fy92)] at f127
      try rw [(show xi (E5 0) 23 = y3 from vi_e ((kq6 0 23 rfl).trans fy3))] at f128
      try rw [(show xi (E90 0) 23 = y94 from vi_e fy94)] at f128
      refine lv_if_ne (tgt := 20) hx hb dX13_unit_15 (by decide) (fun c130 => ?_) (fun c130 => ?_)
      · --15 taken
        exact absurd c130 (by decide)
      · --15 not
        refine lv_iconst (v := 0) hx hb dX13_unit_18 (by decide) ?_
        rw [hQ]
        exact W.zret (v := 0) hx hb hr rfl (fun t ht hW => ⟨⟨0, E90, rfl, ⟨hI, hKp, ⟨(iv_w ln_0 (by decide)), by (try rw [(show xi (E90 0) 21 = y92 from vi_e fy92)]); (try rw [ey1]); first | done | exact (Int.le_trans f9 (Int.le_of_eq f127.symm)) | have h8 := ln_0; all_goals omega, by (try rw [(show xi (E90 0) 23 = y94 from vi_e fy94)]); (try rw [ey3]); first | done | exact (Int.le_of_eq f128.symm) | have h8 := ln_0; all_goals omega, by (try rw [(show xi (E90 0) 22 = y93 from vi_e fy93)]); (try rw [(show xi (E90 0) 23 = y94 from vi_e fy94)]); (try rw [ey2]); (try rw [ey3]); first | done | exact fun q9 => absurd (q9) f126 | have h8 := ln_0; all_goals omega, by (try rw [(show xi (E90 0) 22 = y93 from vi_e fy93)]); (try rw [ey2]); first | done | exact fun q9 => absurd (q9) f126 | have h8 := ln_0; all_goals omega, unM_n0 (w := 0) rfl f12 (by omega) f129 (by omega), RdW.nf (by show ¬ (xi (E90 0) 22).toInt = -1; rw [show xi (E90 0) 22 = y93 from vi_e fy93]; omega)⟩⟩, by show va_P (dC, dI) vwCl (WX 72 ad E90) t.heap; rw [ht]; exact hP⟩, hS.F ht⟩) hS.2.2 dX13_unit_19
set_option maxHeartbeats 4000000 in
set_option maxRecDepth 100000 in
theorem q_partW (l : Launch) (n : Nat) (gC : C_comparesW l n) (gU : C_unitW l n) : C_partW l n := by
  intro dC dI cT ad E sz a0 a1 k nl hI0 hh0 hh1 hh2 hh3 hh4 hh5 hh6 hh7
  refine Met.ofW (cc := cX13_part) (maxL := 5) (ret := (some .boolean)) (by decide) rfl ?_
  intro p e s m args below meth c s₁ B hml hv
  obtain ⟨hargs, hsz, hP, hK, hD0, hEV⟩ := hv
  subst hsz
  have hx := B.exec
  have hb := B.bytes
  have hr := B.returns
  have hts := atoms_spec (ws := v_partW) B.pre
  have hown : s.vm.findClass RX13 = some m.cls := findClass_of_methodNamed B.named
  have hlocks := B.notSynchronized
  have hinX13 : ∀ w ∈ u_ws RX13 TX13 97, w ∈ v_partW := fun w h => vA_in _ w (in_X13 w h)
  generalize hAe : va_A (WX 72 ad E) s.heap.size = A at hEV ⊢
  have hA : ∀ q : Nat, s.heap.size ≤ q → A q := fun q h => by rw [← hAe]; exact Or.inr h
  have hD : va_D A (WX 72 ad E) := by rw [← hAe]; exact hD0.self
  have hS : va_S A s.heap s.heap [] := va_S.rf
  have hI := hI0
  have hKp : Kp w_partW E E := Kp.rf
  have hl := lv_entry ([.ref (ad 0), .int a0, .int a1]) (n := 5) (Nat.le_of_ble_eq_true rfl)
  obtain ⟨Q, hQ⟩ : ∃ Q, Q = MQ below (va_Qi (S := Nat → va_E) (fun r u => IX cT shM spM 72 ad u ∧ Kp w_partW E u ∧ ((0 ≤ r.toInt ∧ r.toInt ≤ 1) ∧ ((xi (E 0) 21).toInt ≤ (xi (u 0) 21).toInt) ∧ ((xi (E 0) 23).toInt ≤ (xi (u 0) 23).toInt) ∧ ((xi (u 0) 22).toInt = -1 → (xi (u 0) 23).toInt = (xi (E 0) 23).toInt) ∧ ((xi (u 0) 22).toInt = -1 → (xi (E 0) 22).toInt = -1) ∧ (RdM k (paY a0 n) E u) ∧ (RdW k (pr a0 a1) (paY a0 n) E u r))) (HB dC dI 72 ad) (A)) args s 0 0 (A) := ⟨_, rfl⟩
  rw [← hQ, show entryFrame m args 5 = _ from (congrArg (fun z => entryFrame m z 5) hargs).trans (lg_entry_eq _ _ _)]
  generalize (lg_sl ([.ref (ad 0), .int a0, .int a1]) ++ List.replicate (5 - (lg_sl ([.ref (ad 0), .int a0, .int a1])).length) Slot.unset).toArray = ls at hl ⊢
  have hl : lv_has ls 5 [(0, .ref (ad 0)), (1, .int a0), (2, .int a1)] := hl
  obtain ⟨y1, ey1⟩ : ∃ y, xi (E 0) 21 = y := ⟨_, rfl⟩
  have fy1 : xv (E 0) 21 = .int y1 := (hI.fi 0 (Nat.le_of_ble_eq_true rfl) rfl (Nat.le_of_ble_eq_true rfl) rfl).trans (congrArg Value.int ey1)
  have iy1 : 0 ≤ y1.toInt ∧ y1.toInt ≤ 201 := by rw [← ey1]; exact hI.iv 0 (Nat.le_of_ble_eq_true rfl) rfl (Nat.le_of_ble_eq_true rfl) rfl
  obtain ⟨y2, ey2⟩ : ∃ y, xi (E 0) 22 = y := ⟨_, rfl⟩
  have fy2 : xv (E 0) 22 = .int y2 := (hI.fi 0 (Nat.le_of_ble_eq_true rfl) rfl (Nat.le_of_ble_eq_true rfl) rfl).trans (congrArg Value.int ey2)
  have iy2 : -1 ≤ y2.toInt ∧ y2.toInt ≤ 201 := by rw [← ey2]; exact hI.iv 0 (Nat.le_of_ble_eq_true rfl) rfl (Nat.le_of_ble_eq_true rfl) rfl
  rw [ey2] at hh6
  obtain ⟨y3, ey3⟩ : ∃ y, xi (E 0) 23 = y := ⟨_, rfl⟩
  have fy3 : xv (E 0) 23 = .int y3 := (hI.fi 0 (Nat.le_of_ble_eq_true rfl) rfl (Nat.le_of_ble_eq_true rfl) rfl).trans (congrArg Value.int ey3)
  have iy3 : 0 ≤ y3.toInt ∧ y3.toInt ≤ 8 := by rw [← ey3]; exact hI.iv 0 (Nat.le_of_ble_eq_true rfl) rfl (Nat.le_of_ble_eq_true rfl) rfl
  rw [ey3] at hh5
  have hk0 : ¬ k = 0 := fun q9 => by rw [q9] at hh1; exact absurd (show (shM 0).1 = 1 from congrArg Prod.fst hh1) (by decide)
  refine lv_iload_n hx hb dX13_part_0 rfl (lv_at hl 1 rfl) ?_
  refine lv_if_eq (tgt := 13) hx hb dX13_part_1 (by decide) (fun c4 => ?_) (fun c4 => ?_)
  · --1 taken
    have t5 : a0.toInt = 0 := ti_eq c4
    have i6 : 0 ≤ a0.toInt ∧ a0.toInt ≤ 0 := iv_eqi t5 hh7 (il_ 0) (by decide)
    refine lv_aload_n hx hb dX13_part_13 rfl (lv_at hl 0 rfl) ?_
    refine th_i (va_runV (As := []) (rest := []) ⟨hx, hb, hml, hown, hts⟩ (gU dC dI cT ad E s.heap.size k nl hI (by exact hh0) (by exact hh1) (by exact hh2) (by exact hh3) (by exact hh4) (by (try rw [(show xi (E 0) 23 = y3 from vi_e fy3)]); omega) (by (try rw [(show xi (E 0) 22 = y2 from vi_e fy2)]); omega)) (cwV 0 hts (gi_V (in_29 _ (zs16 (zs16 (zs1 (zs0))))) (in_29 _ (zs16 (zs16 (zs1 (zs1 (zs0)))))) (in_29 _ (zs16 (zs16 (zs1 (zs1 (zs1 (zs0))))))) (in_24 _ (zs4 (zs4 (zs4 (zs1 (zs1 (zs1 (zs0)))))))) (in_29 _ (zs16 (zs16 (zs4 (zs0)))))) rfl rfl rfl (by decide +kernel) ⟨(show 7 * n + 9 + 1 ≤ 7 * n + 10 from nl_4 (Nat.le_of_ble_eq_true rfl) (Nat.le_of_ble_eq_true rfl)), (show 8 + (3 + 11) + 40 * (7 * n + 9) ≤ 40 * (7 * n + 10) from nl_3 (Nat.le_of_ble_eq_true rfl) (Nat.le_of_ble_eq_true rfl))⟩) ⟨HW_bl, va_recv hK hP (ci := 14) (q0 := 0) rfl (hI.ob 0 (Nat.le_of_ble_eq_true rfl) rfl), (HW_wi hP hK (WX_D hD) hS hA hEV)⟩ rfl rfl hl.1 rfl (lv_room (Nat.le_of_ble_eq_true rfl)) dX13_part_14 ⟨Nat.le_of_ble_eq_true rfl, Nat.le_of_ble_eq_true rfl⟩) (WX_D hD) hS hA (fun r7 E8 H locs hw hP hS => ?_)
    obtain ⟨hI, kq9, hw⟩ := hw
    have hKb := hKp
    have hKp := hKp.tr kq9 (wl_sub rfl rfl)
    obtain ⟨y10, ey10⟩ : ∃ y, xi (E8 0) 21 = y := ⟨_, rfl⟩
    have fy10 : xv (E8 0) 21 = .int y10 := (hI.fi 0 (Nat.le_of_ble_eq_true rfl) rfl (Nat.le_of_ble_eq_true rfl) rfl).trans (congrArg Value.int ey10)
    have iy10 : 0 ≤ y10.toInt ∧ y10.toInt ≤ 201 := by rw [← ey10]; exact hI.iv 0 (Nat.le_of_ble_eq_true rfl) rfl (Nat.le_of_ble_eq_true rfl) rfl
    obtain ⟨y11, ey11⟩ : ∃ y, xi (E8 0) 22 = y := ⟨_, rfl⟩
    have fy11 : xv (E8 0) 22 = .int y11 := (hI.fi 0 (Nat.le_of_ble_eq_true rfl) rfl (Nat.le_of_ble_eq_true rfl) rfl).trans (congrArg Value.int ey11)
    have iy11 : -1 ≤ y11.toInt ∧ y11.toInt ≤ 201 := by rw [← ey11]; exact hI.iv 0 (Nat.le_of_ble_eq_true rfl) rfl (Nat.le_of_ble_eq_true rfl) rfl
    obtain ⟨y12, ey12⟩ : ∃ y, xi (E8 0) 23 = y := ⟨_, rfl⟩
    have fy12 : xv (E8 0) 23 = .int y12 := (hI.fi 0 (Nat.le_of_ble_eq_true rfl) rfl (Nat.le_of_ble_eq_true rfl) rfl).trans (congrArg Value.int ey12)
    have iy12 : 0 ≤ y12.toInt ∧ y12.toInt ≤ 8 := by rw [← ey12]; exact hI.iv 0 (Nat.le_of_ble_eq_true rfl) rfl (Nat.le_of_ble_eq_true rfl) rfl
    obtain ⟨f13, f14, f15, f16, f17, f18, f19⟩ := hw
    have i20 : 0 ≤ (xi (E 0) 19).toInt ∧ (xi (E 0) 19).toInt ≤ 3000 := (show 0 ≤ (xi (E 0) 19).toInt ∧ (xi (E 0) 19).toInt ≤ 3000 from hI0.iv 0 (Nat.le_of_ble_eq_true rfl) rfl (Nat.le_of_ble_eq_true rfl) rfl)
    have i21 : 0 ≤ (xi (E 0) 20).toInt ∧ (xi (E 0) 20).toInt ≤ 200 := (show 0 ≤ (xi (E 0) 20).toInt ∧ (xi (E 0) 20).toInt ≤ 200 from hI0.iv 0 (Nat.le_of_ble_eq_true rfl) rfl (Nat.le_of_ble_eq_true rfl) rfl)
    try rw [(show xi (E 0) 21 = y1 from vi_e fy1)] at f14
    try rw [(show xi (E8 0) 21 = y10 from vi_e fy10)] at f14
    try rw [(show xi (E 0) 23 = y3 from vi_e fy3)] at f15
    try rw [(show xi (E8 0) 23 = y12 from vi_e fy12)] at f15
    try rw [(show xi (E 0) 22 = y2 from vi_e fy2)] at f16
    try rw [(show xi (E 0) 23 = y3 from vi_e fy3)] at f16
    try rw [(show xi (E8 0) 22 = y11 from vi_e fy11)] at f16
    try rw [(show xi (E8 0) 23 = y12 from vi_e fy12)] at f16
    try rw [(show xi (E 0) 22 = y2 from vi_e fy2)] at f17
    try rw [(show xi (E8 0) 22 = y11 from vi_e fy11)] at f17
    refine lv_istore_n (lv' := [(3, .int r7), (0, .ref (ad 0)), (1, .int a0), (2, .int a1)]) hx hb dX13_part_17 rfl hl (by decide) rfl (fun ls hl => ?_)
    have hL18 : ∀ d : Nat, ∀ (w18_0_21 : Int32) (w18_0_22 : Int32) (w18_0_23 : Int32) (v18_3 : Int32) (E18_ : Nat → va_E) (H : Heap) (locs : List Loc) (ls : Array Slot), 0 ≤ w18_0_21.toInt ∧ w18_0_21.toInt ≤ 201 → -1 ≤ w18_0_22.toInt ∧ w18_0_22.toInt ≤ 201 → 0 ≤ w18_0_23.toInt ∧ w18_0_23.toInt ≤ 8 → 0 ≤ v18_3.toInt ∧ v18_3.toInt ≤ 1 → y1.toInt ≤ w18_0_21.toInt → y3.toInt ≤ w18_0_23.toInt → (w18_0_22.toInt = -1 → w18_0_23.toInt = y3.toInt) → (w18_0_22.toInt = -1 → y2.toInt = -1) → LpM k (paY a0 n) (fun t m => opL t m isAnd jb (unY 0 n t m)) 0 E E18_ → LpW k (pr a0 a1) (paY a0 n) (fun t m => opL t m isAnd jb (unY 0 n t m)) E E18_ v18_3 → 201 - w18_0_21.toInt < (d : Int) → IX cT shM spM 72 ad E18_ → Kp w_partW E E18_ → xv (E18_ 0) 21 = .int w18_0_21 → xv (E18_ 0) 22 = .int w18_0_22 → xv (E18_ 0) 23 = .int w18_0_23 → va_P (dC, dI) vwCl (WX 72 ad E18_) H → va_S A s.heap H locs → lv_has ls 5 [(3, .int v18_3), (0, .ref (ad 0)), (1, .int a0), (2, .int a1)] → W p l e (headSpec v_partW (rm_partW n)).room s m args below meth c H locs 0 0 Q (F0 m 18 ls []) := by
      intro d
      induction d with
      | zero =>
        intro w18_0_21 w18_0_22 w18_0_23 v18_3 E18_ H locs ls hw18_0_21 hw18_0_22 hw18_0_23 hv18_3 hx18_0 hx18_1 hx18_2 hx18_3 hx18_4 hx18_5 hx18_6 hI hKp hs18_0_21 hs18_0_22 hs18_0_23 hP hS hl
        exact absurd hx18_6 (by omega)
      | succ d ih18 =>
        intro w18_0_21 w18_0_22 w18_0_23 v18_3 E18_ H locs ls hw18_0_21 hw18_0_22 hw18_0_23 hv18_3 hx18_0 hx18_1 hx18_2 hx18_3 hx18_4 hx18_5 hx18_6 hI hKp hs18_0_21 hs18_0_22 hs18_0_23 hP hS hl
        refine lv_aload_n hx hb dX13_part_18 rfl (lv_at hl 1 rfl) ?_
        refine th_get (ci := 14) (C := RX13) (T := TX13) (N := 97) (v := .int w18_0_22) hx hb hts hinX13 hown hK hP hI 0 (Nat.le_of_ble_eq_true rfl) rfl rfl 22 (Nat.le_of_ble_eq_true rfl) (hts _ (vA_in _ _ (in_25 _ (zs16 (zs16 (zs4 (zs1 (zs1 (zs1 (zs0)))))))))) (fun _ h9 => h9) hs18_0_22 dX13_part_19 ?_
        refine lv_iconst (v := -1) hx hb dX13_part_22 (by decide) ?_
        refine lv_icmp_ne (tgt := 69) hx hb dX13_part_23 (by decide) (fun c22 => ?_) (fun c22 => ?_)
        · --23 taken
          have t23 : ¬ w18_0_22.toInt = -1 := ti_ne c22
          have i24 : 0 ≤ w18_0_22.toInt ∧ w18_0_22.toInt ≤ 201 := iv_ne_l t23 hw18_0_22 (il_ (-1))
          refine lv_iload_n hx hb dX13_part_69 rfl (lv_at hl 0 rfl) ?_
          rw [hQ]
          exact W.zret (v := v18_3) hx hb hr (nar_b1 hv18_3) (fun t ht hW => ⟨⟨v18_3, E18_, rfl, ⟨hI, hKp, ⟨hv18_3, by (try rw [(show xi (E18_ 0) 21 = w18_0_21 from vi_e hs18_0_21)]); (try rw [ey1]); first | done | exact hx18_0 | all_goals omega, by (try rw [(show xi (E18_ 0) 23 = w18_0_23 from vi_e hs18_0_23)]); (try rw [ey3]); first | done | exact hx18_1 | all_goals omega, by (try rw [(show xi (E18_ 0) 22 = w18_0_22 from vi_e hs18_0_22)]); (try rw [(show xi (E18_ 0) 23 = w18_0_23 from vi_e hs18_0_23)]); (try rw [ey2]); (try rw [ey3]); first | done | exact fun q9 => absurd (q9) t23 | all_goals omega, by (try rw [(show xi (E18_ 0) 22 = w18_0_22 from vi_e hs18_0_22)]); (try rw [ey2]); first | done | exact fun q9 => absurd (q9) t23 | all_goals omega, LpM.exF hx18_4 (by show ¬ (xi (E18_ 0) 22).toInt = -1; rw [show xi (E18_ 0) 22 = w18_0_22 from vi_e hs18_0_22]; omega), RdW.nf (by show ¬ (xi (E18_ 0) 22).toInt = -1; rw [show xi (E18_ 0) 22 = w18_0_22 from vi_e hs18_0_22]; omega)⟩⟩, by show va_P (dC, dI) vwCl (WX 72 ad E18_) t.heap; rw [ht]; exact hP⟩, hS.F ht⟩) hS.2.2 dX13_part_70
        · --23 not
          have t25 : w18_0_22.toInt = -1 := ti_eq c22
          have i26 : -1 ≤ w18_0_22.toInt ∧ w18_0_22.toInt ≤ -1 := iv_eqi t25 hw18_0_22 (il_ (-1)) (by decide)
          refine lv_aload_n hx hb dX13_part_26 rfl (lv_at hl 1 rfl) ?_
          refine th_i (va_runV (As := []) (rest := []) ⟨hx, hb, hml, hown, hts⟩ (q_lookX l dC dI cT ad E18_ H.size k nl hI (by exact hh0) (by exact hh1) (by exact hh2) (by exact (hKp 0 18 rfl).trans hh3) (by (try rw [hKp.ei 0 19 rfl]); exact hh4)) (cwV 0 hts (gi_V (in_26 _ (zs1 (zs1 (zs0)))) (in_26 _ (zs1 (zs1 (zs1 (zs0))))) (in_26 _ (zs4 (zs0))) (in_24 _ (zs4 (zs4 (zs4 (zs1 (zs1 (zs1 (zs0)))))))) (in_26 _ (zs4 (zs1 (zs0))))) rfl rfl rfl ⟨rfl, hz_yX13_look_0⟩ ⟨(show 0 + 1 ≤ 7 * n + 10 from nl_1 (Nat.le_of_ble_eq_true rfl)), (show 8 + (1 + 11) + 40 * (0) ≤ 40 * (7 * n + 10) from nl_2 (Nat.le_of_ble_eq_true rfl))⟩) ⟨HW_bl, va_recv hK hP (ci := 14) (q0 := 0) rfl (hI.ob 0 (Nat.le_of_ble_eq_true rfl) rfl), (HW_wi hP hK (WX_D hD) hS hA hEV)⟩ rfl rfl hl.1 rfl (lv_room (Nat.le_of_ble_eq_true rfl)) dX13_part_27 ⟨Nat.le_of_ble_eq_true rfl, Nat.le_of_ble_eq_true rfl⟩) (WX_D hD) hS hA (fun r27 E28 H locs hw hP hS => ?_)
          obtain ⟨hI, kq29, hw⟩ := hw
          have hKb := hKp
          have hKp := hKp.tr kq29 (wl_sub rfl rfl)
          obtain ⟨y30, ey30⟩ : ∃ y, xi (E28 0) 21 = y := ⟨_, rfl⟩
          have fy30 : xv (E28 0) 21 = .int y30 := (hI.fi 0 (Nat.le_of_ble_eq_true rfl) rfl (Nat.le_of_ble_eq_true rfl) rfl).trans (congrArg Value.int ey30)
          have iy30 : 0 ≤ y30.toInt ∧ y30.toInt ≤ 201 := by rw [← ey30]; exact hI.iv 0 (Nat.le_of_ble_eq_true rfl) rfl (Nat.le_of_ble_eq_true rfl) rfl
          obtain ⟨f31, f32, f33, f34, f35⟩ := hw
          try rw [(show xi (E18_ 0) 21 = w18_0_21 from vi_e hs18_0_21)] at f32
          try rw [(show xi (E28 0) 21 = y30 from vi_e fy30)] at f32
          try rw [(show xi (E18_ 0) 21 = w18_0_21 from vi_e hs18_0_21)] at f33
          try rw [hKb.ei 0 20 rfl] at f33
          try rw [(show xi (E28 0) 21 = y30 from vi_e fy30)] at f33
          try rw [(show xi (E18_ 0) 21 = w18_0_21 from vi_e hs18_0_21)] at f34
          try rw [hKb.ei 0 20 rfl] at f34
          try rw [(show xi (E28 0) 21 = y30 from vi_e fy30)] at f34
          refine lv_bipush (v := 38) hx hb dX13_part_30 (by decide) ?_
          refine lv_icmp_ne (tgt := 69) hx hb dX13_part_32 (by decide) (fun c36 => ?_) (fun c36 => ?_)
          · --32 taken
            have t37 : ¬ r27.toInt = 38 := ti_ne c36
            refine lv_iload_n hx hb dX13_part_69 rfl (lv_at hl 0 rfl) ?_
            rw [hQ]
            exact W.zret (v := v18_3) hx hb hr (nar_b1 hv18_3) (fun t ht hW => ⟨⟨v18_3, E28, rfl, ⟨hI, hKp, ⟨hv18_3, by (try rw [(show xi (E28 0) 21 = y30 from vi_e fy30)]); (try rw [ey1]); first | done | exact (Int.le_trans hx18_0 f32) | all_goals omega, by (try rw [(show xi (E28 0) 23 = w18_0_23 from vi_e ((kq29 0 23 rfl).trans hs18_0_23))]); (try rw [ey3]); first | done | exact hx18_1 | all_goals omega, by (try rw [(show xi (E28 0) 22 = w18_0_22 from vi_e ((kq29 0 22 rfl).trans hs18_0_22))]); (try rw [(show xi (E28 0) 23 = w18_0_23 from vi_e ((kq29 0 23 rfl).trans hs18_0_23))]); (try rw [ey2]); (try rw [ey3]); first | done | exact fun q9 => (hx18_2 (q9)) | all_goals omega, by (try rw [(show xi (E28 0) 22 = w18_0_22 from vi_e ((kq29 0 22 rfl).trans hs18_0_22))]); (try rw [ey2]); first | done | exact fun q9 => hx18_3 (q9) | all_goals omega, LpM.exit (op := isAnd) hx18_4 f35 (fun q9 => by have q8 := is_and.mp q9; omega) (fun t m a c h => opL_0 h), LpW.exit (op := isAnd) hx18_4 hx18_5 f35 (fun q9 => by have q8 := is_and.mp q9; omega) (fun t m a c h => opL_0 h)⟩⟩, by show va_P (dC, dI) vwCl (WX 72 ad E28) t.heap; rw [ht]; exact hP⟩, hS.F ht⟩) hS.2.2 dX13_part_70
          · --32 not
            have t38 : r27.toInt = 38 := ti_eq c36
            have i39 : 38 ≤ r27.toInt ∧ r27.toInt ≤ 38 := iv_eqi t38 f31 (il_ 38) (by decide)
            refine lv_aload_n hx hb dX13_part_35 rfl (lv_at hl 1 rfl) ?_
            refine lv_dup hx hb dX13_part_36 rfl ?_
            refine th_get (ci := 14) (C := RX13) (T := TX13) (N := 97) (v := .int y30) hx hb hts hinX13 hown hK hP hI 0 (Nat.le_of_ble_eq_true rfl) rfl rfl 21 (Nat.le_of_ble_eq_true rfl) (hts _ (vA_in _ _ (in_25 _ (zs16 (zs16 (zs4 (zs0))))))) (fun _ h9 => h9) fy30 dX13_part_37 ?_
            refine lv_iconst (v := 1) hx hb dX13_part_40 (by decide) ?_
            refine lv_iadd hx hb dX13_part_41 ?_
            refine lv_topi (fun y40 ey40 => ?_)
            obtain ⟨ty40, iy40⟩ := ti_add (e := 1) (f := 202) iy30 ln_1 ey40 (by decide)
            have ty40 : y40.toInt = y30.toInt + 1 := ty40
            have iy40 : 1 ≤ y40.toInt ∧ y40.toInt ≤ 202 := iy40
            have i41 : 1 ≤ y40.toInt ∧ y40.toInt ≤ 201 := by omega
            refine th_put (ci := 14) (C := RX13) (T := TX13) (N := 97) (v := .int y40) (ty := .int) hx hb hts hinX13 tyX13 tyX13_ok nmX13 hown hK hP (WX_D hD) hS hI 0 (Nat.le_of_ble_eq_true rfl) rfl rfl 21 (Nat.le_of_ble_eq_true rfl) (hts _ (vA_in _ _ (in_25 _ (zs16 (zs16 (zs4 (zs0))))))) (fun _ h9 => h9) rfl (by decide +kernel) rfl rfl (okI rfl (iv_w i41 (by decide))) dX13_part_42 (fun H locs E42 pw43 hI hP hS => ?_)
            have hKp := hKp.pw pw43 rfl
            have k44 : AtM k E28 E42 := AtM.pw pw43.2 hk0 (vi_e fy30) (vi_e pw43.1) ty40 (by omega)
            have k45 : MZ E E42 := MZ.kp hKp (fun _ => rfl)
            refine lv_aload_n hx hb dX13_part_45 rfl (lv_at hl 1 rfl) ?_
            refine th_i (va_runV (As := []) (rest := []) ⟨hx, hb, hml, hown, hts⟩ (gU dC dI cT ad E42 H.size k nl hI (by exact hh0) (by exact hh1) (by exact hh2) (by exact (hKp 0 18 rfl).trans hh3) (by (try rw [hKp.ei 0 19 rfl]); exact hh4) (by (try rw [(show xi (E42 0) 23 = w18_0_23 from vi_e ((pw43.2 0 23 (fun q9 => absurd q9.2 (Nat.ne_of_beq_eq_false rfl))).trans ((kq29 0 23 rfl).trans hs18_0_23)))]); omega) (by (try rw [(show xi (E42 0) 22 = w18_0_22 from vi_e ((pw43.2 0 22 (fun q9 => absurd q9.2 (Nat.ne_of_beq_eq_false rfl))).trans ((kq29 0 22 rfl).trans hs18_0_22)))]); omega)) (cwV 0 hts (gi_V (in_29 _ (zs16 (zs16 (zs1 (zs0))))) (in_29 _ (zs16 (zs16 (zs1 (zs1 (zs0)))))) (in_29 _ (zs16 (zs16 (zs1 (zs1 (zs1 (zs0))))))) (in_24 _ (zs4 (zs4 (zs4 (zs1 (zs1 (zs1 (zs0)))))))) (in_29 _ (zs16 (zs16 (zs4 (zs0)))))) rfl rfl rfl (by decide +kernel) ⟨(show 7 * n + 9 + 1 ≤ 7 * n + 10 from nl_4 (Nat.le_of_ble_eq_true rfl) (Nat.le_of_ble_eq_true rfl)), (show 8 + (3 + 11) + 40 * (7 * n + 9) ≤ 40 * (7 * n + 10) from nl_3 (Nat.le_of_ble_eq_true rfl) (Nat.le_of_ble_eq_true rfl))⟩) ⟨HW_bl, va_recv hK hP (ci := 14) (q0 := 0) rfl (hI.ob 0 (Nat.le_of_ble_eq_true rfl) rfl), (HW_wi hP hK (WX_D hD) hS hA hEV)⟩ rfl rfl hl.1 rfl (lv_room (Nat.le_of_ble_eq_true rfl)) dX13_part_46 ⟨Nat.le_of_ble_eq_true rfl, Nat.le_of_ble_eq_true rfl⟩) (WX_D hD) hS hA (fun r46 E47 H locs hw hP hS => ?_)
            obtain ⟨hI, kq48, hw⟩ := hw
            have hKb := hKp
            have hKp := hKp.tr kq48 (wl_sub rfl rfl)
            obtain ⟨y49, ey49⟩ : ∃ y, xi (E47 0) 21 = y := ⟨_, rfl⟩
            have fy49 : xv (E47 0) 21 = .int y49 := (hI.fi 0 (Nat.le_of_ble_eq_true rfl) rfl (Nat.le_of_ble_eq_true rfl) rfl).trans (congrArg Value.int ey49)
            have iy49 : 0 ≤ y49.toInt ∧ y49.toInt ≤ 201 := by rw [← ey49]; exact hI.iv 0 (Nat.le_of_ble_eq_true rfl) rfl (Nat.le_of_ble_eq_true rfl) rfl
            obtain ⟨y50, ey50⟩ : ∃ y, xi (E47 0) 22 = y := ⟨_, rfl⟩
            have fy50 : xv (E47 0) 22 = .int y50 := (hI.fi 0 (Nat.le_of_ble_eq_true rfl) rfl (Nat.le_of_ble_eq_true rfl) rfl).trans (congrArg Value.int ey50)
            have iy50 : -1 ≤ y50.toInt ∧ y50.toInt ≤ 201 := by rw [← ey50]; exact hI.iv 0 (Nat.le_of_ble_eq_true rfl) rfl (Nat.le_of_ble_eq_true rfl) rfl
            obtain ⟨y51, ey51⟩ : ∃ y, xi (E47 0) 23 = y := ⟨_, rfl⟩
            have fy51 : xv (E47 0) 23 = .int y51 := (hI.fi 0 (Nat.le_of_ble_eq_true rfl) rfl (Nat.le_of_ble_eq_true rfl) rfl).trans (congrArg Value.int ey51)
            have iy51 : 0 ≤ y51.toInt ∧ y51.toInt ≤ 8 := by rw [← ey51]; exact hI.iv 0 (Nat.le_of_ble_eq_true rfl) rfl (Nat.le_of_ble_eq_true rfl) rfl
            obtain ⟨f52, f53, f54, f55, f56, f57, f58⟩ := hw
            try rw [(show xi (E42 0) 21 = y40 from vi_e pw43.1)] at f53
            try rw [(show xi (E47 0) 21 = y49 from vi_e fy49)] at f53
            try rw [(show xi (E42 0) 23 = w18_0_23 from vi_e ((pw43.2 0 23 (fun q9 => absurd q9.2 (Nat.ne_of_beq_eq_false rfl))).trans ((kq29 0 23 rfl).trans hs18_0_23)))] at f54
            try rw [(show xi (E47 0) 23 = y51 from vi_e fy51)] at f54
            try rw [(show xi (E42 0) 22 = w18_0_22 from vi_e ((pw43.2 0 22 (fun q9 => absurd q9.2 (Nat.ne_of_beq_eq_false rfl))).trans ((kq29 0 22 rfl).trans hs18_0_22)))] at f55
            try rw [(show xi (E42 0) 23 = w18_0_23 from vi_e ((pw43.2 0 23 (fun q9 => absurd q9.2 (Nat.ne_of_beq_eq_false rfl))).trans ((kq29 0 23 rfl).trans hs18_0_23)))] at f55
            try rw [(show xi (E47 0) 22 = y50 from vi_e fy50)] at f55
            try rw [(show xi (E47 0) 23 = y51 from vi_e fy51)] at f55
            try rw [(show xi (E42 0) 22 = w18_0_22 from vi_e ((pw43.2 0 22 (fun q9 => absurd q9.2 (Nat.ne_of_beq_eq_false rfl))).trans ((kq29 0 22 rfl).trans hs18_0_22)))] at f56
            try rw [(show xi (E47 0) 22 = y50 from vi_e fy50)] at f56
            refine lv_istore (lv' := [(4, .int r46), (3, .int v18_3), (0, .ref (ad 0)), (1, .int a0), (2, .int a1)]) hx hb dX13_part_49 hl (by decide) rfl (fun ls hl => ?_)
            refine lv_iload_n hx hb dX13_part_51 rfl (lv_at hl 1 rfl) ?_
            refine lv_if_eq (tgt := 64) hx hb dX13_part_52 (by decide) (fun c59 => ?_) (fun c59 => ?_)
            · --52 taken
              have t60 : v18_3.toInt = 0 := ti_eq c59
              have i61 : 0 ≤ v18_3.toInt ∧ v18_3.toInt ≤ 0 := iv_eqi t60 hv18_3 (il_ 0) (by decide)
              refine lv_iconst (v := 0) hx hb dX13_part_64 (by decide) ?_
              refine lv_istore_n (lv' := [(3, .int 0), (4, .int r46), (0, .ref (ad 0)), (1, .int a0), (2, .int a1)]) hx hb dX13_part_65 rfl hl (by decide) rfl (fun ls hl => ?_)
              refine lv_goto (tgt := 18) hx hb dX13_part_66 (by decide) ?_
              exact ih18 y49 y50 y51 (0 : Int32) E47 _ _ _ iy49 iy50 iy51 (iv_w ln_0 (by decide)) (by  first | exact (Int.le_trans (Int.le_trans (Int.le_trans hx18_0 f32) (Int.le_trans (Int.le_add_of_nonneg_right (by decide)) (Int.le_of_eq ty40.symm))) f53) | omega) (by  first | exact (Int.le_trans hx18_1 f54) | omega) (by  first | exact fun q9 => ((f55 (q9)).trans (hx18_2 (f56 (q9)))) | omega) (by  first | exact fun q9 => hx18_3 (f56 (q9)) | omega) (LpM.step (op := isAnd) (cb := jb) hx18_4 f35 (is_and.mpr (by omega)) (by show (xi (E18_ 0) 22).toInt = -1; rw [show xi (E18_ 0) 22 = w18_0_22 from vi_e hs18_0_22]; first | exact t25 | omega) k44 f57 KM.rf (by decide) (fun t m => unY_mono n t m) (fun t m a c h => opL_1 (unY_mono n t m) rfl h)) (LpW.step (op := isAnd) hx18_4 hx18_5 f35 (is_and.mpr (by omega)) k44 k45 f57 f58 (by rw [show r27.toInt = 38 by omega]; exact jn_and ⟨by omega, by omega⟩ ⟨by omega, by omega⟩ (by rw [if_pos (by omega)]; rfl)) (by omega) (by omega) (fun t m a c h => opL_1 (unY_mono n t m) rfl h)) (by omega) hI hKp fy49 fy50 fy51 hP hS (lv_sub hl [0, 2, 3, 4] rfl)
            · --52 not
              have t62 : ¬ v18_3.toInt = 0 := ti_ne c59
              have i63 : 1 ≤ v18_3.toInt ∧ v18_3.toInt ≤ 1 := iv_ne_l t62 hv18_3 (il_ 0)
              refine lv_iload hx hb dX13_part_55 (lv_at hl 0 rfl) ?_
              refine lv_if_eq (tgt := 64) hx hb dX13_part_57 (by decide) (fun c64 => ?_) (fun c64 => ?_)
              · --57 taken
                have t65 : r46.toInt = 0 := ti_eq c64
                have i66 : 0 ≤ r46.toInt ∧ r46.toInt ≤ 0 := iv_eqi t65 f52 (il_ 0) (by decide)
                refine lv_iconst (v := 0) hx hb dX13_part_64 (by decide) ?_
                refine lv_istore_n (lv' := [(3, .int 0), (4, .int r46), (0, .ref (ad 0)), (1, .int a0), (2, .int a1)]) hx hb dX13_part_65 rfl hl (by decide) rfl (fun ls hl => ?_)
                refine lv_goto (tgt := 18) hx hb dX13_part_66 (by decide) ?_
                exact ih18 y49 y50 y51 (0 : Int32) E47 _ _ _ iy49 iy50 iy51 (iv_w ln_0 (by decide)) (by  first | exact (Int.le_trans (Int.le_trans (Int.le_trans hx18_0 f32) (Int.le_trans (Int.le_add_of_nonneg_right (by decide)) (Int.le_of_eq ty40.symm))) f53) | omega) (by  first | exact (Int.le_trans hx18_1 f54) | omega) (by  first | exact fun q9 => ((f55 (q9)).trans (hx18_2 (f56 (q9)))) | omega) (by  first | exact fun q9 => hx18_3 (f56 (q9)) | omega) (LpM.step (op := isAnd) (cb := jb) hx18_4 f35 (is_and.mpr (by omega)) (by show (xi (E18_ 0) 22).toInt = -1; rw [show xi (E18_ 0) 22 = w18_0_22 from vi_e hs18_0_22]; first | exact t25 | omega) k44 f57 KM.rf (by decide) (fun t m => unY_mono n t m) (fun t m a c h => opL_1 (unY_mono n t m) rfl h)) (LpW.step (op := isAnd) hx18_4 hx18_5 f35 (is_and.mpr (by omega)) k44 k45 f57 f58 (by rw [show r27.toInt = 38 by omega]; exact jn_and ⟨by omega, by omega⟩ ⟨by omega, by omega⟩ (by rw [if_pos (by omega)]; rfl)) (by omega) (by omega) (fun t m a c h => opL_1 (unY_mono n t m) rfl h)) (by omega) hI hKp fy49 fy50 fy51 hP hS (lv_sub hl [0, 2, 3, 4] rfl)
              · --57 not
                have t67 : ¬ r46.toInt = 0 := ti_ne c64
                have i68 : 1 ≤ r46.toInt ∧ r46.toInt ≤ 1 := iv_ne_l t67 f52 (il_ 0)
                refine lv_iconst (v := 1) hx hb dX13_part_60 (by decide) ?_
                refine lv_goto (tgt := 65) hx hb dX13_part_61 (by decide) ?_
                refine lv_istore_n (lv' := [(3, .int 1), (4, .int r46), (0, .ref (ad 0)), (1, .int a0), (2, .int a1)]) hx hb dX13_part_65 rfl hl (by decide) rfl (fun ls hl => ?_)
                refine lv_goto (tgt := 18) hx hb dX13_part_66 (by decide) ?_
                exact ih18 y49 y50 y51 (1 : Int32) E47 _ _ _ iy49 iy50 iy51 (iv_w ln_1 (by decide)) (by  first | exact (Int.le_trans (Int.le_trans (Int.le_trans hx18_0 f32) (Int.le_trans (Int.le_add_of_nonneg_right (by decide)) (Int.le_of_eq ty40.symm))) f53) | omega) (by  first | exact (Int.le_trans hx18_1 f54) | omega) (by  first | exact fun q9 => ((f55 (q9)).trans (hx18_2 (f56 (q9)))) | omega) (by  first | exact fun q9 => hx18_3 (f56 (q9)) | omega) (LpM.step (op := isAnd) (cb := jb) hx18_4 f35 (is_and.mpr (by omega)) (by show (xi (E18_ 0) 22).toInt = -1; rw [show xi (E18_ 0) 22 = w18_0_22 from vi_e hs18_0_22]; first | exact t25 | omega) k44 f57 KM.rf (by decide) (fun t m => unY_mono n t m) (fun t m a c h => opL_1 (unY_mono n t m) rfl h)) (LpW.step (op := isAnd) hx18_4 hx18_5 f35 (is_and.mpr (by omega)) k44 k45 f57 f58 (by rw [show r27.toInt = 38 by omega]; exact jn_and ⟨by omega, by omega⟩ ⟨by omega, by omega⟩ (by rw [if_neg (by omega)]; rfl)) (by omega) (by omega) (fun t m a c h => opL_1 (unY_mono n t m) rfl h)) (by omega) hI hKp fy49 fy50 fy51 hP hS (lv_sub hl [0, 2, 3, 4] rfl)
    exact hL18 (202) y10 y11 y12 r7 E8 _ _ _ iy10 iy11 iy12 f13 (by  first | exact f14 | omega) (by  first | exact f15 | omega) (by  first | exact fun q9 => (f16 (q9)) | omega) (by  first | exact fun q9 => f17 (q9) | omega) (LpM.start (unM_0 (w := a0) (by omega) f18) lmP (Int.le_refl _)) (LpW.start (unW_0 (w := a0) (by omega) f19) lmP) (by have h9 := iy10; omega) hI hKp fy10 fy11 fy12 hP hS (lv_sub hl [0, 1, 2, 3] rfl)
  · --1 not
    have t69 : ¬ a0.toInt = 0 := ti_ne c4
    have i70 : 1 ≤ a0.toInt ∧ a0.toInt ≤ 1 := iv_ne_l t69 hh7 (il_ 0)
    refine lv_aload_n hx hb dX13_part_4 rfl (lv_at hl 0 rfl) ?_
    refine lv_iconst (v := 1) hx hb dX13_part_5 (by decide) ?_
    refine lv_iload_n hx hb dX13_part_6 rfl (lv_at hl 2 rfl) ?_
    have z1 := ln_1
    refine th_i (va_runV (As := [.int 1, .int a1]) (rest := []) ⟨hx, hb, hml, hown, hts⟩ (gC dC dI cT ad E s.heap.size (1 : Int32) a1 k nl hI (by exact hh0) (by exact hh1) (by exact hh2) (by exact hh3) (by exact hh4) (by (try rw [(show xi (E 0) 23 = y3 from vi_e fy3)]); omega) (by (try rw [(show xi (E 0) 22 = y2 from vi_e fy2)]); omega) (iv_w ln_1 (by decide))) (cwV 2 hts (gi_V (in_29 _ (zs16 (zs4 (zs4 (zs1 (zs1 (zs0))))))) (in_29 _ (zs16 (zs4 (zs4 (zs1 (zs1 (zs1 (zs0)))))))) (in_29 _ (zs16 (zs4 (zs4 (zs4 (zs0)))))) (in_24 _ (zs4 (zs4 (zs4 (zs1 (zs1 (zs1 (zs0)))))))) (in_29 _ (zs16 (zs4 (zs4 (zs4 (zs1 (zs0)))))))) rfl rfl rfl (by decide +kernel) ⟨(show 7 * n + 8 + 1 ≤ 7 * n + 10 from nl_4 (Nat.le_of_ble_eq_true rfl) (Nat.le_of_ble_eq_true rfl)), (show 8 + (6 + 11) + 40 * (7 * n + 8) ≤ 40 * (7 * n + 10) from nl_3 (Nat.le_of_ble_eq_true rfl) (Nat.le_of_ble_eq_true rfl))⟩) ⟨HW_bl, va_recv hK hP (ci := 14) (q0 := 0) rfl (hI.ob 0 (Nat.le_of_ble_eq_true rfl) rfl), (HW_wi hP hK (WX_D hD) hS hA hEV)⟩ rfl rfl hl.1 rfl (lv_room (Nat.le_of_ble_eq_true rfl)) dX13_part_7 ⟨Nat.le_of_ble_eq_true rfl, Nat.le_of_ble_eq_true rfl⟩) (WX_D hD) hS hA (fun r71 E72 H locs hw hP hS => ?_)
    obtain ⟨hI, kq73, hw⟩ := hw
    have hKb := hKp
    have hKp := hKp.tr kq73 (wl_sub rfl rfl)
    obtain ⟨y74, ey74⟩ : ∃ y, xi (E72 0) 21 = y := ⟨_, rfl⟩
    have fy74 : xv (E72 0) 21 = .int y74 := (hI.fi 0 (Nat.le_of_ble_eq_true rfl) rfl (Nat.le_of_ble_eq_true rfl) rfl).trans (congrArg Value.int ey74)
    have iy74 : 0 ≤ y74.toInt ∧ y74.toInt ≤ 201 := by rw [← ey74]; exact hI.iv 0 (Nat.le_of_ble_eq_true rfl) rfl (Nat.le_of_ble_eq_true rfl) rfl
    obtain ⟨y75, ey75⟩ : ∃ y, xi (E72 0) 22 = y := ⟨_, rfl⟩
    have fy75 : xv (E72 0) 22 = .int y75 := (hI.fi 0 (Nat.le_of_ble_eq_true rfl) rfl (Nat.le_of_ble_eq_true rfl) rfl).trans (congrArg Value.int ey75)
    have iy75 : -1 ≤ y75.toInt ∧ y75.toInt ≤ 201 := by rw [← ey75]; exact hI.iv 0 (Nat.le_of_ble_eq_true rfl) rfl (Nat.le_of_ble_eq_true rfl) rfl
    obtain ⟨y76, ey76⟩ : ∃ y, xi (E72 0) 23 = y := ⟨_, rfl⟩
    have fy76 : xv (E72 0) 23 = .int y76 := (hI.fi 0 (Nat.le_of_ble_eq_true rfl) rfl (Nat.le_of_ble_eq_true rfl) rfl).trans (congrArg Value.int ey76)
    have iy76 : 0 ≤ y76.toInt ∧ y76.toInt ≤ 8 := by rw [← ey76]; exact hI.iv 0 (Nat.le_of_ble_eq_true rfl) rfl (Nat.le_of_ble_eq_true rfl) rfl
    obtain ⟨f77, f78, f79, f80, f81, f82, f83⟩ := hw
    have i84 : 0 ≤ (xi (E 0) 19).toInt ∧ (xi (E 0) 19).toInt ≤ 3000 := (show 0 ≤ (xi (E 0) 19).toInt ∧ (xi (E 0) 19).toInt ≤ 3000 from hI0.iv 0 (Nat.le_of_ble_eq_true rfl) rfl (Nat.le_of_ble_eq_true rfl) rfl)
    have i85 : 0 ≤ (xi (E 0) 20).toInt ∧ (xi (E 0) 20).toInt ≤ 200 := (show 0 ≤ (xi (E 0) 20).toInt ∧ (xi (E 0) 20).toInt ≤ 200 from hI0.iv 0 (Nat.le_of_ble_eq_true rfl) rfl (Nat.le_of_ble_eq_true rfl) rfl)
    try rw [(show xi (E 0) 21 = y1 from vi_e fy1)] at f78
    try rw [(show xi (E72 0) 21 = y74 from vi_e fy74)] at f78
    try rw [(show xi (E 0) 23 = y3 from vi_e fy3)] at f79
    try rw [(show xi (E72 0) 23 = y76 from vi_e fy76)] at f79
    try rw [(show xi (E 0) 22 = y2 from vi_e fy2)] at f80
    try rw [(show xi (E 0) 23 = y3 from vi_e fy3)] at f80
    try rw [(show xi (E72 0) 22 = y75 from vi_e fy75)] at f80
    try rw [(show xi (E72 0) 23 = y76 from vi_e fy76)] at f80
    try rw [(show xi (E 0) 22 = y2 from vi_e fy2)] at f81
    try rw [(show xi (E72 0) 22 = y75 from vi_e fy75)] at f81
    refine lv_goto (tgt := 17) hx hb dX13_part_10 (by decide) ?_
    refine lv_istore_n (lv' := [(3, .int r71), (0, .ref (ad 0)), (1, .int a0), (2, .int a1)]) hx hb dX13_part_17 rfl hl (by decide) rfl (fun ls hl => ?_)
    have hL18 : ∀ d : Nat, ∀ (w18_0_21 : Int32) (w18_0_22 : Int32) (w18_0_23 : Int32) (v18_3 : Int32) (E18_ : Nat → va_E) (H : Heap) (locs : List Loc) (ls : Array Slot), 0 ≤ w18_0_21.toInt ∧ w18_0_21.toInt ≤ 201 → -1 ≤ w18_0_22.toInt ∧ w18_0_22.toInt ≤ 201 → 0 ≤ w18_0_23.toInt ∧ w18_0_23.toInt ≤ 8 → 0 ≤ v18_3.toInt ∧ v18_3.toInt ≤ 1 → y1.toInt ≤ w18_0_21.toInt → y3.toInt ≤ w18_0_23.toInt → (w18_0_22.toInt = -1 → w18_0_23.toInt = y3.toInt) → (w18_0_22.toInt = -1 → y2.toInt = -1) → LpM k (paY a0 n) (fun t m => opL t m isAnd jb (unY 0 n t m)) 0 E E18_ → LpW k (pr a0 a1) (paY a0 n) (fun t m => opL t m isAnd jb (unY 0 n t m)) E E18_ v18_3 → 201 - w18_0_21.toInt < (d : Int) → IX cT shM spM 72 ad E18_ → Kp w_partW E E18_ → xv (E18_ 0) 21 = .int w18_0_21 → xv (E18_ 0) 22 = .int w18_0_22 → xv (E18_ 0) 23 = .int w18_0_23 → va_P (dC, dI) vwCl (WX 72 ad E18_) H → va_S A s.heap H locs → lv_has ls 5 [(3, .int v18_3), (0, .ref (ad 0)), (1, .int a0), (2, .int a1)] → W p l e (headSpec v_partW (rm_partW n)).room s m args below meth c H locs 0 0 Q (F0 m 18 ls []) := by
      intro d
      induction d with
      | zero =>
        intro w18_0_21 w18_0_22 w18_0_23 v18_3 E18_ H locs ls hw18_0_21 hw18_0_22 hw18_0_23 hv18_3 hx18_0 hx18_1 hx18_2 hx18_3 hx18_4 hx18_5 hx18_6 hI hKp hs18_0_21 hs18_0_22 hs18_0_23 hP hS hl
        exact absurd hx18_6 (by omega)
      | succ d ih18 =>
        intro w18_0_21 w18_0_22 w18_0_23 v18_3 E18_ H locs ls hw18_0_21 hw18_0_22 hw18_0_23 hv18_3 hx18_0 hx18_1 hx18_2 hx18_3 hx18_4 hx18_5 hx18_6 hI hKp hs18_0_21 hs18_0_22 hs18_0_23 hP hS hl
        refine lv_aload_n hx hb dX13_part_18 rfl (lv_at hl 1 rfl) ?_
        refine th_get (ci := 14) (C := RX13) (T := TX13) (N := 97) (v := .int w18_0_22) hx hb hts hinX13 hown hK hP hI 0 (Nat.le_of_ble_eq_true rfl) rfl rfl 22 (Nat.le_of_ble_eq_true rfl) (hts _ (vA_in _ _ (in_25 _ (zs16 (zs16 (zs4 (zs1 (zs1 (zs1 (zs0)))))))))) (fun _ h9 => h9) hs18_0_22 dX13_part_19 ?_
        refine lv_iconst (v := -1) hx hb dX13_part_22 (by decide) ?_
        refine lv_icmp_ne (tgt := 69) hx hb dX13_part_23 (by decide) (fun c86 => ?_) (fun c86 => ?_)
        · --23 taken
          have t87 : ¬ w18_0_22.toInt = -1 := ti_ne c86
          have i88 : 0 ≤ w18_0_22.toInt ∧ w18_0_22.toInt ≤ 201 := iv_ne_l t87 hw18_0_22 (il_ (-1))
          refine lv_iload_n hx hb dX13_part_69 rfl (lv_at hl 0 rfl) ?_
          rw [hQ]
          exact W.zret (v := v18_3) hx hb hr (nar_b1 hv18_3) (fun t ht hW => ⟨⟨v18_3, E18_, rfl, ⟨hI, hKp, ⟨hv18_3, by (try rw [(show xi (E18_ 0) 21 = w18_0_21 from vi_e hs18_0_21)]); (try rw [ey1]); first | done | exact hx18_0 | all_goals omega, by (try rw [(show xi (E18_ 0) 23 = w18_0_23 from vi_e hs18_0_23)]); (try rw [ey3]); first | done | exact hx18_1 | all_goals omega, by (try rw [(show xi (E18_ 0) 22 = w18_0_22 from vi_e hs18_0_22)]); (try rw [(show xi (E18_ 0) 23 = w18_0_23 from vi_e hs18_0_23)]); (try rw [ey2]); (try rw [ey3]); first | done | exact fun q9 => absurd (q9) t87 | all_goals omega, by (try rw [(show xi (E18_ 0) 22 = w18_0_22 from vi_e hs18_0_22)]); (try rw [ey2]); first | done | exact fun q9 => absurd (q9) t87 | all_goals omega, LpM.exF hx18_4 (by show ¬ (xi (E18_ 0) 22).toInt = -1; rw [show xi (E18_ 0) 22 = w18_0_22 from vi_e hs18_0_22]; omega), RdW.nf (by show ¬ (xi (E18_ 0) 22).toInt = -1; rw [show xi (E18_ 0) 22 = w18_0_22 from vi_e hs18_0_22]; omega)⟩⟩, by show va_P (dC, dI) vwCl (WX 72 ad E18_) t.heap; rw [ht]; exact hP⟩, hS.F ht⟩) hS.2.2 dX13_part_70
        · --23 not
          have t89 : w18_0_22.toInt = -1 := ti_eq c86
          have i90 : -1 ≤ w18_0_22.toInt ∧ w18_0_22.toInt ≤ -1 := iv_eqi t89 hw18_0_22 (il_ (-1)) (by decide)
          refine lv_aload_n hx hb dX13_part_26 rfl (lv_at hl 1 rfl) ?_
          refine th_i (va_runV (As := []) (rest := []) ⟨hx, hb, hml, hown, hts⟩ (q_lookX l dC dI cT ad E18_ H.size k nl hI (by exact hh0) (by exact hh1) (by exact hh2) (by exact (hKp 0 18 rfl).trans hh3) (by (try rw [hKp.ei 0 19 rfl]); exact hh4)) (cwV 0 hts (gi_V (in_26 _ (zs1 (zs1 (zs0)))) (in_26 _ (zs1 (zs1 (zs1 (zs0))))) (in_26 _ (zs4 (zs0))) (in_24 _ (zs4 (zs4 (zs4 (zs1 (zs1 (zs1 (zs0)))))))) (in_26 _ (zs4 (zs1 (zs0))))) rfl rfl rfl ⟨rfl, hz_yX13_look_0⟩ ⟨(show 0 + 1 ≤ 7 * n + 10 from nl_1 (Nat.le_of_ble_eq_true rfl)), (show 8 + (1 + 11) + 40 * (0) ≤ 40 * (7 * n + 10) from nl_2 (Nat.le_of_ble_eq_true rfl))⟩) ⟨HW_bl, va_recv hK hP (ci := 14) (q0 := 0) rfl (hI.ob 0 (Nat.le_of_ble_eq_true rfl) rfl), (HW_wi hP hK (WX_D hD) hS hA hEV)⟩ rfl rfl hl.1 rfl (lv_room (Nat.le_of_ble_eq_true rfl)) dX13_part_27 ⟨Nat.le_of_ble_eq_true rfl, Nat.le_of_ble_eq_true rfl⟩) (WX_D hD) hS hA (fun r91 E92 H locs hw hP hS => ?_)
          obtain ⟨hI, kq93, hw⟩ := hw
          have hKb := hKp
          have hKp := hKp.tr kq93 (wl_sub rfl rfl)
          obtain ⟨y94, ey94⟩ : ∃ y, xi (E92 0) 21 = y := ⟨_, rfl⟩
          have fy94 : xv (E92 0) 21 = .int y94 := (hI.fi 0 (Nat.le_of_ble_eq_true rfl) rfl (Nat.le_of_ble_eq_true rfl) rfl).trans (congrArg Value.int ey94)
          have iy94 : 0 ≤ y94.toInt ∧ y94.toInt ≤ 201 := by rw [← ey94]; exact hI.iv 0 (Nat.le_of_ble_eq_true rfl) rfl (Nat.le_of_ble_eq_true rfl) rfl
          obtain ⟨f95, f96, f97, f98, f99⟩ := hw
          try rw [(show xi (E18_ 0) 21 = w18_0_21 from vi_e hs18_0_21)] at f96
          try rw [(show xi (E92 0) 21 = y94 from vi_e fy94)] at f96
          try rw [(show xi (E18_ 0) 21 = w18_0_21 from vi_e hs18_0_21)] at f97
          try rw [hKb.ei 0 20 rfl] at f97
          try rw [(show xi (E92 0) 21 = y94 from vi_e fy94)] at f97
          try rw [(show xi (E18_ 0) 21 = w18_0_21 from vi_e hs18_0_21)] at f98
          try rw [hKb.ei 0 20 rfl] at f98
          try rw [(show xi (E92 0) 21 = y94 from vi_e fy94)] at f98
          refine lv_bipush (v := 38) hx hb dX13_part_30 (by decide) ?_
          refine lv_icmp_ne (tgt := 69) hx hb dX13_part_32 (by decide) (fun c100 => ?_) (fun c100 => ?_)
          · --32 taken
            have t101 : ¬ r91.toInt = 38 := ti_ne c100
            refine lv_iload_n hx hb dX13_part_69 rfl (lv_at hl 0 rfl) ?_
            rw [hQ]
            exact W.zret (v := v18_3) hx hb hr (nar_b1 hv18_3) (fun t ht hW => ⟨⟨v18_3, E92, rfl, ⟨hI, hKp, ⟨hv18_3, by (try rw [(show xi (E92 0) 21 = y94 from vi_e fy94)]); (try rw [ey1]); first | done | exact (Int.le_trans hx18_0 f96) | all_goals omega, by (try rw [(show xi (E92 0) 23 = w18_0_23 from vi_e ((kq93 0 23 rfl).trans hs18_0_23))]); (try rw [ey3]); first | done | exact hx18_1 | all_goals omega, by (try rw [(show xi (E92 0) 22 = w18_0_22 from vi_e ((kq93 0 22 rfl).trans hs18_0_22))]); (try rw [(show xi (E92 0) 23 = w18_0_23 from vi_e ((kq93 0 23 rfl).trans hs18_0_23))]); (try rw [ey2]); (try rw [ey3]); first | done | exact fun q9 => (hx18_2 (q9)) | all_goals omega, by (try rw [(show xi (E92 0) 22 = w18_0_22 from vi_e ((kq93 0 22 rfl).trans hs18_0_22))]); (try rw [ey2]); first | done | exact fun q9 => hx18_3 (q9) | all_goals omega, LpM.exit (op := isAnd) hx18_4 f99 (fun q9 => by have q8 := is_and.mp q9; omega) (fun t m a c h => opL_0 h), LpW.exit (op := isAnd) hx18_4 hx18_5 f99 (fun q9 => by have q8 := is_and.mp q9; omega) (fun t m a c h => opL_0 h)⟩⟩, by show va_P (dC, dI) vwCl (WX 72 ad E92) t.heap; rw [ht]; exact hP⟩, hS.F ht⟩) hS.2.2 dX13_part_70
          · --32 not
            have t102 : r91.toInt = 38 := ti_eq c100
            have i103 : 38 ≤ r91.toInt ∧ r91.toInt ≤ 38 := iv_eqi t102 f95 (il_ 38) (by decide)
            refine lv_aload_n hx hb dX13_part_35 rfl (lv_at hl 1 rfl) ?_
            refine lv_dup hx hb dX13_part_36 rfl ?_
            refine th_get (ci := 14) (C := RX13) (T := TX13) (N := 97) (v := .int y94) hx hb hts hinX13 hown hK hP hI 0 (Nat.le_of_ble_eq_true rfl) rfl rfl 21 (Nat.le_of_ble_eq_true rfl) (hts _ (vA_in _ _ (in_25 _ (zs16 (zs16 (zs4 (zs0))))))) (fun _ h9 => h9) fy94 dX13_part_37 ?_
            refine lv_iconst (v := 1) hx hb dX13_part_40 (by decide) ?_
            refine lv_iadd hx hb dX13_part_41 ?_
            refine lv_topi (fun y104 ey104 => ?_)
            obtain ⟨ty104, iy104⟩ := ti_add (e := 1) (f := 202) iy94 ln_1 ey104 (by decide)
            have ty104 : y104.toInt = y94.toInt + 1 := ty104
            have iy104 : 1 ≤ y104.toInt ∧ y104.toInt ≤ 202 := iy104
            have i105 : 1 ≤ y104.toInt ∧ y104.toInt ≤ 201 := by omega
            refine th_put (ci := 14) (C := RX13) (T := TX13) (N := 97) (v := .int y104) (ty := .int) hx hb hts hinX13 tyX13 tyX13_ok nmX13 hown hK hP (WX_D hD) hS hI 0 (Nat.le_of_ble_eq_true rfl) rfl rfl 21 (Nat.le_of_ble_eq_true rfl) (hts _ (vA_in _ _ (in_25 _ (zs16 (zs16 (zs4 (zs0))))))) (fun _ h9 => h9) rfl (by decide +kernel) rfl rfl (okI rfl (iv_w i105 (by decide))) dX13_part_42 (fun H locs E106 pw107 hI hP hS => ?_)
            have hKp := hKp.pw pw107 rfl
            have k108 : AtM k E92 E106 := AtM.pw pw107.2 hk0 (vi_e fy94) (vi_e pw107.1) ty104 (by omega)
            have k109 : MZ E E106 := MZ.kp hKp (fun _ => rfl)
            refine lv_aload_n hx hb dX13_part_45 rfl (lv_at hl 1 rfl) ?_
            refine th_i (va_runV (As := []) (rest := []) ⟨hx, hb, hml, hown, hts⟩ (gU dC dI cT ad E106 H.size k nl hI (by exact hh0) (by exact hh1) (by exact hh2) (by exact (hKp 0 18 rfl).trans hh3) (by (try rw [hKp.ei 0 19 rfl]); exact hh4) (by (try rw [(show xi (E106 0) 23 = w18_0_23 from vi_e ((pw107.2 0 23 (fun q9 => absurd q9.2 (Nat.ne_of_beq_eq_false rfl))).trans ((kq93 0 23 rfl).trans hs18_0_23)))]); omega) (by (try rw [(show xi (E106 0) 22 = w18_0_22 from vi_e ((pw107.2 0 22 (fun q9 => absurd q9.2 (Nat.ne_of_beq_eq_false rfl))).trans ((kq93 0 22 rfl).trans hs18_0_22)))]); omega)) (cwV 0 hts (gi_V (in_29 _ (zs16 (zs16 (zs1 (zs0))))) (in_29 _ (zs16 (zs16 (zs1 (zs1 (zs0)))))) (in_29 _ (zs16 (zs16 (zs1 (zs1 (zs1 (zs0))))))) (in_24 _ (zs4 (zs4 (zs4 (zs1 (zs1 (zs1 (zs0)))))))) (in_29 _ (zs16 (zs16 (zs4 (zs0)))))) rfl rfl rfl (by decide +kernel) ⟨(show 7 * n + 9 + 1 ≤ 7 * n + 10 from nl_4 (Nat.le_of_ble_eq_true rfl) (Nat.le_of_ble_eq_true rfl)), (show 8 + (3 + 11) + 40 * (7 * n + 9) ≤ 40 * (7 * n + 10) from nl_3 (Nat.le_of_ble_eq_true rfl) (Nat.le_of_ble_eq_true rfl))⟩) ⟨HW_bl, va_recv hK hP (ci := 14) (q0 := 0) rfl (hI.ob 0 (Nat.le_of_ble_eq_true rfl) rfl), (HW_wi hP hK (WX_D hD) hS hA hEV)⟩ rfl rfl hl.1 rfl (lv_room (Nat.le_of_ble_eq_true rfl)) dX13_part_46 ⟨Nat.le_of_ble_eq_true rfl, Nat.le_of_ble_eq_true rfl⟩) (WX_D hD) hS hA (fun r110 E111 H locs hw hP hS => ?_)
            obtain ⟨hI, kq112, hw⟩ := hw
            have hKb := hKp
            have hKp := hKp.tr kq112 (wl_sub rfl rfl)
            obtain ⟨y113, ey113⟩ : ∃ y, xi (E111 0) 21 = y := ⟨_, rfl⟩
            have fy113 : xv (E111 0) 21 = .int y113 := (hI.fi 0 (Nat.le_of_ble_eq_true rfl) rfl (Nat.le_of_ble_eq_true rfl) rfl).trans (congrArg Value.int ey113)
            have iy113 : 0 ≤ y113.toInt ∧ y113.toInt ≤ 201 := by rw [← ey113]; exact hI.iv 0 (Nat.le_of_ble_eq_true rfl) rfl (Nat.le_of_ble_eq_true rfl) rfl
            obtain ⟨y114, ey114⟩ : ∃ y, xi (E111 0) 22 = y := ⟨_, rfl⟩
            have fy114 : xv (E111 0) 22 = .int y114 := (hI.fi 0 (Nat.le_of_ble_eq_true rfl) rfl (Nat.le_of_ble_eq_true rfl) rfl).trans (congrArg Value.int ey114)
            have iy114 : -1 ≤ y114.toInt ∧ y114.toInt ≤ 201 := by rw [← ey114]; exact hI.iv 0 (Nat.le_of_ble_eq_true rfl) rfl (Nat.le_of_ble_eq_true rfl) rfl
            obtain ⟨y115, ey115⟩ : ∃ y, xi (E111 0) 23 = y := ⟨_, rfl⟩
            have fy115 : xv (E111 0) 23 = .int y115 := (hI.fi 0 (Nat.le_of_ble_eq_true rfl) rfl (Nat.le_of_ble_eq_true rfl) rfl).trans (congrArg Value.int ey115)
            have iy115 : 0 ≤ y115.toInt ∧ y115.toInt ≤ 8 := by rw [← ey115]; exact hI.iv 0 (Nat.le_of_ble_eq_true rfl) rfl (Nat.le_of_ble_eq_true rfl) rfl
            obtain ⟨f116, f117, f118, f119, f120, f121, f122⟩ := hw
            try rw [(show xi (E106 0) 21 = y104 from vi_e pw107.1)] at f117
            try rw [(show xi (E111 0) 21 = y113 from vi_e fy113)] at f117
            try rw [(show xi (E106 0) 23 = w18_0_23 from vi_e ((pw107.2 0 23 (fun q9 => absurd q9.2 (Nat.ne_of_beq_eq_false rfl))).trans ((kq93 0 23 rfl).trans hs18_0_23)))] at f118
            try rw [(show xi (E111 0) 23 = y115 from vi_e fy115)] at f118
            try rw [(show xi (E106 0) 22 = w18_0_22 from vi_e ((pw107.2 0 22 (fun q9 => absurd q9.2 (Nat.ne_of_beq_eq_false rfl))).trans ((kq93 0 22 rfl).trans hs18_0_22)))] at f119
            try rw [(show xi (E106 0) 23 = w18_0_23 from vi_e ((pw107.2 0 23 (fun q9 => absurd q9.2 (Nat.ne_of_beq_eq_false rfl))).trans ((kq93 0 23 rfl).trans hs18_0_23)))] at f119
            try rw [(show xi (E111 0) 22 = y114 from vi_e fy114)] at f119
            try rw [(show xi (E111 0) 23 = y115 from vi_e fy115)] at f119
            try rw [(show xi (E106 0) 22 = w18_0_22 from vi_e ((pw107.2 0 22 (fun q9 => absurd q9.2 (Nat.ne_of_beq_eq_false rfl))).trans ((kq93 0 22 rfl).trans hs18_0_22)))] at f120
            try rw [(show xi (E111 0) 22 = y114 from vi_e fy114)] at f120
            refine lv_istore (lv' := [(4, .int r110), (3, .int v18_3), (0, .ref (ad 0)), (1, .int a0), (2, .int a1)]) hx hb dX13_part_49 hl (by decide) rfl (fun ls hl => ?_)
            refine lv_iload_n hx hb dX13_part_51 rfl (lv_at hl 1 rfl) ?_
            refine lv_if_eq (tgt := 64) hx hb dX13_part_52 (by decide) (fun c123 => ?_) (fun c123 => ?_)
            · --52 taken
              have t124 : v18_3.toInt = 0 := ti_eq c123
              have i125 : 0 ≤ v18_3.toInt ∧ v18_3.toInt ≤ 0 := iv_eqi t124 hv18_3 (il_ 0) (by decide)
              refine lv_iconst (v := 0) hx hb dX13_part_64 (by decide) ?_
              refine lv_istore_n (lv' := [(3, .int 0), (4, .int r110), (0, .ref (ad 0)), (1, .int a0), (2, .int a1)]) hx hb dX13_part_65 rfl hl (by decide) rfl (fun ls hl => ?_)
              refine lv_goto (tgt := 18) hx hb dX13_part_66 (by decide) ?_
              exact ih18 y113 y114 y115 (0 : Int32) E111 _ _ _ iy113 iy114 iy115 (iv_w ln_0 (by decide)) (by  first | exact (Int.le_trans (Int.le_trans (Int.le_trans hx18_0 f96) (Int.le_trans (Int.le_add_of_nonneg_right (by decide)) (Int.le_of_eq ty104.symm))) f117) | omega) (by  first | exact (Int.le_trans hx18_1 f118) | omega) (by  first | exact fun q9 => ((f119 (q9)).trans (hx18_2 (f120 (q9)))) | omega) (by  first | exact fun q9 => hx18_3 (f120 (q9)) | omega) (LpM.step (op := isAnd) (cb := jb) hx18_4 f99 (is_and.mpr (by omega)) (by show (xi (E18_ 0) 22).toInt = -1; rw [show xi (E18_ 0) 22 = w18_0_22 from vi_e hs18_0_22]; first | exact t89 | omega) k108 f121 KM.rf (by decide) (fun t m => unY_mono n t m) (fun t m a c h => opL_1 (unY_mono n t m) rfl h)) (LpW.step (op := isAnd) hx18_4 hx18_5 f99 (is_and.mpr (by omega)) k108 k109 f121 f122 (by rw [show r91.toInt = 38 by omega]; exact jn_and ⟨by omega, by omega⟩ ⟨by omega, by omega⟩ (by rw [if_pos (by omega)]; rfl)) (by omega) (by omega) (fun t m a c h => opL_1 (unY_mono n t m) rfl h)) (by omega) hI hKp fy113 fy114 fy115 hP hS (lv_sub hl [0, 2, 3, 4] rfl)
            · --52 not
              have t126 : ¬ v18_3.toInt = 0 := ti_ne c123
              have i127 : 1 ≤ v18_3.toInt ∧ v18_3.toInt ≤ 1 := iv_ne_l t126 hv18_3 (il_ 0)
              refine lv_iload hx hb dX13_part_55 (lv_at hl 0 rfl) ?_
              refine lv_if_eq (tgt := 64) hx hb dX13_part_57 (by decide) (fun c128 => ?_) (fun c128 => ?_)
              · --57 taken
                have t129 : r110.toInt = 0 := ti_eq c128
                have i130 : 0 ≤ r110.toInt ∧ r110.toInt ≤ 0 := iv_eqi t129 f116 (il_ 0) (by decide)
                refine lv_iconst (v := 0) hx hb dX13_part_64 (by decide) ?_
                refine lv_istore_n (lv' := [(3, .int 0), (4, .int r110), (0, .ref (ad 0)), (1, .int a0), (2, .int a1)]) hx hb dX13_part_65 rfl hl (by decide) rfl (fun ls hl => ?_)
                refine lv_goto (tgt := 18) hx hb dX13_part_66 (by decide) ?_
                exact ih18 y113 y114 y115 (0 : Int32) E111 _ _ _ iy113 iy114 iy115 (iv_w ln_0 (by decide)) (by  first | exact (Int.le_trans (Int.le_trans (Int.le_trans hx18_0 f96) (Int.le_trans (Int.le_add_of_nonneg_right (by decide)) (Int.le_of_eq ty104.symm))) f117) | omega) (by  first | exact (Int.le_trans hx18_1 f118) | omega) (by  first | exact fun q9 => ((f119 (q9)).trans (hx18_2 (f120 (q9)))) | omega) (by  first | exact fun q9 => hx18_3 (f120 (q9)) | omega) (LpM.step (op := isAnd) (cb := jb) hx18_4 f99 (is_and.mpr (by omega)) (by show (xi (E18_ 0) 22).toInt = -1; rw [show xi (E18_ 0) 22 = w18_0_22 from vi_e hs18_0_22]; first | exact t89 | omega) k108 f121 KM.rf (by decide) (fun t m => unY_mono n t m) (fun t m a c h => opL_1 (unY_mono n t m) rfl h)) (LpW.step (op := isAnd) hx18_4 hx18_5 f99 (is_and.mpr (by omega)) k108 k109 f121 f122 (by rw [show r91.toInt = 38 by omega]; exact jn_and ⟨by omega, by omega⟩ ⟨by omega, by omega⟩ (by rw [if_pos (by omega)]; rfl)) (by omega) (by omega) (fun t m a c h => opL_1 (unY_mono n t m) rfl h)) (by omega) hI hKp fy113 fy114 fy115 hP hS (lv_sub hl [0, 2, 3, 4] rfl)
              · --57 not
                have t131 : ¬ r110.toInt = 0 := ti_ne c128
                have i132 : 1 ≤ r110.toInt ∧ r110.toInt ≤ 1 := iv_ne_l t131 f116 (il_ 0)
                refine lv_iconst (v := 1) hx hb dX13_part_60 (by decide) ?_
                refine lv_goto (tgt := 65) hx hb dX13_part_61 (by decide) ?_
                refine lv_istore_n (lv' := [(3, .int 1), (4, .int r110), (0, .ref (ad 0)), (1, .int a0), (2, .int a1)]) hx hb dX13_part_65 rfl hl (by decide) rfl (fun ls hl => ?_)
                refine lv_goto (tgt := 18) hx hb dX13_part_66 (by decide) ?_
                exact ih18 y113 y114 y115 (1 : Int32) E111 _ _ _ iy113 iy114 iy115 (iv_w ln_1 (by decide)) (by  first | exact (Int.le_trans (Int.le_trans (Int.le_trans hx18_0 f96) (Int.le_trans (Int.le_add_of_nonneg_right (by decide)) (Int.le_of_eq ty104.symm))) f117) | omega) (by  first | exact (Int.le_trans hx18_1 f118) | omega) (by  first | exact fun q9 => ((f119 (q9)).trans (hx18_2 (f120 (q9)))) | omega) (by  first | exact fun q9 => hx18_3 (f120 (q9)) | omega) (LpM.step (op := isAnd) (cb := jb) hx18_4 f99 (is_and.mpr (by omega)) (by show (xi (E18_ 0) 22).toInt = -1; rw [show xi (E18_ 0) 22 = w18_0_22 from vi_e hs18_0_22]; first | exact t89 | omega) k108 f121 KM.rf (by decide) (fun t m => unY_mono n t m) (fun t m a c h => opL_1 (unY_mono n t m) rfl h)) (LpW.step (op := isAnd) hx18_4 hx18_5 f99 (is_and.mpr (by omega)) k108 k109 f121 f122 (by rw [show r91.toInt = 38 by omega]; exact jn_and ⟨by omega, by omega⟩ ⟨by omega, by omega⟩ (by rw [if_neg (by omega)]; rfl)) (by omega) (by omega) (fun t m a c h => opL_1 (unY_mono n t m) rfl h)) (by omega) hI hKp fy113 fy114 fy115 hP hS (lv_sub hl [0, 2, 3, 4] rfl)
    exact hL18 (202) y74 y75 y76 r71 E72 _ _ _ iy74 iy75 iy76 f77 (by  first | exact f78 | omega) (by  first | exact f79 | omega) (by  first | exact fun q9 => (f80 (q9)) | omega) (by  first | exact fun q9 => f81 (q9) | omega) (LpM.start (unM_1 (w := a0) (by omega) f82) lmP (Int.le_refl _)) (LpW.start (unW_1 (w := a0) (by omega) f83) lmP) (by have h9 := iy74; omega) hI hKp fy74 fy75 fy76 hP hS (lv_sub hl [0, 1, 2, 3] rfl)
set_option maxHeartbeats 4000000 in
set_option maxRecDepth 100000 in
theorem q_conditionW (l : Launch) (n : Nat) (gP : C_partW l n) : C_conditionW l n := by
  intro dC dI cT ad E sz a0 a1 k nl hI0 hh0 hh1 hh2 hh3 hh4 hh5 hh6 hh7
  refine Met.ofW (cc := cX13_condition) (maxL := 5) (ret := (some .boolean)) (by decide) rfl ?_
  intro p e s m args below meth c s₁ B hml hv
  obtain ⟨hargs, hsz, hP, hK, hD0, hEV⟩ := hv
  subst hsz
  have hx := B.exec
  have hb := B.bytes
  have hr := B.returns
  have hts := atoms_spec (ws := v_conditionW) B.pre
  have hown : s.vm.findClass RX13 = some m.cls := findClass_of_methodNamed B.named
  have hlocks := B.notSynchronized
  have hinX13 : ∀ w ∈ u_ws RX13 TX13 97, w ∈ v_conditionW := fun w h => vA_in _ w (in_X13 w h)
  generalize hAe : va_A (WX 72 ad E) s.heap.size = A at hEV ⊢
  have hA : ∀ q : Nat, s.heap.size ≤ q → A q := fun q h => by rw [← hAe]; exact Or.inr h
  have hD : va_D A (WX 72 ad E) := by rw [← hAe]; exact hD0.self
  have hS : va_S A s.heap s.heap [] := va_S.rf
  have hI := hI0
  have hKp : Kp w_conditionW E E := Kp.rf
  have hl := lv_entry ([.ref (ad 0), .int a0, .int a1]) (n := 5) (Nat.le_of_ble_eq_true rfl)
  obtain ⟨Q, hQ⟩ : ∃ Q, Q = MQ below (va_Qi (S := Nat → va_E) (fun r u => IX cT shM spM 72 ad u ∧ Kp w_conditionW E u ∧ ((0 ≤ r.toInt ∧ r.toInt ≤ 1) ∧ ((xi (E 0) 21).toInt ≤ (xi (u 0) 21).toInt) ∧ ((xi (E 0) 23).toInt ≤ (xi (u 0) 23).toInt) ∧ ((xi (u 0) 22).toInt = -1 → (xi (u 0) 23).toInt = (xi (E 0) 23).toInt) ∧ ((xi (u 0) 22).toInt = -1 → (xi (E 0) 22).toInt = -1) ∧ (RdM k (coY a0 n) E u) ∧ (RdW k (pr a0 a1) (coY a0 n) E u r))) (HB dC dI 72 ad) (A)) args s 0 0 (A) := ⟨_, rfl⟩
  rw [← hQ, show entryFrame m args 5 = _ from (congrArg (fun z => entryFrame m z 5) hargs).trans (lg_entry_eq _ _ _)]
  generalize (lg_sl ([.ref (ad 0), .int a0, .int a1]) ++ List.replicate (5 - (lg_sl ([.ref (ad 0), .int a0, .int a1])).length) Slot.unset).toArray = ls at hl ⊢
  have hl : lv_has ls 5 [(0, .ref (ad 0)), (1, .int a0), (2, .int a1)] := hl
  obtain ⟨y1, ey1⟩ : ∃ y, xi (E 0) 21 = y := ⟨_, rfl⟩
  have fy1 : xv (E 0) 21 = .int y1 := (hI.fi 0 (Nat.le_of_ble_eq_true rfl) rfl (Nat.le_of_ble_eq_true rfl) rfl).trans (congrArg Value.int ey1)
  have iy1 : 0 ≤ y1.toInt ∧ y1.toInt ≤ 201 := by rw [← ey1]; exact hI.iv 0 (Nat.le_of_ble_eq_true rfl) rfl (Nat.le_of_ble_eq_true rfl) rfl
  obtain ⟨y2, ey2⟩ : ∃ y, xi (E 0) 22 = y := ⟨_, rfl⟩
  have fy2 : xv (E 0) 22 = .int y2 := (hI.fi 0 (Nat.le_of_ble_eq_true rfl) rfl (Nat.le_of_ble_eq_true rfl) rfl).trans (congrArg Value.int ey2)
  have iy2 : -1 ≤ y2.toInt ∧ y2.toInt ≤ 201 := by rw [← ey2]; exact hI.iv 0 (Nat.le_of_ble_eq_true rfl) rfl (Nat.le_of_ble_eq_true rfl) rfl
  rw [ey2] at hh6
  obtain ⟨y3, ey3⟩ : ∃ y, xi (E 0) 23 = y := ⟨_, rfl⟩
  have fy3 : xv (E 0) 23 = .int y3 := (hI.fi 0 (Nat.le_of_ble_eq_true rfl) rfl (Nat.le_of_ble_eq_true rfl) rfl).trans (congrArg Value.int ey3)
  have iy3 : 0 ≤ y3.toInt ∧ y3.toInt ≤ 8 := by rw [← ey3]; exact hI.iv 0 (Nat.le_of_ble_eq_true rfl) rfl (Nat.le_of_ble_eq_true rfl) rfl
  rw [ey3] at hh5
  have hk0 : ¬ k = 0 := fun q9 => by rw [q9] at hh1; exact absurd (show (shM 0).1 = 1 from congrArg Prod.fst hh1) (by decide)
  refine lv_aload_n hx hb dX13_condition_0 rfl (lv_at hl 0 rfl) ?_
  refine lv_iload_n hx hb dX13_condition_1 rfl (lv_at hl 1 rfl) ?_
  refine lv_iload_n hx hb dX13_condition_2 rfl (lv_at hl 2 rfl) ?_
  refine th_i (va_runV (As := [.int a0, .int a1]) (rest := []) ⟨hx, hb, hml, hown, hts⟩ (gP dC dI cT ad E s.heap.size a0 a1 k nl hI (by exact hh0) (by exact hh1) (by exact hh2) (by exact hh3) (by exact hh4) (by (try rw [(show xi (E 0) 23 = y3 from vi_e fy3)]); omega) (by (try rw [(show xi (E 0) 22 = y2 from vi_e fy2)]); omega) hh7) (cwV 2 hts (gi_V (in_29 _ (zs16 (zs4 (zs1 (zs1 (zs0)))))) (in_29 _ (zs16 (zs4 (zs1 (zs1 (zs1 (zs0))))))) (in_29 _ (zs16 (zs4 (zs4 (zs0))))) (in_24 _ (zs4 (zs4 (zs4 (zs1 (zs1 (zs1 (zs0)))))))) (in_29 _ (zs16 (zs4 (zs4 (zs1 (zs0))))))) rfl rfl rfl (by decide +kernel) ⟨(show 7 * n + 10 + 1 ≤ 7 * n + 11 from nl_4 (Nat.le_of_ble_eq_true rfl) (Nat.le_of_ble_eq_true rfl)), (show 8 + (5 + 11) + 40 * (7 * n + 10) ≤ 40 * (7 * n + 11) from nl_3 (Nat.le_of_ble_eq_true rfl) (Nat.le_of_ble_eq_true rfl))⟩) ⟨HW_bl, va_recv hK hP (ci := 14) (q0 := 0) rfl (hI.ob 0 (Nat.le_of_ble_eq_true rfl) rfl), (HW_wi hP hK (WX_D hD) hS hA hEV)⟩ rfl rfl hl.1 rfl (lv_room (Nat.le_of_ble_eq_true rfl)) dX13_condition_3 ⟨Nat.le_of_ble_eq_true rfl, Nat.le_of_ble_eq_true rfl⟩) (WX_D hD) hS hA (fun r4 E5 H locs hw hP hS => ?_)
  obtain ⟨hI, kq6, hw⟩ := hw
  have hKb := hKp
  have hKp := hKp.tr kq6 (wl_sub rfl rfl)
  obtain ⟨y7, ey7⟩ : ∃ y, xi (E5 0) 21 = y := ⟨_, rfl⟩
  have fy7 : xv (E5 0) 21 = .int y7 := (hI.fi 0 (Nat.le_of_ble_eq_true rfl) rfl (Nat.le_of_ble_eq_true rfl) rfl).trans (congrArg Value.int ey7)
  have iy7 : 0 ≤ y7.toInt ∧ y7.toInt ≤ 201 := by rw [← ey7]; exact hI.iv 0 (Nat.le_of_ble_eq_true rfl) rfl (Nat.le_of_ble_eq_true rfl) rfl
  obtain ⟨y8, ey8⟩ : ∃ y, xi (E5 0) 22 = y := ⟨_, rfl⟩
  have fy8 : xv (E5 0) 22 = .int y8 := (hI.fi 0 (Nat.le_of_ble_eq_true rfl) rfl (Nat.le_of_ble_eq_true rfl) rfl).trans (congrArg Value.int ey8)
  have iy8 : -1 ≤ y8.toInt ∧ y8.toInt ≤ 201 := by rw [← ey8]; exact hI.iv 0 (Nat.le_of_ble_eq_true rfl) rfl (Nat.le_of_ble_eq_true rfl) rfl
  obtain ⟨y9, ey9⟩ : ∃ y, xi (E5 0) 23 = y := ⟨_, rfl⟩
  have fy9 : xv (E5 0) 23 = .int y9 := (hI.fi 0 (Nat.le_of_ble_eq_true rfl) rfl (Nat.le_of_ble_eq_true rfl) rfl).trans (congrArg Value.int ey9)
  have iy9 : 0 ≤ y9.toInt ∧ y9.toInt ≤ 8 := by rw [← ey9]; exact hI.iv 0 (Nat.le_of_ble_eq_true rfl) rfl (Nat.le_of_ble_eq_true rfl) rfl
  obtain ⟨f10, f11, f12, f13, f14, f15, f16⟩ := hw
  have i17 : 0 ≤ (xi (E 0) 19).toInt ∧ (xi (E 0) 19).toInt ≤ 3000 := (show 0 ≤ (xi (E 0) 19).toInt ∧ (xi (E 0) 19).toInt ≤ 3000 from hI0.iv 0 (Nat.le_of_ble_eq_true rfl) rfl (Nat.le_of_ble_eq_true rfl) rfl)
  have i18 : 0 ≤ (xi (E 0) 20).toInt ∧ (xi (E 0) 20).toInt ≤ 200 := (show 0 ≤ (xi (E 0) 20).toInt ∧ (xi (E 0) 20).toInt ≤ 200 from hI0.iv 0 (Nat.le_of_ble_eq_true rfl) rfl (Nat.le_of_ble_eq_true rfl) rfl)
  try rw [(show xi (E 0) 21 = y1 from vi_e fy1)] at f11
  try rw [(show xi (E5 0) 21 = y7 from vi_e fy7)] at f11
  try rw [(show xi (E 0) 23 = y3 from vi_e fy3)] at f12
  try rw [(show xi (E5 0) 23 = y9 from vi_e fy9)] at f12
  try rw [(show xi (E 0) 22 = y2 from vi_e fy2)] at f13
  try rw [(show xi (E 0) 23 = y3 from vi_e fy3)] at f13
  try rw [(show xi (E5 0) 22 = y8 from vi_e fy8)] at f13
  try rw [(show xi (E5 0) 23 = y9 from vi_e fy9)] at f13
  try rw [(show xi (E 0) 22 = y2 from vi_e fy2)] at f14
  try rw [(show xi (E5 0) 22 = y8 from vi_e fy8)] at f14
  refine lv_istore_n (lv' := [(3, .int r4), (0, .ref (ad 0)), (1, .int a0), (2, .int a1)]) hx hb dX13_condition_6 rfl hl (by decide) rfl (fun ls hl => ?_)
  have hL7 : ∀ d : Nat, ∀ (w7_0_21 : Int32) (w7_0_22 : Int32) (w7_0_23 : Int32) (v7_3 : Int32) (E7_ : Nat → va_E) (H : Heap) (locs : List Loc) (ls : Array Slot), 0 ≤ w7_0_21.toInt ∧ w7_0_21.toInt ≤ 201 → -1 ≤ w7_0_22.toInt ∧ w7_0_22.toInt ≤ 201 → 0 ≤ w7_0_23.toInt ∧ w7_0_23.toInt ≤ 8 → 0 ≤ v7_3.toInt ∧ v7_3.toInt ≤ 1 → y1.toInt ≤ w7_0_21.toInt → y3.toInt ≤ w7_0_23.toInt → (w7_0_22.toInt = -1 → w7_0_23.toInt = y3.toInt) → (w7_0_22.toInt = -1 → y2.toInt = -1) → LpM k (coY a0 n) (fun t m => opL t m isOr jb (paY 0 n t m)) 0 E E7_ → LpW k (pr a0 a1) (coY a0 n) (fun t m => opL t m isOr jb (paY 0 n t m)) E E7_ v7_3 → 201 - w7_0_21.toInt < (d : Int) → IX cT shM spM 72 ad E7_ → Kp w_conditionW E E7_ → xv (E7_ 0) 21 = .int w7_0_21 → xv (E7_ 0) 22 = .int w7_0_22 → xv (E7_ 0) 23 = .int w7_0_23 → va_P (dC, dI) vwCl (WX 72 ad E7_) H → va_S A s.heap H locs → lv_has ls 5 [(3, .int v7_3), (0, .ref (ad 0)), (1, .int a0), (2, .int a1)] → W p l e (headSpec v_conditionW (rm_conditionW n)).room s m args below meth c H locs 0 0 Q (F0 m 7 ls []) := by
    intro d
    induction d with
    | zero =>
      intro w7_0_21 w7_0_22 w7_0_23 v7_3 E7_ H locs ls hw7_0_21 hw7_0_22 hw7_0_23 hv7_3 hx7_0 hx7_1 hx7_2 hx7_3 hx7_4 hx7_5 hx7_6 hI hKp hs7_0_21 hs7_0_22 hs7_0_23 hP hS hl
      exact absurd hx7_6 (by omega)
    | succ d ih7 =>
      intro w7_0_21 w7_0_22 w7_0_23 v7_3 E7_ H locs ls hw7_0_21 hw7_0_22 hw7_0_23 hv7_3 hx7_0 hx7_1 hx7_2 hx7_3 hx7_4 hx7_5 hx7_6 hI hKp hs7_0_21 hs7_0_22 hs7_0_23 hP hS hl
      refine lv_aload_n hx hb dX13_condition_7 rfl (lv_at hl 1 rfl) ?_
      refine th_get (ci := 14) (C := RX13) (T := TX13) (N := 97) (v := .int w7_0_22) hx hb hts hinX13 hown hK hP hI 0 (Nat.le_of_ble_eq_true rfl) rfl rfl 22 (Nat.le_of_ble_eq_true rfl) (hts _ (vA_in _ _ (in_25 _ (zs16 (zs16 (zs4 (zs1 (zs1 (zs1 (zs0)))))))))) (fun _ h9 => h9) hs7_0_22 dX13_condition_8 ?_
      refine lv_iconst (v := -1) hx hb dX13_condition_11 (by decide) ?_
      refine lv_icmp_ne (tgt := 60) hx hb dX13_condition_12 (by decide) (fun c19 => ?_) (fun c19 => ?_)
      · --12 taken
        have t20 : ¬ w7_0_22.toInt = -1 := ti_ne c19
        have i21 : 0 ≤ w7_0_22.toInt ∧ w7_0_22.toInt ≤ 201 := iv_ne_l t20 hw7_0_22 (il_ (-1))
        refine lv_iload_n hx hb dX13_condition_60 rfl (lv_at hl 0 rfl) ?_
        rw [hQ]
        exact W.zret (v := v7_3) hx hb hr (nar_b1 hv7_3) (fun t ht hW => ⟨⟨v7_3, E7_, rfl, ⟨hI, hKp, ⟨hv7_3, by (try rw [(show xi (E7_ 0) 21 = w7_0_21 from vi_e hs7_0_21)]); (try rw [ey1]); first | done | exact hx7_0 | all_goals omega, by (try rw [(show xi (E7_ 0) 23 = w7_0_23 from vi_e hs7_0_23)]); (try rw [ey3]); first | done | exact hx7_1 | all_goals omega, by (try rw [(show xi (E7_ 0) 22 = w7_0_22 from vi_e hs7_0_22)]); (try rw [(show xi (E7_ 0) 23 = w7_0_23 from vi_e hs7_0_23)]); (try rw [ey2]); (try rw [ey3]); first | done | exact fun q9 => absurd (q9) t20 | all_goals omega, by (try rw [(show xi (E7_ 0) 22 = w7_0_22 from vi_e hs7_0_22)]); (try rw [ey2]); first | done | exact fun q9 => absurd (q9) t20 | all_goals omega, LpM.exF hx7_4 (by show ¬ (xi (E7_ 0) 22).toInt = -1; rw [show xi (E7_ 0) 22 = w7_0_22 from vi_e hs7_0_22]; omega), RdW.nf (by show ¬ (xi (E7_ 0) 22).toInt = -1; rw [show xi (E7_ 0) 22 = w7_0_22 from vi_e hs7_0_22]; omega)⟩⟩, by show va_P (dC, dI) vwCl (WX 72 ad E7_) t.heap; rw [ht]; exact hP⟩, hS.F ht⟩) hS.2.2 dX13_condition_61
      · --12 not
        have t22 : w7_0_22.toInt = -1 := ti_eq c19
        have i23 : -1 ≤ w7_0_22.toInt ∧ w7_0_22.toInt ≤ -1 := iv_eqi t22 hw7_0_22 (il_ (-1)) (by decide)
        refine lv_aload_n hx hb dX13_condition_15 rfl (lv_at hl 1 rfl) ?_
        refine th_i (va_runV (As := []) (rest := []) ⟨hx, hb, hml, hown, hts⟩ (q_lookX l dC dI cT ad E7_ H.size k nl hI (by exact hh0) (by exact hh1) (by exact hh2) (by exact (hKp 0 18 rfl).trans hh3) (by (try rw [hKp.ei 0 19 rfl]); exact hh4)) (cwV 0 hts (gi_V (in_26 _ (zs1 (zs1 (zs0)))) (in_26 _ (zs1 (zs1 (zs1 (zs0))))) (in_26 _ (zs4 (zs0))) (in_24 _ (zs4 (zs4 (zs4 (zs1 (zs1 (zs1 (zs0)))))))) (in_26 _ (zs4 (zs1 (zs0))))) rfl rfl rfl ⟨rfl, hz_yX13_look_0⟩ ⟨(show 0 + 1 ≤ 7 * n + 11 from nl_1 (Nat.le_of_ble_eq_true rfl)), (show 8 + (1 + 11) + 40 * (0) ≤ 40 * (7 * n + 11) from nl_2 (Nat.le_of_ble_eq_true rfl))⟩) ⟨HW_bl, va_recv hK hP (ci := 14) (q0 := 0) rfl (hI.ob 0 (Nat.le_of_ble_eq_true rfl) rfl), (HW_wi hP hK (WX_D hD) hS hA hEV)⟩ rfl rfl hl.1 rfl (lv_room (Nat.le_of_ble_eq_true rfl)) dX13_condition_16 ⟨Nat.le_of_ble_eq_true rfl, Nat.le_of_ble_eq_true rfl⟩) (WX_D hD) hS hA (fun r24 E25 H locs hw hP hS => ?_)
        obtain ⟨hI, kq26, hw⟩ := hw
        have hKb := hKp
        have hKp := hKp.tr kq26 (wl_sub rfl rfl)
        obtain ⟨y27, ey27⟩ : ∃ y, xi (E25 0) 21 = y := ⟨_, rfl⟩
        have fy27 : xv (E25 0) 21 = .int y27 := (hI.fi 0 (Nat.le_of_ble_eq_true rfl) rfl (Nat.le_of_ble_eq_true rfl) rfl).trans (congrArg Value.int ey27)
        have iy27 : 0 ≤ y27.toInt ∧ y27.toInt ≤ 201 := by rw [← ey27]; exact hI.iv 0 (Nat.le_of_ble_eq_true rfl) rfl (Nat.le_of_ble_eq_true rfl) rfl
        obtain ⟨f28, f29, f30, f31, f32⟩ := hw
        try rw [(show xi (E7_ 0) 21 = w7_0_21 from vi_e hs7_0_21)] at f29
        try rw [(show xi (E25 0) 21 = y27 from vi_e fy27)] at f29
        try rw [(show xi (E7_ 0) 21 = w7_0_21 from vi_e hs7_0_21)] at f30
        try rw [hKb.ei 0 20 rfl] at f30
        try rw [(show xi (E25 0) 21 = y27 from vi_e fy27)] at f30
        try rw [(show xi (E7_ 0) 21 = w7_0_21 from vi_e hs7_0_21)] at f31
        try rw [hKb.ei 0 20 rfl] at f31
        try rw [(show xi (E25 0) 21 = y27 from vi_e fy27)] at f31
        refine lv_bipush (v := 124) hx hb dX13_condition_19 (by decide) ?_
        refine lv_icmp_ne (tgt := 60) hx hb dX13_condition_21 (by decide) (fun c33 => ?_) (fun c33 => ?_)
        · --21 taken
          have t34 : ¬ r24.toInt = 124 := ti_ne c33
          refine lv_iload_n hx hb dX13_condition_60 rfl (lv_at hl 0 rfl) ?_
          rw [hQ]
          exact W.zret (v := v7_3) hx hb hr (nar_b1 hv7_3) (fun t ht hW => ⟨⟨v7_3, E25, rfl, ⟨hI, hKp, ⟨hv7_3, by (try rw [(show xi (E25 0) 21 = y27 from vi_e fy27)]); (try rw [ey1]); first | done | exact (Int.le_trans hx7_0 f29) | all_goals omega, by (try rw [(show xi (E25 0) 23 = w7_0_23 from vi_e ((kq26 0 23 rfl).trans hs7_0_23))]); (try rw [ey3]); first | done | exact hx7_1 | all_goals omega, by (try rw [(show xi (E25 0) 22 = w7_0_22 from vi_e ((kq26 0 22 rfl).trans hs7_0_22))]); (try rw [(show xi (E25 0) 23 = w7_0_23 from vi_e ((kq26 0 23 rfl).trans hs7_0_23))]); (try rw [ey2]); (try rw [ey3]); first | done | exact fun q9 => (hx7_2 (q9)) | all_goals omega, by (try rw [(show xi (E25 0) 22 = w7_0_22 from vi_e ((kq26 0 22 rfl).trans hs7_0_22))]); (try rw [ey2]); first | done | exact fun q9 => hx7_3 (q9) | all_goals omega, LpM.exit (op := isOr) hx7_4 f32 (fun q9 => by have q8 := is_or.mp q9; omega) (fun t m a c h => opL_0 h), LpW.exit (op := isOr) hx7_4 hx7_5 f32 (fun q9 => by have q8 := is_or.mp q9; omega) (fun t m a c h => opL_0 h)⟩⟩, by show va_P (dC, dI) vwCl (WX 72 ad E25) t.heap; rw [ht]; exact hP⟩, hS.F ht⟩) hS.2.2 dX13_condition_61
        · --21 not
          have t35 : r24.toInt = 124 := ti_eq c33
          have i36 : 124 ≤ r24.toInt ∧ r24.toInt ≤ 124 := iv_eqi t35 f28 (il_ 124) (by decide)
          refine lv_aload_n hx hb dX13_condition_24 rfl (lv_at hl 1 rfl) ?_
          refine lv_dup hx hb dX13_condition_25 rfl ?_
          refine th_get (ci := 14) (C := RX13) (T := TX13) (N := 97) (v := .int y27) hx hb hts hinX13 hown hK hP hI 0 (Nat.le_of_ble_eq_true rfl) rfl rfl 21 (Nat.le_of_ble_eq_true rfl) (hts _ (vA_in _ _ (in_25 _ (zs16 (zs16 (zs4 (zs0))))))) (fun _ h9 => h9) fy27 dX13_condition_26 ?_
          refine lv_iconst (v := 1) hx hb dX13_condition_29 (by decide) ?_
          refine lv_iadd hx hb dX13_condition_30 ?_
          refine lv_topi (fun y37 ey37 => ?_)
          obtain ⟨ty37, iy37⟩ := ti_add (e := 1) (f := 202) iy27 ln_1 ey37 (by decide)
          have ty37 : y37.toInt = y27.toInt + 1 := ty37
          have iy37 : 1 ≤ y37.toInt ∧ y37.toInt ≤ 202 := iy37
          have i38 : 1 ≤ y37.toInt ∧ y37.toInt ≤ 201 := by omega
          refine th_put (ci := 14) (C := RX13) (T := TX13) (N := 97) (v := .int y37) (ty := .int) hx hb hts hinX13 tyX13 tyX13_ok nmX13 hown hK hP (WX_D hD) hS hI 0 (Nat.le_of_ble_eq_true rfl) rfl rfl 21 (Nat.le_of_ble_eq_true rfl) (hts _ (vA_in _ _ (in_25 _ (zs16 (zs16 (zs4 (zs0))))))) (fun _ h9 => h9) rfl (by decide +kernel) rfl rfl (okI rfl (iv_w i38 (by decide))) dX13_condition_31 (fun H locs E39 pw40 hI hP hS => ?_)
          have hKp := hKp.pw pw40 rfl
          have k41 : AtM k E25 E39 := AtM.pw pw40.2 hk0 (vi_e fy27) (vi_e pw40.1) ty37 (by omega)
          have k42 : MZ E E39 := MZ.kp hKp (fun _ => rfl)
          refine lv_aload_n hx hb dX13_condition_34 rfl (lv_at hl 1 rfl) ?_
          refine lv_iconst (v := 0) hx hb dX13_condition_35 (by decide) ?_
          refine lv_iconst (v := 0) hx hb dX13_condition_36 (by decide) ?_
          have z0 := ln_0
          refine th_i (va_runV (As := [.int 0, .int 0]) (rest := []) ⟨hx, hb, hml, hown, hts⟩ (gP dC dI cT ad E39 H.size (0 : Int32) (0 : Int32) k nl hI (by exact hh0) (by exact hh1) (by exact hh2) (by exact (hKp 0 18 rfl).trans hh3) (by (try rw [hKp.ei 0 19 rfl]); exact hh4) (by (try rw [(show xi (E39 0) 23 = w7_0_23 from vi_e ((pw40.2 0 23 (fun q9 => absurd q9.2 (Nat.ne_of_beq_eq_false rfl))).trans ((kq26 0 23 rfl).trans hs7_0_23)))]); omega) (by (try rw [(show xi (E39 0) 22 = w7_0_22 from vi_e ((pw40.2 0 22 (fun q9 => absurd q9.2 (Nat.ne_of_beq_eq_false rfl))).trans ((kq26 0 22 rfl).trans hs7_0_22)))]); omega) (iv_w ln_0 (by decide))) (cwV 2 hts (gi_V (in_29 _ (zs16 (zs4 (zs1 (zs1 (zs0)))))) (in_29 _ (zs16 (zs4 (zs1 (zs1 (zs1 (zs0))))))) (in_29 _ (zs16 (zs4 (zs4 (zs0))))) (in_24 _ (zs4 (zs4 (zs4 (zs1 (zs1 (zs1 (zs0)))))))) (in_29 _ (zs16 (zs4 (zs4 (zs1 (zs0))))))) rfl rfl rfl (by decide +kernel) ⟨(show 7 * n + 10 + 1 ≤ 7 * n + 11 from nl_4 (Nat.le_of_ble_eq_true rfl) (Nat.le_of_ble_eq_true rfl)), (show 8 + (5 + 11) + 40 * (7 * n + 10) ≤ 40 * (7 * n + 11) from nl_3 (Nat.le_of_ble_eq_true rfl) (Nat.le_of_ble_eq_true rfl))⟩) ⟨HW_bl, va_recv hK hP (ci := 14) (q0 := 0) rfl (hI.ob 0 (Nat.le_of_ble_eq_true rfl) rfl), (HW_wi hP hK (WX_D hD) hS hA hEV)⟩ rfl rfl hl.1 rfl (lv_room (Nat.le_of_ble_eq_true rfl)) dX13_condition_37 ⟨Nat.le_of_ble_eq_true rfl, Nat.le_of_ble_eq_true rfl⟩) (WX_D hD) hS hA (fun r43 E44 H locs hw hP hS => ?_)
          obtain ⟨hI, kq45, hw⟩ := hw
          have hKb := hKp
          have hKp := hKp.tr kq45 (wl_sub rfl rfl)
          obtain ⟨y46, ey46⟩ : ∃ y, xi (E44 0) 21 = y := ⟨_, rfl⟩
          have fy46 : xv (E44 0) 21 = .int y46 := (hI.fi 0 (Nat.le_of_ble_eq_true rfl) rfl (Nat.le_of_ble_eq_true rfl) rfl).trans (congrArg Value.int ey46)
          have iy46 : 0 ≤ y46.toInt ∧ y46.toInt ≤ 201 := by rw [← ey46]; exact hI.iv 0 (Nat.le_of_ble_eq_true rfl) rfl (Nat.le_of_ble_eq_true rfl) rfl
          obtain ⟨y47, ey47⟩ : ∃ y, xi (E44 0) 22 = y := ⟨_, rfl⟩
          have fy47 : xv (E44 0) 22 = .int y47 := (hI.fi 0 (Nat.le_of_ble_eq_true rfl) rfl (Nat.le_of_ble_eq_true rfl) rfl).trans (congrArg Value.int ey47)
          have iy47 : -1 ≤ y47.toInt ∧ y47.toInt ≤ 201 := by rw [← ey47]; exact hI.iv 0 (Nat.le_of_ble_eq_true rfl) rfl (Nat.le_of_ble_eq_true rfl) rfl
          obtain ⟨y48, ey48⟩ : ∃ y, xi (E44 0) 23 = y := ⟨_, rfl⟩
          have fy48 : xv (E44 0) 23 = .int y48 := (hI.fi 0 (Nat.le_of_ble_eq_true rfl) rfl (Nat.le_of_ble_eq_true rfl) rfl).trans (congrArg Value.int ey48)
          have iy48 : 0 ≤ y48.toInt ∧ y48.toInt ≤ 8 := by rw [← ey48]; exact hI.iv 0 (Nat.le_of_ble_eq_true rfl) rfl (Nat.le_of_ble_eq_true rfl) rfl
          obtain ⟨f49, f50, f51, f52, f53, f54, f55⟩ := hw
          try rw [(show xi (E39 0) 21 = y37 from vi_e pw40.1)] at f50
          try rw [(show xi (E44 0) 21 = y46 from vi_e fy46)] at f50
          try rw [(show xi (E39 0) 23 = w7_0_23 from vi_e ((pw40.2 0 23 (fun q9 => absurd q9.2 (Nat.ne_of_beq_eq_false rfl))).trans ((kq26 0 23 rfl).trans hs7_0_23)))] at f51
          try rw [(show xi (E44 0) 23 = y48 from vi_e fy48)] at f51
          try rw [(show xi (E39 0) 22 = w7_0_22 from vi_e ((pw40.2 0 22 (fun q9 => absurd q9.2 (Nat.ne_of_beq_eq_false rfl))).trans ((kq26 0 22 rfl).trans hs7_0_22)))] at f52
          try rw [(show xi (E39 0) 23 = w7_0_23 from vi_e ((pw40.2 0 23 (fun q9 => absurd q9.2 (Nat.ne_of_beq_eq_false rfl))).trans ((kq26 0 23 rfl).trans hs7_0_23)))] at f52
          try rw [(show xi (E44 0) 22 = y47 from vi_e fy47)] at f52
          try rw [(show xi (E44 0) 23 = y48 from vi_e fy48)] at f52
          try rw [(show xi (E39 0) 22 = w7_0_22 from vi_e ((pw40.2 0 22 (fun q9 => absurd q9.2 (Nat.ne_of_beq_eq_false rfl))).trans ((kq26 0 22 rfl).trans hs7_0_22)))] at f53
          try rw [(show xi (E44 0) 22 = y47 from vi_e fy47)] at f53
          refine lv_istore (lv' := [(4, .int r43), (3, .int v7_3), (0, .ref (ad 0)), (1, .int a0), (2, .int a1)]) hx hb dX13_condition_40 hl (by decide) rfl (fun ls hl => ?_)
          refine lv_iload_n hx hb dX13_condition_42 rfl (lv_at hl 1 rfl) ?_
          refine lv_if_ne (tgt := 51) hx hb dX13_condition_43 (by decide) (fun c56 => ?_) (fun c56 => ?_)
          · --43 taken
            have t57 : ¬ v7_3.toInt = 0 := ti_ne c56
            have i58 : 1 ≤ v7_3.toInt ∧ v7_3.toInt ≤ 1 := iv_ne_l t57 hv7_3 (il_ 0)
            refine lv_iconst (v := 1) hx hb dX13_condition_51 (by decide) ?_
            refine lv_goto (tgt := 56) hx hb dX13_condition_52 (by decide) ?_
            refine lv_istore_n (lv' := [(3, .int 1), (4, .int r43), (0, .ref (ad 0)), (1, .int a0), (2, .int a1)]) hx hb dX13_condition_56 rfl hl (by decide) rfl (fun ls hl => ?_)
            refine lv_goto (tgt := 7) hx hb dX13_condition_57 (by decide) ?_
            exact ih7 y46 y47 y48 (1 : Int32) E44 _ _ _ iy46 iy47 iy48 (iv_w ln_1 (by decide)) (by  first | exact (Int.le_trans (Int.le_trans (Int.le_trans hx7_0 f29) (Int.le_trans (Int.le_add_of_nonneg_right (by decide)) (Int.le_of_eq ty37.symm))) f50) | omega) (by  first | exact (Int.le_trans hx7_1 f51) | omega) (by  first | exact fun q9 => ((f52 (q9)).trans (hx7_2 (f53 (q9)))) | omega) (by  first | exact fun q9 => hx7_3 (f53 (q9)) | omega) (LpM.step (op := isOr) (cb := jb) hx7_4 f32 (is_or.mpr (by omega)) (by show (xi (E7_ 0) 22).toInt = -1; rw [show xi (E7_ 0) 22 = w7_0_22 from vi_e hs7_0_22]; first | exact t22 | omega) k41 f54 KM.rf (by decide) (fun t m => paY_mono n t m) (fun t m a c h => opL_1 (paY_mono n t m) rfl h)) (LpW.step (op := isOr) hx7_4 hx7_5 f32 (is_or.mpr (by omega)) k41 k42 f54 f55 (by rw [show r24.toInt = 124 by omega]; exact jn_or ⟨by omega, by omega⟩ ⟨by omega, by omega⟩ (by rw [if_neg (by omega)]; rfl)) (by omega) (by omega) (fun t m a c h => opL_1 (paY_mono n t m) rfl h)) (by omega) hI hKp fy46 fy47 fy48 hP hS (lv_sub hl [0, 2, 3, 4] rfl)
          · --43 not
            have t59 : v7_3.toInt = 0 := ti_eq c56
            have i60 : 0 ≤ v7_3.toInt ∧ v7_3.toInt ≤ 0 := iv_eqi t59 hv7_3 (il_ 0) (by decide)
            refine lv_iload hx hb dX13_condition_46 (lv_at hl 0 rfl) ?_
            refine lv_if_eq (tgt := 55) hx hb dX13_condition_48 (by decide) (fun c61 => ?_) (fun c61 => ?_)
            · --48 taken
              have t62 : r43.toInt = 0 := ti_eq c61
              have i63 : 0 ≤ r43.toInt ∧ r43.toInt ≤ 0 := iv_eqi t62 f49 (il_ 0) (by decide)
              refine lv_iconst (v := 0) hx hb dX13_condition_55 (by decide) ?_
              refine lv_istore_n (lv' := [(3, .int 0), (4, .int r43), (0, .ref (ad 0)), (1, .int a0), (2, .int a1)]) hx hb dX13_condition_56 rfl hl (by decide) rfl (fun ls hl => ?_)
              refine lv_goto (tgt := 7) hx hb dX13_condition_57 (by decide) ?_
              exact ih7 y46 y47 y48 (0 : Int32) E44 _ _ _ iy46 iy47 iy48 (iv_w ln_0 (by decide)) (by  first | exact (Int.le_trans (Int.le_trans (Int.le_trans hx7_0 f29) (Int.le_trans (Int.le_add_of_nonneg_right (by decide)) (Int.le_of_eq ty37.symm))) f50) | omega) (by  first | exact (Int.le_trans hx7_1 f51) | omega) (by  first | exact fun q9 => ((f52 (q9)).trans (hx7_2 (f53 (q9)))) | omega) (by  first | exact fun q9 => hx7_3 (f53 (q9)) | omega) (LpM.step (op := isOr) (cb := jb) hx7_4 f32 (is_or.mpr (by omega)) (by show (xi (E7_ 0) 22).toInt = -1; rw [show xi (E7_ 0) 22 = w7_0_22 from vi_e hs7_0_22]; first | exact t22 | omega) k41 f54 KM.rf (by decide) (fun t m => paY_mono n t m) (fun t m a c h => opL_1 (paY_mono n t m) rfl h)) (LpW.step (op := isOr) hx7_4 hx7_5 f32 (is_or.mpr (by omega)) k41 k42 f54 f55 (by rw [show r24.toInt = 124 by omega]; exact jn_or ⟨by omega, by omega⟩ ⟨by omega, by omega⟩ (by rw [if_pos (by omega)]; rfl)) (by omega) (by omega) (fun t m a c h => opL_1 (paY_mono n t m) rfl h)) (by omega) hI hKp fy46 fy47 fy48 hP hS (lv_sub hl [0, 2, 3, 4] rfl)
            · --48 not
              have t64 : ¬ r43.toInt = 0 := ti_ne c61
              have i65 : 1 ≤ r43.toInt ∧ r43.toInt ≤ 1 := iv_ne_l t64 f49 (il_ 0)
              refine lv_iconst (v := 1) hx hb dX13_condition_51 (by decide) ?_
              refine lv_goto (tgt := 56) hx hb dX13_condition_52 (by decide) ?_
              refine lv_istore_n (lv' := [(3, .int 1), (4, .int r43), (0, .ref (ad 0)), (1, .int a0), (2, .int a1)]) hx hb dX13_condition_56 rfl hl (by decide) rfl (fun ls hl => ?_)
              refine lv_goto (tgt := 7) hx hb dX13_condition_57 (by decide) ?_
              exact ih7 y46 y47 y48 (1 : Int32) E44 _ _ _ iy46 iy47 iy48 (iv_w ln_1 (by decide)) (by  first | exact (Int.le_trans (Int.le_trans (Int.le_trans hx7_0 f29) (Int.le_trans (Int.le_add_of_nonneg_right (by decide)) (Int.le_of_eq ty37.symm))) f50) | omega) (by  first | exact (Int.le_trans hx7_1 f51) | omega) (by  first | exact fun q9 => ((f52 (q9)).trans (hx7_2 (f53 (q9)))) | omega) (by  first | exact fun q9 => hx7_3 (f53 (q9)) | omega) (LpM.step (op := isOr) (cb := jb) hx7_4 f32 (is_or.mpr (by omega)) (by show (xi (E7_ 0) 22).toInt = -1; rw [show xi (E7_ 0) 22 = w7_0_22 from vi_e hs7_0_22]; first | exact t22 | omega) k41 f54 KM.rf (by decide) (fun t m => paY_mono n t m) (fun t m a c h => opL_1 (paY_mono n t m) rfl h)) (LpW.step (op := isOr) hx7_4 hx7_5 f32 (is_or.mpr (by omega)) k41 k42 f54 f55 (by rw [show r24.toInt = 124 by omega]; exact jn_or ⟨by omega, by omega⟩ ⟨by omega, by omega⟩ (by rw [if_neg (by omega)]; rfl)) (by omega) (by omega) (fun t m a c h => opL_1 (paY_mono n t m) rfl h)) (by omega) hI hKp fy46 fy47 fy48 hP hS (lv_sub hl [0, 2, 3, 4] rfl)
  exact hL7 (202) y7 y8 y9 r4 E5 _ _ _ iy7 iy8 iy9 f10 (by  first | exact f11 | omega) (by  first | exact f12 | omega) (by  first | exact fun q9 => (f13 (q9)) | omega) (by  first | exact fun q9 => f14 (q9) | omega) (LpM.start f15 lmO (Int.le_refl _)) (LpW.start f16 lmO) (by have h9 := iy7; omega) hI hKp fy7 fy8 fy9 hP hS (lv_sub hl [0, 1, 2, 3] rfl)
theorem q_groupW (l : Launch) : ∀ n, C_sumW l n ∧ C_unitW l n ∧ C_conditionW l n := by
  have key : ∀ n, ∀ k, k < n → C_sumW l k ∧ C_unitW l k ∧ C_conditionW l k := by
    intro n
    induction n with
    | zero => intro k hk; exact absurd hk (by omega)
    | succ n ih =>
      intro k hk
      have h1 := q_atomW l k (fun j hj => (ih j (by omega)).1)
      have h3 := q_sumW l k (q_termW l k h1)
      have h4 := q_comparesW l k h3
      have h5 := q_unitW l k h4 (fun j hj => (ih j (by omega)).2.1) (fun j hj => (ih j (by omega)).2.2)
      exact ⟨h3, h5, q_conditionW l k (q_partW l k h4 h5)⟩
  exact fun n => key (n + 1) n (by omega)
