def tyX7 : Nat → FieldType := fun k => match k with
  | 0 => .int
  | 1 => .int
  | 2 => .array .int
  | 3 => .array .int
  | 4 => .array .int
  | _ => .array .int
theorem nmX7 : ∀ a, a < 6 → ∀ b, b < 6 → a ≠ b → (TX7 a).2.1 ≠ (TX7 b).2.1 := by decide +kernel
theorem tyX7_ok : ∀ k, k < 6 → parseFieldDescriptor (TX7 k).2.2.1 = some (tyX7 k) := by decide +kernel
set_option maxRecDepth 100000 in
theorem zh_dX7_init_0_0 : zc cX7_init 0 [42, 183, 0, 3, 42, 27, 181, 0, 9, 42, 28, 181, 0, 15, 42, 45] = true := by decide +kernel
set_option maxRecDepth 100000 in
theorem zh_dX7_init_16_16 : zc cX7_init 16 [181, 0, 18, 42, 25, 4, 181, 0, 22, 42, 25, 5, 181, 0, 25, 42] = true := by decide +kernel
set_option maxRecDepth 100000 in
theorem zh_dX7_init_32_32 : zc cX7_init 32 [25, 6, 181, 0, 28, 177] = true := by decide +kernel
set_option maxRecDepth 100000 in
theorem zh_dX10_asRules_0_0 : zc cX10_asRules 0 [187, 0, 53, 89, 27, 28, 42, 180, 0, 15, 42, 180, 0, 37, 184, 0] = true := by decide +kernel
set_option maxRecDepth 100000 in
theorem zh_dX10_asRules_14_16 : zc cX10_asRules 16 [55, 42, 180, 0, 18, 42, 180, 0, 40, 184, 0, 55, 42, 180, 0, 21] = true := by decide +kernel
set_option maxRecDepth 100000 in
theorem zh_dX10_asRules_32_32 : zc cX10_asRules 32 [42, 180, 0, 40, 4, 96, 184, 0, 55, 42, 180, 0, 24, 42, 180, 0] = true := by decide +kernel
set_option maxRecDepth 100000 in
theorem zh_dX10_asRules_46_48 : zc cX10_asRules 48 [40, 184, 0, 55, 183, 0, 61, 176] = true := by decide +kernel
theorem dX7_init_0 : decode cX7_init 0 = .ok (.aload_n 0, 1) := zo_42 (zi_at zh_dX7_init_0_0 0 rfl)
theorem dX7_init_1 : decode cX7_init 1 = .ok (.invokespecial 3, 3) := zo_183 (zi_at zh_dX7_init_0_0 1 rfl) (zi_at zh_dX7_init_0_0 2 rfl) (zi_at zh_dX7_init_0_0 3 rfl) rfl
theorem dX7_init_4 : decode cX7_init 4 = .ok (.aload_n 0, 1) := zo_42 (zi_at zh_dX7_init_0_0 4 rfl)
theorem dX7_init_5 : decode cX7_init 5 = .ok (.iload_n 1, 1) := zo_27 (zi_at zh_dX7_init_0_0 5 rfl)
theorem dX7_init_6 : decode cX7_init 6 = .ok (.putfield 9, 3) := zo_181 (zi_at zh_dX7_init_0_0 6 rfl) (zi_at zh_dX7_init_0_0 7 rfl) (zi_at zh_dX7_init_0_0 8 rfl) rfl
theorem dX7_init_9 : decode cX7_init 9 = .ok (.aload_n 0, 1) := zo_42 (zi_at zh_dX7_init_0_0 9 rfl)
theorem dX7_init_10 : decode cX7_init 10 = .ok (.iload_n 2, 1) := zo_28 (zi_at zh_dX7_init_0_0 10 rfl)
theorem dX7_init_11 : decode cX7_init 11 = .ok (.putfield 15, 3) := zo_181 (zi_at zh_dX7_init_0_0 11 rfl) (zi_at zh_dX7_init_0_0 12 rfl) (zi_at zh_dX7_init_0_0 13 rfl) rfl
theorem dX7_init_14 : decode cX7_init 14 = .ok (.aload_n 0, 1) := zo_42 (zi_at zh_dX7_init_0_0 14 rfl)
theorem dX7_init_15 : decode cX7_init 15 = .ok (.aload_n 3, 1) := zo_45 (zi_at zh_dX7_init_0_0 15 rfl)
theorem dX7_init_16 : decode cX7_init 16 = .ok (.putfield 18, 3) := zo_181 (zi_at zh_dX7_init_16_16 0 rfl) (zi_at zh_dX7_init_16_16 1 rfl) (zi_at zh_dX7_init_16_16 2 rfl) rfl
theorem dX7_init_19 : decode cX7_init 19 = .ok (.aload_n 0, 1) := zo_42 (zi_at zh_dX7_init_16_16 3 rfl)
theorem dX7_init_20 : decode cX7_init 20 = .ok (.aload 4, 2) := zo_25 (zi_at zh_dX7_init_16_16 4 rfl) (zi_at zh_dX7_init_16_16 5 rfl)
theorem dX7_init_22 : decode cX7_init 22 = .ok (.putfield 22, 3) := zo_181 (zi_at zh_dX7_init_16_16 6 rfl) (zi_at zh_dX7_init_16_16 7 rfl) (zi_at zh_dX7_init_16_16 8 rfl) rfl
theorem dX7_init_25 : decode cX7_init 25 = .ok (.aload_n 0, 1) := zo_42 (zi_at zh_dX7_init_16_16 9 rfl)
theorem dX7_init_26 : decode cX7_init 26 = .ok (.aload 5, 2) := zo_25 (zi_at zh_dX7_init_16_16 10 rfl) (zi_at zh_dX7_init_16_16 11 rfl)
theorem dX7_init_28 : decode cX7_init 28 = .ok (.putfield 25, 3) := zo_181 (zi_at zh_dX7_init_16_16 12 rfl) (zi_at zh_dX7_init_16_16 13 rfl) (zi_at zh_dX7_init_16_16 14 rfl) rfl
theorem dX7_init_31 : decode cX7_init 31 = .ok (.aload_n 0, 1) := zo_42 (zi_at zh_dX7_init_16_16 15 rfl)
theorem dX7_init_32 : decode cX7_init 32 = .ok (.aload 6, 2) := zo_25 (zi_at zh_dX7_init_32_32 0 rfl) (zi_at zh_dX7_init_32_32 1 rfl)
theorem dX7_init_34 : decode cX7_init 34 = .ok (.putfield 28, 3) := zo_181 (zi_at zh_dX7_init_32_32 2 rfl) (zi_at zh_dX7_init_32_32 3 rfl) (zi_at zh_dX7_init_32_32 4 rfl) rfl
theorem dX7_init_37 : decode cX7_init 37 = .ok (.return_, 1) := zo_177 (zi_at zh_dX7_init_32_32 5 rfl)
theorem dX10_asRules_0 : decode cX10_asRules 0 = .ok (.new 53, 3) := zo_187 (zi_at zh_dX10_asRules_0_0 0 rfl) (zi_at zh_dX10_asRules_0_0 1 rfl) (zi_at zh_dX10_asRules_0_0 2 rfl) rfl
theorem dX10_asRules_3 : decode cX10_asRules 3 = .ok (.dup, 1) := zo_89 (zi_at zh_dX10_asRules_0_0 3 rfl)
theorem dX10_asRules_4 : decode cX10_asRules 4 = .ok (.iload_n 1, 1) := zo_27 (zi_at zh_dX10_asRules_0_0 4 rfl)
theorem dX10_asRules_5 : decode cX10_asRules 5 = .ok (.iload_n 2, 1) := zo_28 (zi_at zh_dX10_asRules_0_0 5 rfl)
theorem dX10_asRules_6 : decode cX10_asRules 6 = .ok (.aload_n 0, 1) := zo_42 (zi_at zh_dX10_asRules_0_0 6 rfl)
theorem dX10_asRules_7 : decode cX10_asRules 7 = .ok (.getfield 15, 3) := zo_180 (zi_at zh_dX10_asRules_0_0 7 rfl) (zi_at zh_dX10_asRules_0_0 8 rfl) (zi_at zh_dX10_asRules_0_0 9 rfl) rfl
theorem dX10_asRules_10 : decode cX10_asRules 10 = .ok (.aload_n 0, 1) := zo_42 (zi_at zh_dX10_asRules_0_0 10 rfl)
theorem dX10_asRules_11 : decode cX10_asRules 11 = .ok (.getfield 37, 3) := zo_180 (zi_at zh_dX10_asRules_0_0 11 rfl) (zi_at zh_dX10_asRules_0_0 12 rfl) (zi_at zh_dX10_asRules_0_0 13 rfl) rfl
theorem dX10_asRules_14 : decode cX10_asRules 14 = .ok (.invokestatic 55, 3) := zo_184 (zi_at zh_dX10_asRules_0_0 14 rfl) (zi_at zh_dX10_asRules_0_0 15 rfl) (zi_at zh_dX10_asRules_14_16 0 rfl) rfl
theorem dX10_asRules_17 : decode cX10_asRules 17 = .ok (.aload_n 0, 1) := zo_42 (zi_at zh_dX10_asRules_14_16 1 rfl)
theorem dX10_asRules_18 : decode cX10_asRules 18 = .ok (.getfield 18, 3) := zo_180 (zi_at zh_dX10_asRules_14_16 2 rfl) (zi_at zh_dX10_asRules_14_16 3 rfl) (zi_at zh_dX10_asRules_14_16 4 rfl) rfl
theorem dX10_asRules_21 : decode cX10_asRules 21 = .ok (.aload_n 0, 1) := zo_42 (zi_at zh_dX10_asRules_14_16 5 rfl)
theorem dX10_asRules_22 : decode cX10_asRules 22 = .ok (.getfield 40, 3) := zo_180 (zi_at zh_dX10_asRules_14_16 6 rfl) (zi_at zh_dX10_asRules_14_16 7 rfl) (zi_at zh_dX10_asRules_14_16 8 rfl) rfl
theorem dX10_asRules_25 : decode cX10_asRules 25 = .ok (.invokestatic 55, 3) := zo_184 (zi_at zh_dX10_asRules_14_16 9 rfl) (zi_at zh_dX10_asRules_14_16 10 rfl) (zi_at zh_dX10_asRules_14_16 11 rfl) rfl
theorem dX10_asRules_28 : decode cX10_asRules 28 = .ok (.aload_n 0, 1) := zo_42 (zi_at zh_dX10_asRules_14_16 12 rfl)
theorem dX10_asRules_29 : decode cX10_asRules 29 = .ok (.getfield 21, 3) := zo_180 (zi_at zh_dX10_asRules_14_16 13 rfl) (zi_at zh_dX10_asRules_14_16 14 rfl) (zi_at zh_dX10_asRules_14_16 15 rfl) rfl
theorem dX10_asRules_32 : decode cX10_asRules 32 = .ok (.aload_n 0, 1) := zo_42 (zi_at zh_dX10_asRules_32_32 0 rfl)
theorem dX10_asRules_33 : decode cX10_asRules 33 = .ok (.getfield 40, 3) := zo_180 (zi_at zh_dX10_asRules_32_32 1 rfl) (zi_at zh_dX10_asRules_32_32 2 rfl) (zi_at zh_dX10_asRules_32_32 3 rfl) rfl
theorem dX10_asRules_36 : decode cX10_asRules 36 = .ok (.iconst 1, 1) := zo_4 (zi_at zh_dX10_asRules_32_32 4 rfl)
theorem dX10_asRules_37 : decode cX10_asRules 37 = .ok (.iadd, 1) := zo_96 (zi_at zh_dX10_asRules_32_32 5 rfl)
theorem dX10_asRules_38 : decode cX10_asRules 38 = .ok (.invokestatic 55, 3) := zo_184 (zi_at zh_dX10_asRules_32_32 6 rfl) (zi_at zh_dX10_asRules_32_32 7 rfl) (zi_at zh_dX10_asRules_32_32 8 rfl) rfl
theorem dX10_asRules_41 : decode cX10_asRules 41 = .ok (.aload_n 0, 1) := zo_42 (zi_at zh_dX10_asRules_32_32 9 rfl)
theorem dX10_asRules_42 : decode cX10_asRules 42 = .ok (.getfield 24, 3) := zo_180 (zi_at zh_dX10_asRules_32_32 10 rfl) (zi_at zh_dX10_asRules_32_32 11 rfl) (zi_at zh_dX10_asRules_32_32 12 rfl) rfl
theorem dX10_asRules_45 : decode cX10_asRules 45 = .ok (.aload_n 0, 1) := zo_42 (zi_at zh_dX10_asRules_32_32 13 rfl)
theorem dX10_asRules_46 : decode cX10_asRules 46 = .ok (.getfield 40, 3) := zo_180 (zi_at zh_dX10_asRules_32_32 14 rfl) (zi_at zh_dX10_asRules_32_32 15 rfl) (zi_at zh_dX10_asRules_46_48 0 rfl) rfl
theorem dX10_asRules_49 : decode cX10_asRules 49 = .ok (.invokestatic 55, 3) := zo_184 (zi_at zh_dX10_asRules_46_48 1 rfl) (zi_at zh_dX10_asRules_46_48 2 rfl) (zi_at zh_dX10_asRules_46_48 3 rfl) rfl
theorem dX10_asRules_52 : decode cX10_asRules 52 = .ok (.invokespecial 61, 3) := zo_183 (zi_at zh_dX10_asRules_46_48 4 rfl) (zi_at zh_dX10_asRules_46_48 5 rfl) (zi_at zh_dX10_asRules_46_48 6 rfl) rfl
theorem dX10_asRules_55 : decode cX10_asRules 55 = .ok (.areturn, 1) := zo_176 (zi_at zh_dX10_asRules_46_48 7 rfl)

theorem nI_ofn {x : Int32} (h : 0 ≤ x.toInt) : x = nI x.toNatClampNeg := by
  apply Int32.toInt_inj.mp
  have h2 := Int32.toInt_lt x
  rw [nI_toInt (by rw [tn_]; omega), tn_]
  omega
theorem one_P {D : va_G} {cl : List vw_C} {X : va_W} {H : Heap} {x : Nat × va_E} (hP : va_P D cl X H) (hx : x ∈ X) : va_P D cl [x] H := va_P_sub hP fun w hw => by rw [List.mem_singleton.mp hw]; exact hx
theorem one_D {A : Nat → Prop} {X : va_W} {x : Nat × va_E} (hD : va_D A X) (hx : x ∈ X) : va_D A [x] := by
  rw [va_D_iff] at hD ⊢
  exact ⟨by simp, fun q hq => by rw [List.mem_singleton.mp hq]; exact hD.2 x hx⟩
theorem one_free {A : Nat → Prop} {X : va_W} {x : Nat × va_E} {H0 H : Heap} {locs : List Loc} (hD : va_D A X) (hx : x ∈ X) (hS : va_S A H0 H locs) (hA : ∀ q, H0.size ≤ q → A q) : ∀ z, va_A [x] H.size z → A z := all_free (one_D hD hx) hS hA
theorem copy_join {A : Nat → Prop} {D : va_G} {cl : List vw_C} {X : va_W} {H H1 : Heap} {x y : Nat × va_E} (hP : va_P D cl X H) (hD : va_D A X) (hx : x ∈ X) (hk : ∀ q : Nat, q < H.size → ¬ va_A [x] H.size q → H1[q]? = H[q]?) (hF : ∀ q, va_A [x] H.size q → A q) (hP1 : va_P D cl [x, y] H1) (hD1 : va_D (va_A [x] H.size) [x, y]) : va_P D cl (y :: X) H1 ∧ va_D A (y :: X) := by
  have hlt : ∀ z ∈ X, z.1 < H.size := fun z hz => by
    obtain ⟨i, hi⟩ := List.getElem?_of_mem hz
    exact (hP i z hi).lt
  have hPn : ∀ z ∈ X, va_P D cl [z] H1 := by
    intro z hz
    by_cases e : z.1 = x.1
    · have h3 : z = x := by
        obtain ⟨i, hi⟩ := List.getElem?_of_mem hz
        obtain ⟨j, hj⟩ := List.getElem?_of_mem hx
        have h4 := hD.1 i j z x hi hj e
        subst h4
        rw [hi] at hj
        exact Option.some.inj hj
      subst h3
      exact one_P hP1 (List.mem_cons_self ..)
    · refine va_P.kept (one_P hP hz) fun k q hq => ?_
      have h5 : q = z := List.mem_singleton.mp (List.mem_of_getElem? hq)
      subst h5
      refine hk q.1 (hlt q hz) ?_
      rintro (⟨k2, e2, h3⟩ | h3)
      · have h6 := List.mem_singleton.mp (List.mem_of_getElem? h3)
        exact e (by rw [← h6])
      · have := hlt q hz
        omega
  refine ⟨fun k q hq => ?_, ?_⟩
  · rcases List.mem_cons.mp (List.mem_of_getElem? hq) with rfl | h
    · exact hP1 1 _ rfl
    · exact hPn q h 0 q rfl
  · rw [va_D_iff] at hD hD1 ⊢
    have hy : va_A [x] H.size y.1 := hD1.2 y (by simp)
    have hxy : x.1 ≠ y.1 := by
      have := hD1.1
      simp at this
      exact this
    refine ⟨?_, fun q hq => ?_⟩
    · rw [List.map_cons, List.nodup_cons]
      refine ⟨fun h => ?_, hD.1⟩
      obtain ⟨z, hz, e⟩ := List.mem_map.mp h
      have h1 := hlt z hz
      rcases hy with ⟨k2, e2, h3⟩ | h3
      · have h6 := List.mem_singleton.mp (List.mem_of_getElem? h3)
        exact hxy (by rw [← h6])
      · have e : z.1 = y.1 := e
        omega
    · rcases List.mem_cons.mp hq with rfl | h
      · exact hF _ hy
      · exact hD.2 q h
def v_x_Rules : List Cond := .code yX7_init cX7_init 7 none :: vA
set_option maxHeartbeats 4000000 in
set_option maxRecDepth 100000 in
theorem x_Rules (l : Launch) (dC : Nat → ClassId) (dI : Nat → Nat → Nat) (q : Nat) (b0 : Int32) (b1 : Int32) (y0 : Nat) (y1 : Nat) (y2 : Nat) (y3 : Nat) (sz : Nat)  : Met l yX7_init v_x_Rules ({ frames := 1, cells := 0, slots := 0, locals := 40 }) (va_Pc [.ref q, .int b0, .int b1, .ref y0, .ref y1, .ref y2, .ref y3] (fun U => U.heap.size = sz ∧ va_P (dC, dI) vwCl [(q, .inr (8, [.int 0, .int 0, .null, .null, .null, .null]))] U.heap ∧ va_K (dC, dI) vwCl [] U ∧ va_D (fun _ => True) [(q, .inr (8, [.int 0, .int 0, .null, .null, .null, .null]))])) (va_Qv (S := Unit) (fun _ => True) (fun u t => va_P (dC, dI) vwCl [(q, .inr (8, [.int b0, .int b1, .ref y0, .ref y1, .ref y2, .ref y3]))] t.heap ∧ va_K (dC, dI) vwCl [] t ∧ va_D (va_A [(q, .inr (8, [.int 0, .int 0, .null, .null, .null, .null]))] sz) [(q, .inr (8, [.int b0, .int b1, .ref y0, .ref y1, .ref y2, .ref y3]))]) (va_A [(q, .inr (8, [.int 0, .int 0, .null, .null, .null, .null]))] sz)) 0 0 (va_A [(q, .inr (8, [.int 0, .int 0, .null, .null, .null, .null]))] sz) := by
  refine Met.ofW (cc := cX7_init) (maxL := 7) (ret := none) (by decide) rfl ?_
  intro p e s m args below meth c s₁ B hml hv
  obtain ⟨rfl, hsz, hP, hK, hD0⟩ := hv
  have hx := B.exec
  have hb := B.bytes
  have hr := B.returns
  have hts := atoms_spec (ws := v_x_Rules) B.pre
  have hown : s.vm.findClass RX7 = some m.cls := findClass_of_methodNamed B.named
  have hlocks := B.notSynchronized
  have hin : meth.name = "<init>" := (name_of_methodNamed B.named B.method).1
  subst hsz
  have hD := hD0.self (sz := s.heap.size)
  generalize hAe : va_A [(q, .inr (8, [.int 0, .int 0, .null, .null, .null, .null]))] s.heap.size = A at hD ⊢
  have hA : ∀ q : Nat, s.heap.size ≤ q → A q := fun q h => by rw [← hAe]; exact Or.inr h
  have hS : va_S A s.heap s.heap [] := va_S.rf
  have hP : va_P (dC, dI) vwCl [(q, .inr (8, [.int 0, .int 0, .null, .null, .null, .null]))] s.heap := hP
  have hl := lv_entry ([.ref q, .int b0, .int b1, .ref y0, .ref y1, .ref y2, .ref y3]) (n := 7) (Nat.le_of_ble_eq_true rfl)
  rw [lg_entry_eq]
  generalize (lg_sl ([.ref q, .int b0, .int b1, .ref y0, .ref y1, .ref y2, .ref y3]) ++ List.replicate (7 - (lg_sl ([.ref q, .int b0, .int b1, .ref y0, .ref y1, .ref y2, .ref y3])).length) Slot.unset).toArray = ls at hl ⊢
  have hl : lv_has ls 7 [(0, .ref q), (1, .int b0), (2, .int b1), (3, .ref y0), (4, .ref y1), (5, .ref y2), (6, .ref y3)] := hl
  refine lv_aload_n hx hb dX7_init_0 rfl (lv_at hl 0 rfl) ?_
  refine W.objInit hx hb hown (hts _ (vA_in _ _ (in_8 _ (zs4 (zs0))))) (hts _ (vA_in _ _ (in_4 _ (zs16 (zs1 (zs0)))))) (hts _ (vA_in _ _ (in_4 _ (zs16 (zs1 (zs1 (zs0))))))) rfl (by rw [hml]; exact hl.1) rfl dX7_init_1 (Nat.le_of_ble_eq_true rfl) (Nat.le_of_ble_eq_true rfl) ?_
  refine W.eq (g2 := F0 m 4 ls []) rfl ?_
  refine lv_aload_n hx hb dX7_init_4 rfl (lv_at hl 0 rfl) ?_
  refine lv_iload_n hx hb dX7_init_5 rfl (lv_at hl 1 rfl) ?_
  refine va_putF (D := (dC, dI)) (ci := 8) (v := .int b0) (ty := .int) (C := RX7) (T := TX7) (N := 6) hx hb hts (fun w h => vA_in _ w (in_X7 w h)) tyX7 tyX7_ok nmX7 hown hK hP hD hS 0 rfl rfl 0 (by decide) (hts _ (vA_in _ _ (in_8 _ (zs4 (zs1 (zs0)))))) (fun _ h9 => h9) rfl hin rfl (by decide +kernel) rfl rfl (Nat.le_of_ble_eq_true rfl) dX7_init_6 (fun H locs hP hD hS => ?_)
  have hP : va_P (dC, dI) vwCl [(q, .inr (8, [.int b0, .int 0, .null, .null, .null, .null]))] H := hP
  have hD : va_D A [(q, .inr (8, [.int b0, .int 0, .null, .null, .null, .null]))] := hD
  refine lv_aload_n hx hb dX7_init_9 rfl (lv_at hl 0 rfl) ?_
  refine lv_iload_n hx hb dX7_init_10 rfl (lv_at hl 2 rfl) ?_
  refine va_putF (D := (dC, dI)) (ci := 8) (v := .int b1) (ty := .int) (C := RX7) (T := TX7) (N := 6) hx hb hts (fun w h => vA_in _ w (in_X7 w h)) tyX7 tyX7_ok nmX7 hown hK hP hD hS 0 rfl rfl 1 (by decide) (hts _ (vA_in _ _ (in_8 _ (zs4 (zs1 (zs1 (zs0))))))) (fun _ h9 => h9) rfl hin rfl (by decide +kernel) rfl rfl (Nat.le_of_ble_eq_true rfl) dX7_init_11 (fun H locs hP hD hS => ?_)
  have hP : va_P (dC, dI) vwCl [(q, .inr (8, [.int b0, .int b1, .null, .null, .null, .null]))] H := hP
  have hD : va_D A [(q, .inr (8, [.int b0, .int b1, .null, .null, .null, .null]))] := hD
  refine lv_aload_n hx hb dX7_init_14 rfl (lv_at hl 0 rfl) ?_
  refine lv_aload_n hx hb dX7_init_15 rfl (lv_at hl 3 rfl) ?_
  refine va_putF (D := (dC, dI)) (ci := 8) (v := .ref y0) (ty := .array .int) (C := RX7) (T := TX7) (N := 6) hx hb hts (fun w h => vA_in _ w (in_X7 w h)) tyX7 tyX7_ok nmX7 hown hK hP hD hS 0 rfl rfl 2 (by decide) (hts _ (vA_in _ _ (in_7 _ (zs4 (zs4 (zs1 (zs1 (zs1 (zs0))))))))) (fun _ h9 => h9) rfl hin rfl (by decide +kernel) rfl rfl (Nat.le_of_ble_eq_true rfl) dX7_init_16 (fun H locs hP hD hS => ?_)
  have hP : va_P (dC, dI) vwCl [(q, .inr (8, [.int b0, .int b1, .ref y0, .null, .null, .null]))] H := hP
  have hD : va_D A [(q, .inr (8, [.int b0, .int b1, .ref y0, .null, .null, .null]))] := hD
  refine lv_aload_n hx hb dX7_init_19 rfl (lv_at hl 0 rfl) ?_
  refine lv_aload hx hb dX7_init_20 (lv_at hl 4 rfl) ?_
  refine va_putF (D := (dC, dI)) (ci := 8) (v := .ref y1) (ty := .array .int) (C := RX7) (T := TX7) (N := 6) hx hb hts (fun w h => vA_in _ w (in_X7 w h)) tyX7 tyX7_ok nmX7 hown hK hP hD hS 0 rfl rfl 3 (by decide) (hts _ (vA_in _ _ (in_7 _ (zs4 (zs0))))) (fun _ h9 => h9) rfl hin rfl (by decide +kernel) rfl rfl (Nat.le_of_ble_eq_true rfl) dX7_init_22 (fun H locs hP hD hS => ?_)
  have hP : va_P (dC, dI) vwCl [(q, .inr (8, [.int b0, .int b1, .ref y0, .ref y1, .null, .null]))] H := hP
  have hD : va_D A [(q, .inr (8, [.int b0, .int b1, .ref y0, .ref y1, .null, .null]))] := hD
  refine lv_aload_n hx hb dX7_init_25 rfl (lv_at hl 0 rfl) ?_
  refine lv_aload hx hb dX7_init_26 (lv_at hl 5 rfl) ?_
  refine va_putF (D := (dC, dI)) (ci := 8) (v := .ref y2) (ty := .array .int) (C := RX7) (T := TX7) (N := 6) hx hb hts (fun w h => vA_in _ w (in_X7 w h)) tyX7 tyX7_ok nmX7 hown hK hP hD hS 0 rfl rfl 4 (by decide) (hts _ (vA_in _ _ (in_7 _ (zs4 (zs1 (zs1 (zs0))))))) (fun _ h9 => h9) rfl hin rfl (by decide +kernel) rfl rfl (Nat.le_of_ble_eq_true rfl) dX7_init_28 (fun H locs hP hD hS => ?_)
  have hP : va_P (dC, dI) vwCl [(q, .inr (8, [.int b0, .int b1, .ref y0, .ref y1, .ref y2, .null]))] H := hP
  have hD : va_D A [(q, .inr (8, [.int b0, .int b1, .ref y0, .ref y1, .ref y2, .null]))] := hD
  refine lv_aload_n hx hb dX7_init_31 rfl (lv_at hl 0 rfl) ?_
  refine lv_aload hx hb dX7_init_32 (lv_at hl 6 rfl) ?_
  refine va_putF (D := (dC, dI)) (ci := 8) (v := .ref y3) (ty := .array .int) (C := RX7) (T := TX7) (N := 6) hx hb hts (fun w h => vA_in _ w (in_X7 w h)) tyX7 tyX7_ok nmX7 hown hK hP hD hS 0 rfl rfl 5 (by decide) (hts _ (vA_in _ _ (in_7 _ (zs4 (zs1 (zs0)))))) (fun _ h9 => h9) rfl hin rfl (by decide +kernel) rfl rfl (Nat.le_of_ble_eq_true rfl) dX7_init_34 (fun H locs hP hD hS => ?_)
  have hP : va_P (dC, dI) vwCl [(q, .inr (8, [.int b0, .int b1, .ref y0, .ref y1, .ref y2, .ref y3]))] H := hP
  have hD : va_D A [(q, .inr (8, [.int b0, .int b1, .ref y0, .ref y1, .ref y2, .ref y3]))] := hD
  have hP9 := hP.sub (ws' := [(q, .inr (8, [.int b0, .int b1, .ref y0, .ref y1, .ref y2, .ref y3]))]) [0] rfl
  have hD9 := hD.sub (ws' := [(q, .inr (8, [.int b0, .int b1, .ref y0, .ref y1, .ref y2, .ref y3]))]) [0] (by decide) rfl
  have hK9 := hK.sub (tys' := []) [] rfl
  exact W.vret hx hb hr (fun t ht hW => ⟨⟨(), rfl, trivial, (by rw [ht]; exact hP9), va_K.moved hW.alike hK9, hD9⟩, hS.F ht⟩) hS.2.2 dX7_init_37
def v_u_asRules : List Cond := .code yX10_asRules cX10_asRules 3 (some (.object "UnlikeBoats$Rules")) :: vA
abbrev rm_u_asRules : Room := { frames := 3, cells := 5, slots := 2566, locals := 120 }
def w_u_asRules : Nat → Nat → Bool := wl [] []
set_option maxHeartbeats 4000000 in
set_option maxRecDepth 100000 in
theorem q_u_asRules (l : Launch) (dC : Nat → ClassId) (dI : Nat → Nat → Nat) (cT : Nat → ClassId) (cf : Nat → Nat) (hC : CF cf) (ad : Nat → Nat) (E : Nat → va_E) (sz : Nat) (a0 : Int32) (a1 : Int32) (hI0 : IXL cT (shC cf) (spC cf) (LC cf) ad E)  : Met l yX10_asRules v_u_asRules rm_u_asRules (va_Pc [.ref (ad 2), .int a0, .int a1] (fun U => (HWL dC dI (TYC cT) cf ad E sz) U ∧ va_Nw (.castable "[I" "java/lang/Cloneable") U)) (va_Qr (S := Nat × Nat × Nat × Nat × (Nat → Int32) × (Nat → Int32) × (Nat → Int32) × (Nat → Int32)) (fun u => (∀ j, j < (xi (E 2) 5).toNatClampNeg → u.2.2.2.2.1 j = xi (E 22) j) ∧ (∀ j, j < (xi (E 2) 9).toNatClampNeg → u.2.2.2.2.2.1 j = xi (E 23) j) ∧ (∀ j, j < (xi (E 2) 9).toNatClampNeg + 1 → u.2.2.2.2.2.2.1 j = xi (E 24) j) ∧ (∀ j, j < (xi (E 2) 9).toNatClampNeg → u.2.2.2.2.2.2.2 j = xi (E 25) j)) (fun u qn t => va_P (dC, dI) vwCl ([(qn, .inr (8, [.int a0, .int a1, .ref u.1, .ref u.2.1, .ref u.2.2.1, .ref u.2.2.2.1])), (u.2.2.2.1, .inl (cT 0, (xi (E 2) 9).toNatClampNeg, .inl u.2.2.2.2.2.2.2)), (u.2.2.1, .inl (cT 0, (xi (E 2) 9).toNatClampNeg + 1, .inl u.2.2.2.2.2.2.1)), (u.2.1, .inl (cT 0, (xi (E 2) 9).toNatClampNeg, .inl u.2.2.2.2.2.1)), (u.1, .inl (cT 0, (xi (E 2) 5).toNatClampNeg, .inl u.2.2.2.2.1))] ++ WL (LC cf) ad E) t.heap ∧ va_D (va_A (WL (LC cf) ad E) sz) ([(qn, .inr (8, [.int a0, .int a1, .ref u.1, .ref u.2.1, .ref u.2.2.1, .ref u.2.2.2.1])), (u.2.2.2.1, .inl (cT 0, (xi (E 2) 9).toNatClampNeg, .inl u.2.2.2.2.2.2.2)), (u.2.2.1, .inl (cT 0, (xi (E 2) 9).toNatClampNeg + 1, .inl u.2.2.2.2.2.2.1)), (u.2.1, .inl (cT 0, (xi (E 2) 9).toNatClampNeg, .inl u.2.2.2.2.2.1)), (u.1, .inl (cT 0, (xi (E 2) 5).toNatClampNeg, .inl u.2.2.2.2.1))] ++ WL (LC cf) ad E)) (va_A (WL (LC cf) ad E) sz)) 5 2566 (va_A (WL (LC cf) ad E) sz) := by
  obtain ⟨⟨hc0, hc1, hc2, hc3, hc4, hc5⟩, hcr⟩ := id hC
  refine Met.ofW (cc := cX10_asRules) (maxL := 3) (ret := (some (.object "UnlikeBoats$Rules"))) (by decide) rfl ?_
  intro p e s m args below meth c s₁ B hml hv
  obtain ⟨hargs, ⟨hsz, hP, hK, hD0, hEV⟩, hCL⟩ := hv
  subst hsz
  have hx := B.exec
  have hb := B.bytes
  have hr := B.returns
  have hts := atoms_spec (ws := v_u_asRules) B.pre
  have hown : s.vm.findClass RX10 = some m.cls := findClass_of_methodNamed B.named
  have hlocks := B.notSynchronized
  have hinX10 : ∀ w ∈ u_ws RX10 TX10 10, w ∈ v_u_asRules := fun w h => vA_in _ w (in_X10 w h)
  have hinX7 : ∀ w ∈ u_ws RX7 TX7 6, w ∈ v_u_asRules := fun w h => vA_in _ w (in_X7 w h)
  generalize hAe : va_A (WL (LC cf) ad E) s.heap.size = A at hEV ⊢
  have hA : ∀ q : Nat, s.heap.size ≤ q → A q := fun q h => by rw [← hAe]; exact Or.inr h
  have hD : va_D A (WL (LC cf) ad E) := by rw [← hAe]; exact hD0.self
  have hS : va_S A s.heap s.heap [] := va_S.rf
  have hI := hI0
  have hKp : Kp w_u_asRules E E := Kp.rf
  have hl := lv_entry ([.ref (ad 2), .int a0, .int a1]) (n := 3) (Nat.le_of_ble_eq_true rfl)
  obtain ⟨Q, hQ⟩ : ∃ Q, Q = MQ below (va_Qr (S := Nat × Nat × Nat × Nat × (Nat → Int32) × (Nat → Int32) × (Nat → Int32) × (Nat → Int32)) (fun u => (∀ j, j < (xi (E 2) 5).toNatClampNeg → u.2.2.2.2.1 j = xi (E 22) j) ∧ (∀ j, j < (xi (E 2) 9).toNatClampNeg → u.2.2.2.2.2.1 j = xi (E 23) j) ∧ (∀ j, j < (xi (E 2) 9).toNatClampNeg + 1 → u.2.2.2.2.2.2.1 j = xi (E 24) j) ∧ (∀ j, j < (xi (E 2) 9).toNatClampNeg → u.2.2.2.2.2.2.2 j = xi (E 25) j)) (fun u qn t => va_P (dC, dI) vwCl ([(qn, .inr (8, [.int a0, .int a1, .ref u.1, .ref u.2.1, .ref u.2.2.1, .ref u.2.2.2.1])), (u.2.2.2.1, .inl (cT 0, (xi (E 2) 9).toNatClampNeg, .inl u.2.2.2.2.2.2.2)), (u.2.2.1, .inl (cT 0, (xi (E 2) 9).toNatClampNeg + 1, .inl u.2.2.2.2.2.2.1)), (u.2.1, .inl (cT 0, (xi (E 2) 9).toNatClampNeg, .inl u.2.2.2.2.2.1)), (u.1, .inl (cT 0, (xi (E 2) 5).toNatClampNeg, .inl u.2.2.2.2.1))] ++ WL (LC cf) ad E) t.heap ∧ va_D A ([(qn, .inr (8, [.int a0, .int a1, .ref u.1, .ref u.2.1, .ref u.2.2.1, .ref u.2.2.2.1])), (u.2.2.2.1, .inl (cT 0, (xi (E 2) 9).toNatClampNeg, .inl u.2.2.2.2.2.2.2)), (u.2.2.1, .inl (cT 0, (xi (E 2) 9).toNatClampNeg + 1, .inl u.2.2.2.2.2.2.1)), (u.2.1, .inl (cT 0, (xi (E 2) 9).toNatClampNeg, .inl u.2.2.2.2.2.1)), (u.1, .inl (cT 0, (xi (E 2) 5).toNatClampNeg, .inl u.2.2.2.2.1))] ++ WL (LC cf) ad E)) (A)) args s 5 2566 (A) := ⟨_, rfl⟩
  rw [← hQ, show entryFrame m args 3 = _ from (congrArg (fun z => entryFrame m z 3) hargs).trans (lg_entry_eq _ _ _)]
  generalize (lg_sl ([.ref (ad 2), .int a0, .int a1]) ++ List.replicate (3 - (lg_sl ([.ref (ad 2), .int a0, .int a1])).length) Slot.unset).toArray = ls at hl ⊢
  have hl : lv_has ls 3 [(0, .ref (ad 2)), (1, .int a0), (2, .int a1)] := hl
  have ins : 0 ≤ (xi (E 2) 5).toInt ∧ (xi (E 2) 5).toInt ≤ 200 := hI0.iv 2 (mF 2 rfl) rfl (Nat.le_of_ble_eq_true rfl) rfl
  obtain ⟨ns, hnse⟩ : ∃ n : Nat, n = (xi (E 2) 5).toNatClampNeg := ⟨_, rfl⟩
  have hns : xi (E 2) 5 = nI ns := by rw [hnse]; exact nI_ofn ins.1
  have hnsb : ns ≤ 200 := by rw [hnse, tn_]; omega
  have inc : 0 ≤ (xi (E 2) 9).toInt ∧ (xi (E 2) 9).toInt ≤ 51 := hI0.iv 2 (mF 2 rfl) rfl (Nat.le_of_ble_eq_true rfl) rfl
  obtain ⟨nc, hnce⟩ : ∃ n : Nat, n = (xi (E 2) 9).toNatClampNeg := ⟨_, rfl⟩
  have hnc : xi (E 2) 9 = nI nc := by rw [hnce]; exact nI_ofn inc.1
  have hncb : nc ≤ 51 := by rw [hnce, tn_]; omega
  rw [← hnse, ← hnce] at hQ
  refine va_new (ci := 8) (fs := [.int 0, .int 0, .null, .null, .null, .null]) (C := RX7) (T := TX7) (N := 6) hx hb hts hinX7 tyX7 tyX7_ok hown (hts _ (vA_in _ _ (in_7 _ (zs16 (zs16 (zs1 (zs0))))))) (hts _ (vA_in _ _ (in_7 _ (zs16 (zs16 (zs1 (zs1 (zs0)))))))) (hts _ (vA_in _ _ (in_7 _ (zs1 (zs1 (zs0)))))) hK hP (WL_D hD) hS hA rfl (fun j hj => by rcases (show j = 0 ∨ j = 1 ∨ j = 2 ∨ j = 3 ∨ j = 4 ∨ j = 5 by omega) with rfl | rfl | rfl | rfl | rfl | rfl <;> rfl) (Nat.le_of_ble_eq_true rfl) (Nat.le_of_ble_eq_true rfl) dX10_asRules_0 (fun qn H hP2 hD2 hS => ?_)
  have hP2 : va_P (dC, dI) vwCl ([(qn, .inr (8, [.int 0, .int 0, .null, .null, .null, .null]))] ++ WL (LC cf) ad E) H := va_P_perm hP2 List.perm_append_comm
  have hD2 : va_D A ([(qn, .inr (8, [.int 0, .int 0, .null, .null, .null, .null]))] ++ WL (LC cf) ad E) := va_D_perm hD2 List.perm_append_comm
  have hP : va_P (dC, dI) vwCl (WL (LC cf) ad E) H := va_P_sub hP2 (fun x hx => List.mem_append_right _ hx)
  refine lv_dup hx hb dX10_asRules_3 rfl ?_
  refine lv_iload_n hx hb dX10_asRules_4 rfl (lv_at hl 1 rfl) ?_
  refine lv_iload_n hx hb dX10_asRules_5 rfl (lv_at hl 2 rfl) ?_
  refine lv_aload_n hx hb dX10_asRules_6 rfl (lv_at hl 0 rfl) ?_
  refine th_getL (ci := 11) (C := RX10) (T := TX10) (N := 10) (v := .ref (ad 22)) hx hb hts hinX10 hown hK hP hI 2 (mF 2 rfl) rfl rfl 4 (Nat.le_of_ble_eq_true rfl) (hts _ (vA_in _ _ (in_7 _ (zs16 (zs4 (zs4 (zs4 (zs1 (zs1 (zs1 (zs0))))))))))) (fun _ h9 => h9) (hI.fr 2 (mF 2 rfl) rfl (Nat.le_of_ble_eq_true rfl) 22 rfl) dX10_asRules_7 ?_
  refine lv_aload_n hx hb dX10_asRules_10 rfl (lv_at hl 0 rfl) ?_
  have i1 : 0 ≤ (xi (E 2) 5).toInt ∧ (xi (E 2) 5).toInt ≤ 200 := hI0.iv 2 (mF 2 rfl) rfl (Nat.le_of_ble_eq_true rfl) rfl
  refine th_getL (ci := 11) (C := RX10) (T := TX10) (N := 10) (v := .int (xi (E 2) 5)) hx hb hts hinX10 hown hK hP hI 2 (mF 2 rfl) rfl rfl 5 (Nat.le_of_ble_eq_true rfl) (hts _ (vA_in _ _ (in_7 _ (zs16 (zs4 (zs4 (zs4 (zs1 (zs1 (zs0)))))))))) (fun _ h9 => h9) (th_v0L hKp hI0 2 (mF 2 rfl) rfl (Nat.le_of_ble_eq_true rfl) rfl rfl) dX10_asRules_11 ?_
  rw [hns]
  have hx9 : ((ad 22, .inl (cT 0, 200, .inl (xi (E 22)))) : Nat × va_E) ∈ WL (LC cf) ad E := List.mem_of_getElem? (hI.ar 22 (mF 22 rfl) rfl)
  have hx8 : ((ad 22, .inl (cT 0, 200, .inl (xi (E 22)))) : Nat × va_E) ∈ [(qn, .inr (8, [.int 0, .int 0, .null, .null, .null, .null]))] ++ WL (LC cf) ad E := List.mem_append_right _ hx9
  have hPc := one_P hP2 hx8
  have hDc := one_D hD2 hx8
  have hFc := one_free hD2 hx8 hS hA
  refine va_callr (va_runS (As := [.ref (ad 22), .int (nI ns)]) (rest := [.int a1, .int a0, .ref qn, .ref qn]) ⟨hx, hb, hml, hown, hts⟩ (k_copyI l dC dI (cT 0) (ad 22) ns 200 (xi (E 22)) H.size (by omega) (by omega)) (va_cwS 2 hts (gi_S (in_7 _ (zs16 (zs16 (zs4 (zs1 (zs1 (zs1 (zs0)))))))) (in_8 _ zs0) (in_2 _ (zs16 (zs4 (zs1 (zs1 (zs0)))))) (in_2 _ (zs16 (zs4 (zs4 (zs4 (zs1 (zs1 (zs1 (zs0)))))))))) rfl rfl rfl (by decide +kernel) ⟨Nat.le_of_ble_eq_true rfl, Nat.le_of_ble_eq_true rfl⟩) ⟨fun a U g mk q => by obtain ⟨e0, e1, qP, qK, qD, qE⟩ := q; exact ⟨e0, e1, qP, va_K.moved (u := U) (U := U.calling g mk a) (Vm.Alike.refl U.vm) qK, qD, va_Nw.same (u := U) (U := U.calling g mk a) rfl rfl qE⟩, fun U hU hW => ⟨rfl, by rw [hU], by rw [hU]; exact hPc, va_K.moved hW.alike (hK.sub (tys' := [(cT 0, .int)]) [0] rfl), hDc.weaken (fun _ _ _ _ => trivial), va_Nw.warmC hW hCL⟩⟩ rfl rfl hl.1 rfl (lv_room (Nat.le_of_ble_eq_true rfl)) dX10_asRules_14 ⟨Nat.le_of_ble_eq_true rfl, Nat.le_of_ble_eq_true rfl⟩) hS (fun q _ h => hFc q h) hFc (fun f0 y0 t H1 locs ht hvm hw hB hz1 hk1 hS => ?_)
  have hf0 : ∀ j : Nat, j < ns → f0 j = xi (E 22) j := hw
  obtain ⟨hP1, hD1⟩ := hB
  rw [ht] at hP1
  obtain ⟨hP2, hD2⟩ := copy_join hP2 hD2 hx8 hk1 hFc hP1 hD1
  generalize H1 = H at hP2 hS ⊢
  have hP2 : va_P (dC, dI) vwCl ([(qn, .inr (8, [.int 0, .int 0, .null, .null, .null, .null])), (y0, .inl (cT 0, ns, .inl f0))] ++ WL (LC cf) ad E) H := va_P_perm hP2 (List.Perm.swap _ _ _)
  have hD2 : va_D A ([(qn, .inr (8, [.int 0, .int 0, .null, .null, .null, .null])), (y0, .inl (cT 0, ns, .inl f0))] ++ WL (LC cf) ad E) := va_D_perm hD2 (List.Perm.swap _ _ _)
  have hP : va_P (dC, dI) vwCl (WL (LC cf) ad E) H := va_P_sub hP2 (fun x hx => List.mem_append_right _ hx)
  refine lv_aload_n hx hb dX10_asRules_17 rfl (lv_at hl 0 rfl) ?_
  refine th_getL (ci := 11) (C := RX10) (T := TX10) (N := 10) (v := .ref (ad 23)) hx hb hts hinX10 hown hK hP hI 2 (mF 2 rfl) rfl rfl 6 (Nat.le_of_ble_eq_true rfl) (hts _ (vA_in _ _ (in_7 _ (zs16 (zs16 (zs1 (zs1 (zs1 (zs0))))))))) (fun _ h9 => h9) (hI.fr 2 (mF 2 rfl) rfl (Nat.le_of_ble_eq_true rfl) 23 rfl) dX10_asRules_18 ?_
  refine lv_aload_n hx hb dX10_asRules_21 rfl (lv_at hl 0 rfl) ?_
  have i2 : 0 ≤ (xi (E 2) 9).toInt ∧ (xi (E 2) 9).toInt ≤ 51 := hI0.iv 2 (mF 2 rfl) rfl (Nat.le_of_ble_eq_true rfl) rfl
  refine th_getL (ci := 11) (C := RX10) (T := TX10) (N := 10) (v := .int (xi (E 2) 9)) hx hb hts hinX10 hown hK hP hI 2 (mF 2 rfl) rfl rfl 9 (Nat.le_of_ble_eq_true rfl) (hts _ (vA_in _ _ (in_7 _ (zs16 (zs16 (zs4 (zs0))))))) (fun _ h9 => h9) (th_v0L hKp hI0 2 (mF 2 rfl) rfl (Nat.le_of_ble_eq_true rfl) rfl rfl) dX10_asRules_22 ?_
  rw [hnc]
  have hx9 : ((ad 23, .inl (cT 0, 51, .inl (xi (E 23)))) : Nat × va_E) ∈ WL (LC cf) ad E := List.mem_of_getElem? (hI.ar 23 (mF 23 rfl) rfl)
  have hx8 : ((ad 23, .inl (cT 0, 51, .inl (xi (E 23)))) : Nat × va_E) ∈ [(qn, .inr (8, [.int 0, .int 0, .null, .null, .null, .null])), (y0, .inl (cT 0, ns, .inl f0))] ++ WL (LC cf) ad E := List.mem_append_right _ hx9
  have hPc := one_P hP2 hx8
  have hDc := one_D hD2 hx8
  have hFc := one_free hD2 hx8 hS hA
  refine va_callr (va_runS (As := [.ref (ad 23), .int (nI nc)]) (rest := [.ref y0, .int a1, .int a0, .ref qn, .ref qn]) ⟨hx, hb, hml, hown, hts⟩ (k_copyI l dC dI (cT 0) (ad 23) nc 51 (xi (E 23)) H.size (by omega) (by omega)) (va_cwS 2 hts (gi_S (in_7 _ (zs16 (zs16 (zs4 (zs1 (zs1 (zs1 (zs0)))))))) (in_8 _ zs0) (in_2 _ (zs16 (zs4 (zs1 (zs1 (zs0)))))) (in_2 _ (zs16 (zs4 (zs4 (zs4 (zs1 (zs1 (zs1 (zs0)))))))))) rfl rfl rfl (by decide +kernel) ⟨Nat.le_of_ble_eq_true rfl, Nat.le_of_ble_eq_true rfl⟩) ⟨fun a U g mk q => by obtain ⟨e0, e1, qP, qK, qD, qE⟩ := q; exact ⟨e0, e1, qP, va_K.moved (u := U) (U := U.calling g mk a) (Vm.Alike.refl U.vm) qK, qD, va_Nw.same (u := U) (U := U.calling g mk a) rfl rfl qE⟩, fun U hU hW => ⟨rfl, by rw [hU], by rw [hU]; exact hPc, va_K.moved hW.alike (hK.sub (tys' := [(cT 0, .int)]) [0] rfl), hDc.weaken (fun _ _ _ _ => trivial), va_Nw.warmC hW hCL⟩⟩ rfl rfl hl.1 rfl (lv_room (Nat.le_of_ble_eq_true rfl)) dX10_asRules_25 ⟨Nat.le_of_ble_eq_true rfl, Nat.le_of_ble_eq_true rfl⟩) hS (fun q _ h => hFc q h) hFc (fun f1 y1 t H1 locs ht hvm hw hB hz1 hk1 hS => ?_)
  have hf1 : ∀ j : Nat, j < nc → f1 j = xi (E 23) j := hw
  obtain ⟨hP1, hD1⟩ := hB
  rw [ht] at hP1
  obtain ⟨hP2, hD2⟩ := copy_join hP2 hD2 hx8 hk1 hFc hP1 hD1
  generalize H1 = H at hP2 hS ⊢
  have hP2 : va_P (dC, dI) vwCl ([(qn, .inr (8, [.int 0, .int 0, .null, .null, .null, .null])), (y1, .inl (cT 0, nc, .inl f1)), (y0, .inl (cT 0, ns, .inl f0))] ++ WL (LC cf) ad E) H := va_P_perm hP2 (List.Perm.swap _ _ _)
  have hD2 : va_D A ([(qn, .inr (8, [.int 0, .int 0, .null, .null, .null, .null])), (y1, .inl (cT 0, nc, .inl f1)), (y0, .inl (cT 0, ns, .inl f0))] ++ WL (LC cf) ad E) := va_D_perm hD2 (List.Perm.swap _ _ _)
  have hP : va_P (dC, dI) vwCl (WL (LC cf) ad E) H := va_P_sub hP2 (fun x hx => List.mem_append_right _ hx)
  refine lv_aload_n hx hb dX10_asRules_28 rfl (lv_at hl 0 rfl) ?_
  refine th_getL (ci := 11) (C := RX10) (T := TX10) (N := 10) (v := .ref (ad 24)) hx hb hts hinX10 hown hK hP hI 2 (mF 2 rfl) rfl rfl 7 (Nat.le_of_ble_eq_true rfl) (hts _ (vA_in _ _ (in_7 _ (zs16 (zs16 (zs4 (zs1 (zs0)))))))) (fun _ h9 => h9) (hI.fr 2 (mF 2 rfl) rfl (Nat.le_of_ble_eq_true rfl) 24 rfl) dX10_asRules_29 ?_
  refine lv_aload_n hx hb dX10_asRules_32 rfl (lv_at hl 0 rfl) ?_
  refine th_getL (ci := 11) (C := RX10) (T := TX10) (N := 10) (v := .int (xi (E 2) 9)) hx hb hts hinX10 hown hK hP hI 2 (mF 2 rfl) rfl rfl 9 (Nat.le_of_ble_eq_true rfl) (hts _ (vA_in _ _ (in_7 _ (zs16 (zs16 (zs4 (zs0))))))) (fun _ h9 => h9) (th_v0L hKp hI0 2 (mF 2 rfl) rfl (Nat.le_of_ble_eq_true rfl) rfl rfl) dX10_asRules_33 ?_
  refine lv_iconst (v := 1) hx hb dX10_asRules_36 (by decide) ?_
  refine lv_iadd hx hb dX10_asRules_37 ?_
  refine lv_topi (fun y3 ey3 => ?_)
  obtain ⟨ty3, iy3⟩ := ti_add (e := 1) (f := 52) i2 ln_1 ey3 (by decide)
  have ty3 : y3.toInt = (xi (E 2) 9).toInt + 1 := ty3
  have iy3 : 1 ≤ y3.toInt ∧ y3.toInt ≤ 52 := iy3
  have hy9 : y3 = nI (nc + 1) := by apply Int32.toInt_inj.mp; have h8 : (xi (E 2) 9).toInt = ((nc : Nat) : Int) := by { rw [hnc]; exact nI_toInt (by omega) }; have l1 : (1 : Int32).toInt = 1 := rfl; rw [nI_toInt (by omega)]; omega
  rw [hy9]
  have hx9 : ((ad 24, .inl (cT 0, 52, .inl (xi (E 24)))) : Nat × va_E) ∈ WL (LC cf) ad E := List.mem_of_getElem? (hI.ar 24 (mF 24 rfl) rfl)
  have hx8 : ((ad 24, .inl (cT 0, 52, .inl (xi (E 24)))) : Nat × va_E) ∈ [(qn, .inr (8, [.int 0, .int 0, .null, .null, .null, .null])), (y1, .inl (cT 0, nc, .inl f1)), (y0, .inl (cT 0, ns, .inl f0))] ++ WL (LC cf) ad E := List.mem_append_right _ hx9
  have hPc := one_P hP2 hx8
  have hDc := one_D hD2 hx8
  have hFc := one_free hD2 hx8 hS hA
  refine va_callr (va_runS (As := [.ref (ad 24), .int (nI (nc + 1))]) (rest := [.ref y1, .ref y0, .int a1, .int a0, .ref qn, .ref qn]) ⟨hx, hb, hml, hown, hts⟩ (k_copyI l dC dI (cT 0) (ad 24) (nc + 1) 52 (xi (E 24)) H.size (by omega) (by omega)) (va_cwS 2 hts (gi_S (in_7 _ (zs16 (zs16 (zs4 (zs1 (zs1 (zs1 (zs0)))))))) (in_8 _ zs0) (in_2 _ (zs16 (zs4 (zs1 (zs1 (zs0)))))) (in_2 _ (zs16 (zs4 (zs4 (zs4 (zs1 (zs1 (zs1 (zs0)))))))))) rfl rfl rfl (by decide +kernel) ⟨Nat.le_of_ble_eq_true rfl, Nat.le_of_ble_eq_true rfl⟩) ⟨fun a U g mk q => by obtain ⟨e0, e1, qP, qK, qD, qE⟩ := q; exact ⟨e0, e1, qP, va_K.moved (u := U) (U := U.calling g mk a) (Vm.Alike.refl U.vm) qK, qD, va_Nw.same (u := U) (U := U.calling g mk a) rfl rfl qE⟩, fun U hU hW => ⟨rfl, by rw [hU], by rw [hU]; exact hPc, va_K.moved hW.alike (hK.sub (tys' := [(cT 0, .int)]) [0] rfl), hDc.weaken (fun _ _ _ _ => trivial), va_Nw.warmC hW hCL⟩⟩ rfl rfl hl.1 rfl (lv_room (Nat.le_of_ble_eq_true rfl)) dX10_asRules_38 ⟨Nat.le_of_ble_eq_true rfl, Nat.le_of_ble_eq_true rfl⟩) hS (fun q _ h => hFc q h) hFc (fun f2 y2 t H1 locs ht hvm hw hB hz1 hk1 hS => ?_)
  have hf2 : ∀ j : Nat, j < nc + 1 → f2 j = xi (E 24) j := hw
  obtain ⟨hP1, hD1⟩ := hB
  rw [ht] at hP1
  obtain ⟨hP2, hD2⟩ := copy_join hP2 hD2 hx8 hk1 hFc hP1 hD1
  generalize H1 = H at hP2 hS ⊢
  have hP2 : va_P (dC, dI) vwCl ([(qn, .inr (8, [.int 0, .int 0, .null, .null, .null, .null])), (y2, .inl (cT 0, nc + 1, .inl f2)), (y1, .inl (cT 0, nc, .inl f1)), (y0, .inl (cT 0, ns, .inl f0))] ++ WL (LC cf) ad E) H := va_P_perm hP2 (List.Perm.swap _ _ _)
  have hD2 : va_D A ([(qn, .inr (8, [.int 0, .int 0, .null, .null, .null, .null])), (y2, .inl (cT 0, nc + 1, .inl f2)), (y1, .inl (cT 0, nc, .inl f1)), (y0, .inl (cT 0, ns, .inl f0))] ++ WL (LC cf) ad E) := va_D_perm hD2 (List.Perm.swap _ _ _)
  have hP : va_P (dC, dI) vwCl (WL (LC cf) ad E) H := va_P_sub hP2 (fun x hx => List.mem_append_right _ hx)
  refine lv_aload_n hx hb dX10_asRules_41 rfl (lv_at hl 0 rfl) ?_
  refine th_getL (ci := 11) (C := RX10) (T := TX10) (N := 10) (v := .ref (ad 25)) hx hb hts hinX10 hown hK hP hI 2 (mF 2 rfl) rfl rfl 8 (Nat.le_of_ble_eq_true rfl) (hts _ (vA_in _ _ (in_7 _ (zs16 (zs16 (zs4 (zs1 (zs1 (zs0))))))))) (fun _ h9 => h9) (hI.fr 2 (mF 2 rfl) rfl (Nat.le_of_ble_eq_true rfl) 25 rfl) dX10_asRules_42 ?_
  refine lv_aload_n hx hb dX10_asRules_45 rfl (lv_at hl 0 rfl) ?_
  refine th_getL (ci := 11) (C := RX10) (T := TX10) (N := 10) (v := .int (xi (E 2) 9)) hx hb hts hinX10 hown hK hP hI 2 (mF 2 rfl) rfl rfl 9 (Nat.le_of_ble_eq_true rfl) (hts _ (vA_in _ _ (in_7 _ (zs16 (zs16 (zs4 (zs0))))))) (fun _ h9 => h9) (th_v0L hKp hI0 2 (mF 2 rfl) rfl (Nat.le_of_ble_eq_true rfl) rfl rfl) dX10_asRules_46 ?_
  rw [hnc]
  have hx9 : ((ad 25, .inl (cT 0, 51, .inl (xi (E 25)))) : Nat × va_E) ∈ WL (LC cf) ad E := List.mem_of_getElem? (hI.ar 25 (mF 25 rfl) rfl)
  have hx8 : ((ad 25, .inl (cT 0, 51, .inl (xi (E 25)))) : Nat × va_E) ∈ [(qn, .inr (8, [.int 0, .int 0, .null, .null, .null, .null])), (y2, .inl (cT 0, nc + 1, .inl f2)), (y1, .inl (cT 0, nc, .inl f1)), (y0, .inl (cT 0, ns, .inl f0))] ++ WL (LC cf) ad E := List.mem_append_right _ hx9
  have hPc := one_P hP2 hx8
  have hDc := one_D hD2 hx8
  have hFc := one_free hD2 hx8 hS hA
  refine va_callr (va_runS (As := [.ref (ad 25), .int (nI nc)]) (rest := [.ref y2, .ref y1, .ref y0, .int a1, .int a0, .ref qn, .ref qn]) ⟨hx, hb, hml, hown, hts⟩ (k_copyI l dC dI (cT 0) (ad 25) nc 51 (xi (E 25)) H.size (by omega) (by omega)) (va_cwS 2 hts (gi_S (in_7 _ (zs16 (zs16 (zs4 (zs1 (zs1 (zs1 (zs0)))))))) (in_8 _ zs0) (in_2 _ (zs16 (zs4 (zs1 (zs1 (zs0)))))) (in_2 _ (zs16 (zs4 (zs4 (zs4 (zs1 (zs1 (zs1 (zs0)))))))))) rfl rfl rfl (by decide +kernel) ⟨Nat.le_of_ble_eq_true rfl, Nat.le_of_ble_eq_true rfl⟩) ⟨fun a U g mk q => by obtain ⟨e0, e1, qP, qK, qD, qE⟩ := q; exact ⟨e0, e1, qP, va_K.moved (u := U) (U := U.calling g mk a) (Vm.Alike.refl U.vm) qK, qD, va_Nw.same (u := U) (U := U.calling g mk a) rfl rfl qE⟩, fun U hU hW => ⟨rfl, by rw [hU], by rw [hU]; exact hPc, va_K.moved hW.alike (hK.sub (tys' := [(cT 0, .int)]) [0] rfl), hDc.weaken (fun _ _ _ _ => trivial), va_Nw.warmC hW hCL⟩⟩ rfl rfl hl.1 rfl (lv_room (Nat.le_of_ble_eq_true rfl)) dX10_asRules_49 ⟨Nat.le_of_ble_eq_true rfl, Nat.le_of_ble_eq_true rfl⟩) hS (fun q _ h => hFc q h) hFc (fun f3 y3 t H1 locs ht hvm hw hB hz1 hk1 hS => ?_)
  have hf3 : ∀ j : Nat, j < nc → f3 j = xi (E 25) j := hw
  obtain ⟨hP1, hD1⟩ := hB
  rw [ht] at hP1
  obtain ⟨hP2, hD2⟩ := copy_join hP2 hD2 hx8 hk1 hFc hP1 hD1
  generalize H1 = H at hP2 hS ⊢
  have hP2 : va_P (dC, dI) vwCl ([(qn, .inr (8, [.int 0, .int 0, .null, .null, .null, .null])), (y3, .inl (cT 0, nc, .inl f3)), (y2, .inl (cT 0, nc + 1, .inl f2)), (y1, .inl (cT 0, nc, .inl f1)), (y0, .inl (cT 0, ns, .inl f0))] ++ WL (LC cf) ad E) H := va_P_perm hP2 (List.Perm.swap _ _ _)
  have hD2 : va_D A ([(qn, .inr (8, [.int 0, .int 0, .null, .null, .null, .null])), (y3, .inl (cT 0, nc, .inl f3)), (y2, .inl (cT 0, nc + 1, .inl f2)), (y1, .inl (cT 0, nc, .inl f1)), (y0, .inl (cT 0, ns, .inl f0))] ++ WL (LC cf) ad E) := va_D_perm hD2 (List.Perm.swap _ _ _)
  have hP : va_P (dC, dI) vwCl (WL (LC cf) ad E) H := va_P_sub hP2 (fun x hx => List.mem_append_right _ hx)
  have hPc := va_P_sub (ws' := [(qn, .inr (8, [.int 0, .int 0, .null, .null, .null, .null]))]) hP2 (fun x hx => List.mem_append_left _ (by rw [List.mem_singleton.mp hx]; exact List.mem_cons_self ..))
  have hx8 : ((qn, .inr (8, [.int 0, .int 0, .null, .null, .null, .null])) : Nat × va_E) ∈ [(qn, .inr (8, [.int 0, .int 0, .null, .null, .null, .null])), (y3, .inl (cT 0, nc, .inl f3)), (y2, .inl (cT 0, nc + 1, .inl f2)), (y1, .inl (cT 0, nc, .inl f1)), (y0, .inl (cT 0, ns, .inl f0))] ++ WL (LC cf) ad E := List.mem_cons_self ..
  have hDc := one_D hD2 hx8
  have hFc := one_free hD2 hx8 hS hA
  refine va_callv (va_runI (As := [.int a0, .int a1, .ref y0, .ref y1, .ref y2, .ref y3]) (rest := [.ref qn]) ⟨hx, hb, hml, hown, hts⟩ (x_Rules l dC dI qn a0 a1 y0 y1 y2 y3 H.size) (cwI 6 hts (gi_0 (in_8 _ (zs1 (zs1 (zs1 (zs0)))))) rfl rfl rfl (hts _ (vA_in _ _ (in_7 _ (zs1 (zs1 (zs0)))))) (hts _ (vA_in _ _ (in_8 _ (zs1 (zs0))))) (hts _ (vA_in _ _ (in_8 _ (zs1 (zs1 (zs0)))))) rfl (by decide +kernel) ⟨Nat.le_of_ble_eq_true rfl, Nat.le_of_ble_eq_true rfl⟩) ⟨fun a U g mk q => by obtain ⟨e0, e1, qP, qK, qD⟩ := q; exact ⟨e0, e1, qP, va_K.moved (u := U) (U := U.calling g mk a) (Vm.Alike.refl U.vm) qK, qD⟩, fun U hU hW => ⟨rfl, by rw [hU], by rw [hU]; exact hPc, va_K.moved hW.alike (hK.sub (tys' := []) [] rfl), hDc.weaken (fun _ _ _ _ => trivial)⟩⟩ rfl rfl hl.1 rfl (lv_room (Nat.le_of_ble_eq_true rfl)) dX10_asRules_52 ⟨Nat.le_of_ble_eq_true rfl, Nat.le_of_ble_eq_true rfl⟩) hS (fun z _ h => hFc z h) hFc (fun u1 t H1 locs ht hvm hw hB hz1 hk1 hS => ?_)
  obtain ⟨hP1, -, hD1⟩ := hB
  rw [ht] at hP1
  obtain ⟨hP2, hD2⟩ := va_joinQ (X := [(qn, .inr (8, [.int 0, .int 0, .null, .null, .null, .null]))]) (pl := [(y3, .inl (cT 0, nc, .inl f3)), (y2, .inl (cT 0, nc + 1, .inl f2)), (y1, .inl (cT 0, nc, .inl f1)), (y0, .inl (cT 0, ns, .inl f0))] ++ WL (LC cf) ad E) (wr := []) hP2 hD2 [0] [] rfl rfl rfl (fun _ h => nomatch h) hk1 hFc hP1 hD1
  have hP2 : va_P (dC, dI) vwCl ([(qn, .inr (8, [.int a0, .int a1, .ref y0, .ref y1, .ref y2, .ref y3])), (y3, .inl (cT 0, nc, .inl f3)), (y2, .inl (cT 0, nc + 1, .inl f2)), (y1, .inl (cT 0, nc, .inl f1)), (y0, .inl (cT 0, ns, .inl f0))] ++ WL (LC cf) ad E) H1 := hP2
  have hD2 : va_D A ([(qn, .inr (8, [.int a0, .int a1, .ref y0, .ref y1, .ref y2, .ref y3])), (y3, .inl (cT 0, nc, .inl f3)), (y2, .inl (cT 0, nc + 1, .inl f2)), (y1, .inl (cT 0, nc, .inl f1)), (y0, .inl (cT 0, ns, .inl f0))] ++ WL (LC cf) ad E) := hD2
  generalize H1 = H at hP2 hS ⊢
  rw [hQ]
  refine W.widen (k := 5) (n := 2566) (by omega) (by omega) ?_
  exact W.aret (v := .ref qn) hx hb hr (Or.inl ⟨_, rfl⟩) (Or.inr ⟨_, rfl⟩) (fun t ht hW => ⟨⟨(y0, y1, y2, y3, f0, f1, f2, f3), qn, rfl, ⟨hf0, hf1, hf2, hf3⟩, (by rw [ht]; exact hP2), hD2⟩, hS.F ht⟩) hS.2.2 dX10_asRules_55
