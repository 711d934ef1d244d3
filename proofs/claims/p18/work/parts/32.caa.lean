

/-! ===== worlds by their members; worlds that grow ===== -/
theorem va_P_mem {D : va_G} {cl : List vw_C} {ws : va_W} {H : Heap} : va_P D cl ws H ↔ ∀ x ∈ ws, va_at D cl x H := by
  constructor
  · intro h x hx
    obtain ⟨k, hk⟩ := List.mem_iff_getElem?.mp hx
    exact h k x hk
  · intro h k q hk
    exact h q (List.mem_of_getElem? hk)
theorem va_P_sub {D : va_G} {cl : List vw_C} {ws ws' : va_W} {H : Heap} (h : va_P D cl ws H) (hs : ∀ x ∈ ws', x ∈ ws) : va_P D cl ws' H := va_P_mem.mpr fun x hx => va_P_mem.mp h x (hs x hx)
theorem va_D_iff {A : Nat → Prop} {ws : va_W} : va_D A ws ↔ (ws.map (fun q => q.1)).Nodup ∧ ∀ q ∈ ws, A q.1 := by
  constructor
  · intro h
    refine ⟨List.pairwise_iff_getElem.mpr fun i j hi hj hij e => ?_, fun q hq => ?_⟩
    · rw [List.length_map] at hi hj
      rw [List.getElem_map, List.getElem_map] at e
      have := h.1 i j _ _ (List.getElem?_eq_getElem hi) (List.getElem?_eq_getElem hj) e
      omega
    · obtain ⟨k, hk⟩ := List.mem_iff_getElem?.mp hq
      exact h.2 k q hk
  · intro h
    refine ⟨fun i j p q hi hj e => ?_, fun k q hk => h.2 q (List.mem_of_getElem? hk)⟩
    have hi2 : i < ws.length := (List.getElem?_eq_some_iff.mp hi).1
    have hj2 : j < ws.length := (List.getElem?_eq_some_iff.mp hj).1
    have hi3 : ws[i] = p := (List.getElem?_eq_some_iff.mp hi).2
    have hj3 : ws[j] = q := (List.getElem?_eq_some_iff.mp hj).2
    have key : ∀ a b : Nat, (ha : a < ws.length) → (hb : b < ws.length) → a < b → ws[a].1 ≠ ws[b].1 := fun a b ha hb hab => by
      have := List.pairwise_iff_getElem.mp h.1 a b (by rw [List.length_map]; exact ha) (by rw [List.length_map]; exact hb) hab
      rw [List.getElem_map, List.getElem_map] at this
      exact this
    rcases Nat.lt_trichotomy i j with q1 | q1 | q1
    · exact absurd (by rw [hi3, hj3]; exact e) (key i j hi2 hj2 q1)
    · exact q1
    · exact absurd (by rw [hi3, hj3]; exact e.symm) (key j i hj2 hi2 q1)
theorem va_D_perm {A : Nat → Prop} {ws ws' : va_W} (h : va_D A ws) (hp : ws'.Perm ws) : va_D A ws' := by
  rw [va_D_iff] at h ⊢
  exact ⟨(hp.map _).nodup_iff.mpr h.1, fun q hq => h.2 q (hp.mem_iff.mp hq)⟩
theorem va_P_perm {D : va_G} {cl : List vw_C} {ws ws' : va_W} {H : Heap} (h : va_P D cl ws H) (hp : ws'.Perm ws) : va_P D cl ws' H := va_P_sub h fun x hx => hp.mem_iff.mp hx
theorem WL_perm {L L' : List Nat} {ad : Nat → Nat} {E : Nat → va_E} (h : L.Perm L') : (WL L ad E).Perm (WL L' ad E) := h.map _
theorem WL_congr {L : List Nat} {ad ad' : Nat → Nat} {E E' : Nat → va_E} (h : ∀ k ∈ L, ad k = ad' k ∧ E k = E' k) : WL L ad E = WL L ad' E' := by
  apply List.map_congr_left
  intro k hk
  rw [(h k hk).1, (h k hk).2]
theorem WL_append {L L' : List Nat} {ad : Nat → Nat} {E : Nat → va_E} : WL (L ++ L') ad E = WL L ad E ++ WL L' ad E := List.map_append
theorem perm_mem {L L' : List Nat} (h1 : L.Nodup) (h2 : L'.Nodup) (h : ∀ x, x ∈ L ↔ x ∈ L') : L.Perm L' := (List.perm_ext_iff_of_nodup h1 h2).mpr h
theorem LC_cases {cf : Nat → Nat} {o : Nat} (h : o ∈ LC cf) : (fixB o = true ∧ o < 57) ∨ (13 ≤ o ∧ o < 19 ∧ 0 < cf (o - 13)) ∨ ∃ t i : Nat, t < 15 ∧ i < cf (kl t) ∧ o = 64 * (i + 1) + t := by
  have h2 := (List.mem_filter.mp h).2
  unfold lvC at h2
  by_cases q : o < 64
  · rw [blt_t q] at h2
    have h3 : (fixB o || (Nat.ble 13 o && Nat.blt o 19 && Nat.blt 0 (cf (o - 13)))) = true := h2
    rw [Bool.or_eq_true, Bool.and_eq_true, Bool.and_eq_true] at h3
    rcases h3 with h3 | ⟨⟨h4, h5⟩, h6⟩
    · left
      refine ⟨h3, ?_⟩
      unfold fixB at h3
      rw [Bool.or_eq_true, Bool.and_eq_true] at h3
      rcases h3 with h3 | h3
      · have := Nat.le_of_ble_eq_true h3; omega
      · have := Nat.le_of_ble_eq_true h3.2; omega
    · right; left
      exact ⟨Nat.le_of_ble_eq_true h4, Nat.le_of_ble_eq_true h5, Nat.le_of_ble_eq_true h6⟩
  · rw [blt_f (show 64 ≤ o by omega)] at h2
    have h3 : (Nat.blt (o % 64) 15 && Nat.blt (o / 64 - 1) (cf (kl (o % 64)))) = true := h2
    rw [Bool.and_eq_true] at h3
    right; right
    exact ⟨o % 64, o / 64 - 1, Nat.le_of_ble_eq_true h3.1, Nat.le_of_ble_eq_true h3.2, by omega⟩
theorem LC_mem {cf : Nat → Nat} (hC : ∀ j, j < 6 → cf j ≤ 300) {o : Nat} : o ∈ LC cf ↔ (fixB o = true ∧ o < 57) ∨ (13 ≤ o ∧ o < 19 ∧ 0 < cf (o - 13)) ∨ ∃ t i : Nat, t < 15 ∧ i < cf (kl t) ∧ o = 64 * (i + 1) + t := by
  constructor
  · exact LC_cases
  · rintro (h | h | ⟨t, i, h1, h2, rfl⟩)
    · exact mF o h.1
    · exact mD o h.1 h.2.1 h.2.2
    · refine mP t i h1 h2 (hC _ ?_)
      have : ∀ t : Nat, t < 15 → kl t < 6 := by decide
      exact this t h1
/-- a wider slot -/
def spLe (s s' : Nat × Int × Int) : Prop := s = s' ∨ (s.1 = 0 ∧ s'.1 = 0 ∧ s'.2.1 ≤ s.2.1 ∧ s.2.2 ≤ s'.2.2)
theorem okV_le {ad : Nat → Nat} {s s' : Nat × Int × Int} {v : Value} (h : spLe s s') (hv : okV ad s v) : okV ad s' v := by
  rcases h with rfl | ⟨h1, h2, h3, h4⟩
  · exact hv
  · obtain ⟨a, b, c⟩ := s
    obtain ⟨a', b', c'⟩ := s'
    dsimp only at h1 h2 h3 h4
    subst h1 h2
    exact ⟨hv.1, Int.le_trans h3 hv.2.1, Int.le_trans hv.2.2 h4⟩
/-- where a slot refers to -/
def refP (Q : Nat → Prop) (s : Nat × Int × Int) : Prop := match s with
  | (1, k, _) => Q k.toNat
  | (2, k, j) => Q k.toNat ∧ Q j.toNat
  | _ => True
theorem okV_ad {ad ad' : Nat → Nat} {s : Nat × Int × Int} {v : Value} (h : refP (fun k => ad' k = ad k) s) (hv : okV ad s v) : okV ad' s v := by
  obtain ⟨a, b, c⟩ := s
  match a with
  | 0 => exact hv
  | 1 =>
    have h : ad' b.toNat = ad b.toNat := h
    show v = .ref (ad' b.toNat)
    rw [h]
    exact hv
  | 2 =>
    have h : ad' b.toNat = ad b.toNat ∧ ad' c.toNat = ad c.toNat := h
    show v = .ref (ad' b.toNat) ∨ v = .ref (ad' c.toNat)
    rw [h.1, h.2]
    exact hv
  | 3 => trivial
  | 4 => exact hv
  | (n + 5) => trivial
theorem refP_m {Q Q' : Nat → Prop} {s : Nat × Int × Int} (h : refP Q s) (hq : ∀ k, Q k → Q' k) : refP Q' s := by
  obtain ⟨a, b, c⟩ := s
  match a with
  | 0 => trivial
  | 1 => exact hq _ h
  | 2 => exact ⟨hq _ h.1, hq _ h.2⟩
  | (n + 3) => trivial
def all2 : List (Nat × Int × Int) → List (Nat × Int × Int) → Prop
  | [], [] => True
  | a :: l, b :: l' => spLe a b ∧ all2 l l'
  | _, _ => False
theorem all2_getD : ∀ {l l' : List (Nat × Int × Int)}, all2 l l' → ∀ j, spLe (l.getD j (9, 0, 0)) (l'.getD j (9, 0, 0))
  | [], [], _, j => Or.inl rfl
  | _ :: _, _ :: _, h, 0 => h.1
  | _ :: _, _ :: _, h, j + 1 => by
    have := all2_getD h.2 j
    simpa using this
  | [], _ :: _, h, _ => h.elim
  | _ :: _, [], h, _ => h.elim
def allR (Q : Nat → Prop) : List (Nat × Int × Int) → Prop
  | [] => True
  | a :: l => refP Q a ∧ allR Q l
theorem allR_getD {Q : Nat → Prop} : ∀ {l : List (Nat × Int × Int)}, allR Q l → ∀ j, refP Q (l.getD j (9, 0, 0))
  | [], _, _ => trivial
  | _ :: _, h, 0 => h.1
  | _ :: l, h, j + 1 => by
    have := allR_getD h.2 j
    simpa using this

