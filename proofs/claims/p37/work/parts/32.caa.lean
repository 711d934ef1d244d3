

/-! ===== worlds by their members; worlds that grow ===== -/
theorem va_P_mem {D : va_G} {cl : List vw_C} {ws : va_W} {H : Heap} : va_P D cl ws H ↔ ∀ x ∈ ws, va_at D cl x H := by
  constructor
  · intro h x hx
    obtain ⟨k, hk⟩ := List.mem_iff_getElem?.mp hx
    exact h k x hk
  · intro h k q hk
    exact h q (List.mem_of_getElem? hk)
theorem va_P_sub {D : va_G} {cl : List vw_C} {ws ws' : va_W} {H : Heap} (h : va_P D cl ws H) (hs : ∀ x ∈ ws', x ∈ ws) : va_P D cl ws' H := va_P_mem.mpr fun x hx => va_P_mem.mp h x (hs x hx)
theorem va_D_iff {A : Nat → Prop} {ws : va_W} : va_D A ws ↔ (ws.map (fun q => q.1)).Nodup ∧ ∀ q ∈ ws, A q.1 := by
  constructor
  · intro h
    refine ⟨List.pairwise_iff_getElem.mpr fun i j hi hj hij e => ?_, fun q hq => ?_⟩
    · rw [List.length_map] at hi hj
      rw [List.getElem_map, List.getElem_map] at e
      have := h.1 i j _ _ (List.getElem?_eq_getElem hi) (List.getElem?_eq_getElem hj) e
      omega
    · obtain ⟨k, hk⟩ := List.mem_iff_getElem?.mp hq
      exact h.2 k q hk
  · intro h
    refine ⟨fun i j p q hi hj e => ?_, fun k q hk => h.2 q (List.mem_of_getElem? hk)⟩
    have hi2 : i < ws.length := (List.getElem?_eq_some_iff.mp hi).1
    have hj2 : j < ws.length := (List.getElem?_eq_some_iff.mp hj).1
    have hi3 : ws[i] = p := (List.getElem?_eq_some_iff.mp hi).2
    have hj3 : ws[j] = q := (List.getElem?_eq_some_iff.mp hj).2
    have key : ∀ a b : Nat, (ha : a < ws.length) → (hb : b < ws.length) → a < b → ws[a].1 ≠ ws[b].1 := fun a b ha hb hab => by
      have := List.pairwise_iff_getElem.mp h.1 a b (by rw [List.length_map]; exact ha) (by rw [List.length_map]; exact hb) hab
      rw [List.getElem_map, List.getElem_map] at this
      exact this
    rcases Nat.lt_trichotomy i j with q1 | q1 | q1
    · exact absurd (by rw [hi3, hj3]; exact e) (key i j hi2 hj2 q1)
    · exact q1
    · exact absurd (by rw [hi3, hj3]; exact e.symm) (key j i hj2 hi2 q1)
theorem va_D_perm {A : Nat → Prop} {ws ws' : va_W} (h : va_D A ws) (hp : ws'.Perm ws) : va_D A ws' := by
  rw [va_D_iff] at h ⊢
  exact ⟨(hp.map _).nodup_iff.mpr h.1, fun q hq => h.2 q (hp.mem_iff.mp hq)⟩
theorem va_P_perm {D : va_G} {cl : List vw_C} {ws ws' : va_W} {H : Heap} (h : va_P D cl ws H) (hp : ws'.Perm ws) : va_P D cl ws' H := va_P_sub h fun x hx => hp.mem_iff.mp hx
theorem WL_perm {L L' : List Nat} {ad : Nat → Nat} {E : Nat → va_E} (h : L.Perm L') : (WL L ad E).Perm (WL L' ad E) := h.map _
theorem WL_congr {L : List Nat} {ad ad' : Nat → Nat} {E E' : Nat → va_E} (h : ∀ k ∈ L, ad k = ad' k ∧ E k = E' k) : WL L ad E = WL L ad' E' := by
  apply List.map_congr_left
  intro k hk
  rw [(h k hk).1, (h k hk).2]
theorem WL_append {L L' : List Nat} {ad : Nat → Nat} {E : Nat → va_E} : WL (L ++ L') ad E = WL L ad E ++ WL L' ad E := List.map_append
theorem perm_mem {L L' : List Nat} (h1 : L.Nodup) (h2 : L'.Nodup) (h : ∀ x, x ∈ L ↔ x ∈ L') : L.Perm L' := (List.perm_ext_iff_of_nodup h1 h2).mpr h
theorem LC_cases {cf : Nat → Nat} {o : Nat} (h : o ∈ LC cf) : (fixB o = true ∧ o < 57) ∨ (13 ≤ o ∧ o < 19 ∧ 0 < cf (o - 13)) ∨ ∃ t i : Nat, t < 15 ∧ i < cf (kl t) ∧ o = 64 * (i + 1) + t := by
  have h2 := (List.mem_filter.mp h).2
  unfold lvC at h2
  by_cases q : o < 64
  · rw [blt_t q] at h2
    have h3 : (fixB o || (Nat.ble 13 o && Nat.blt o 19 && Nat.blt 0 (cf (o - 13)))) = true := h2
    rw [Bool.or_eq_true, Bool.and_eq_true, Bool.and_eq_true] at h3
    rcases h3 with h3 | ⟨⟨h4, h5⟩, h6⟩
    · left
      refine ⟨h3, ?_⟩
      unfold fixB at h3
      rw [Bool.or_eq_true, Bool.and_eq_true] at h3
      rcases h3 with h3 | h3
      · have := Nat.le_of_ble_eq_true h3; omega
      · have := Nat.le_of_ble_eq_true h3.2; omega
    · right; left
      exact ⟨Nat.le_of_ble_eq_true h4, Nat.le_of_ble_eq_true h5, Nat.le_of_ble_eq_true h6⟩
  · rw [blt_f (show 64 ≤ o by omega)] at h2
    have h3 : (Nat.blt (o % 64) 15 && Nat.blt (o / 64 - 1) (cf (kl (o % 64)))) = true := h2
    rw [Bool.and_eq_true] at h3
    right; right
    exact ⟨o % 64, o / 64 - 1, Nat.le_of_ble_eq_true h3.1, Nat.le_of_ble_eq_true h3.2, by omega⟩
theorem LC_mem {cf : Nat → Nat} (hC : ∀ j, j < 6 → cf j ≤ 300) {o : Nat} : o ∈ LC cf ↔ (fixB o = true ∧ o < 57) ∨ (13 ≤ o ∧ o < 19 ∧ 0 < cf (o - 13)) ∨ ∃ t i : Nat, t < 15 ∧ i < cf (kl t) ∧ o = 64 * (i + 1) + t := by
  constructor
  · exact LC_cases
  · rintro (h | h | ⟨t, i, h1, h2, rfl⟩)
    · exact mF o h.1
    · exact mD o h.1 h.2.1 h.2.2
    · refine mP t i h1 h2 (hC _ ?_)
      have : ∀ t : Nat, t < 15 → kl t < 6 := by decide
      exact this t h1
/-- a wider slot -/
def spLe (s s' : Nat × Int × Int) : Prop := s = s' ∨ (s.1 = 0 ∧ s'.1 = 0 ∧ s'.2.1 ≤ s.2.1 ∧ s.2.2 ≤ s'.2.2)
theorem okV_le {ad : Nat → Nat} {s s' : Nat × Int × Int} {v : Value} (h : spLe s s') (hv : okV ad s v) : okV ad s' v := by
  rcases h with rfl | ⟨h1, h2, h3, h4⟩
  · exact hv
  · obtain ⟨a, b, c⟩ := s
    obtain ⟨a', b', c'⟩ := s'
    dsimp only at h1 h2 h3 h4
    subst h1 h2
    exact ⟨hv.1, Int.le_trans h3 hv.2.1, Int.le_trans hv.2.2 h4⟩
/-- where a slot refers to -/
def refP (Q : Nat → Prop) (s : Nat × Int × Int) : Prop := match s with
  | (1, k, _) => Q k.toNat
  | (2, k, j) => Q k.toNat ∧ Q j.toNat
  | _ => True
theorem okV_ad {ad ad' : Nat → Nat} {s : Nat × Int × Int} {v : Value} (h : refP (fun k => ad' k = ad k) s) (hv : okV ad s v) : okV ad' s v := by
  obtain ⟨a, b, c⟩ := s
  match a with
  | 0 => exact hv
  | 1 =>
    have h : ad' b.toNat = ad b.toNat := h
    show v = .ref (ad' b.toNat)
    rw [h]
    exact hv
  | 2 =>
    have h : ad' b.toNat = ad b.toNat ∧ ad' c.toNat = ad c.toNat := h
    show v = .ref (ad' b.toNat) ∨ v = .ref (ad' c.toNat)
    rw [h.1, h.2]
    exact hv
  | 3 => trivial
  | 4 => exact hv
  | (n + 5) => trivial
theorem refP_m {Q Q' : Nat → Prop} {s : Nat × Int × Int} (h : refP Q s) (hq : ∀ k, Q k → Q' k) : refP Q' s := by
  obtain ⟨a, b, c⟩ := s
  match a with
  | 0 => trivial
  | 1 => exact hq _ h
  | 2 => exact ⟨hq _ h.1, hq _ h.2⟩
  | (n + 3) => trivial
def all2 : List (Nat × Int × Int) → List (Nat × Int × Int) → Prop
  | [], [] => True
  | a :: l, b :: l' => spLe a b ∧ all2 l l'
  | _, _ => False
theorem all2_getD : ∀ {l l' : List (Nat × Int × Int)}, all2 l l' → ∀ j, spLe (l.getD j (9, 0, 0)) (l'.getD j (9, 0, 0))
  | [], [], _, j => Or.inl rfl
  | _ :: _, _ :: _, h, 0 => h.1
  | _ :: _, _ :: _, h, j + 1 => by
    have := all2_getD h.2 j
    simpa using this
  | [], _ :: _, h, _ => h.elim
  | _ :: _, [], h, _ => h.elim
def allR (Q : Nat → Prop) : List (Nat × Int × Int) → Prop
  | [] => True
  | a :: l => refP Q a ∧ allR Q l
theorem allR_getD {Q : Nat → Prop} : ∀ {l : List (Nat × Int × Int)}, allR Q l → ∀ j, refP Q (l.getD j (9, 0, 0))
  | [], _, _ => trivial
  | _ :: _, h, 0 => h.1
  | _ :: l, h, j + 1 => by
    have := allR_getD h.2 j
    simpa using this
section
section GROW
variable {cf cf' : Nat → Nat}
theorem spO_le (h1 : cf 1 ≤ cf' 1) (h2 : cf 2 ≤ cf' 2) : ∀ o, o < 7 → ∀ j, spLe ((spO cf o).getD j (9, 0, 0)) ((spO cf' o).getD j (9, 0, 0)) := by
  intro o ho
  rcases (show o = 0 ∨ o = 1 ∨ o = 2 ∨ o = 3 ∨ o = 4 ∨ o = 5 ∨ o = 6 by omega) with rfl | rfl | rfl | rfl | rfl | rfl | rfl
  · exact all2_getD (by simp [all2, spLe, spO, spO0])
  · exact all2_getD (by simp [all2, spLe, spO, spO1])
  · exact all2_getD (by simp [all2, spLe, spO, spO2])
  · exact all2_getD (by simp [all2, spLe, spO, spO3])
  · exact all2_getD (by simp [all2, spLe, spO, spO4]; omega)
  · exact all2_getD (by simp [all2, spLe, spO, spO5])
  · exact all2_getD (by simp [all2, spLe, spO, spO6])
theorem spR_le (h2 : cf 2 ≤ cf' 2) : ∀ j, spLe ((spR cf).getD j (9, 0, 0)) ((spR cf').getD j (9, 0, 0)) := all2_getD (by simp [all2, spLe, spR]; omega)
theorem spO_ref {Q : Nat → Prop} (hQ : ∀ k, fixB k = true → Q k) : ∀ o, o < 7 → ∀ j, refP Q ((spO cf o).getD j (9, 0, 0)) := by
  intro o ho
  rcases (show o = 0 ∨ o = 1 ∨ o = 2 ∨ o = 3 ∨ o = 4 ∨ o = 5 ∨ o = 6 by omega) with rfl | rfl | rfl | rfl | rfl | rfl | rfl
  · exact allR_getD ⟨hQ _ rfl, hQ _ rfl, hQ _ rfl, hQ _ rfl, hQ _ rfl, hQ _ rfl, trivial⟩
  · exact allR_getD ⟨trivial, trivial, trivial, hQ _ rfl, hQ _ rfl, hQ _ rfl, hQ _ rfl, hQ _ rfl, hQ _ rfl, hQ _ rfl, hQ _ rfl, trivial⟩
  · exact allR_getD ⟨hQ _ rfl, trivial, trivial, trivial, hQ _ rfl, trivial, hQ _ rfl, hQ _ rfl, hQ _ rfl, trivial, trivial⟩
  · exact allR_getD ⟨hQ _ rfl, hQ _ rfl, hQ _ rfl, hQ _ rfl, hQ _ rfl, hQ _ rfl, trivial, trivial, trivial, trivial⟩
  · exact allR_getD ⟨hQ _ rfl, hQ _ rfl, trivial, hQ _ rfl, hQ _ rfl, hQ _ rfl, hQ _ rfl, hQ _ rfl, hQ _ rfl, hQ _ rfl, trivial⟩
  · exact allR_getD ⟨hQ _ rfl, hQ _ rfl, hQ _ rfl, hQ _ rfl, hQ _ rfl, hQ _ rfl, trivial, trivial, trivial, trivial, trivial⟩
  · exact allR_getD ⟨hQ _ rfl, hQ _ rfl, hQ _ rfl, hQ _ rfl, hQ _ rfl, hQ _ rfl, hQ _ rfl, hQ _ rfl, hQ _ rfl, hQ _ rfl, hQ _ rfl, hQ _ rfl, hQ _ rfl, hQ _ rfl, hQ _ rfl, trivial, trivial, hQ _ rfl, trivial⟩
theorem spR_ref {Q : Nat → Prop} : ∀ j, refP Q ((spR cf).getD j (9, 0, 0)) := allR_getD (by simp [allR, refP, spR])
end GROW
end
section
theorem shC_f {cf : Nat → Nat} {o : Nat} (h : fixB o = true) (h2 : o < 57) : shC cf o = shF.getD o (9, 0, 0) := by
  have h3 : ¬ (13 ≤ o ∧ o < 19) := by
    unfold fixB at h
    rw [Bool.or_eq_true, Bool.and_eq_true] at h
    rcases h with h | h
    · have := Nat.le_of_ble_eq_true h; omega
    · have := Nat.le_of_ble_eq_true h.1; omega
  unfold shC
  rw [blt_t (show o < 64 by omega)]
  show (bif (Nat.ble 13 o && Nat.blt o 19) then _ else _) = _
  have h4 : (Nat.ble 13 o && Nat.blt o 19) = false := by
    cases q : (Nat.ble 13 o && Nat.blt o 19) with
    | false => rfl
    | true =>
      rw [Bool.and_eq_true] at q
      exact absurd ⟨Nat.le_of_ble_eq_true q.1, Nat.le_of_ble_eq_true q.2⟩ h3
  rw [h4]
  rfl
theorem shC_d {cf : Nat → Nat} (j : Nat) (h : j < 6) : shC cf (13 + j) = (2, 3, cf j) := by
  unfold shC
  rw [blt_t (show 13 + j < 64 by omega), Nat.ble_eq_true_of_le (show 13 ≤ 13 + j by omega), blt_t (show 13 + j < 19 by omega), show 13 + j - 13 = j by omega]
  rfl
theorem spC_o {cf : Nat → Nat} {o : Nat} (h : o < 7) (j : Nat) : spC cf o j = (spO cf o).getD j (9, 0, 0) := by
  unfold spC
  rw [blt_t (show o < 64 by omega), blt_t h]
  rfl
theorem spC_a {cf : Nat → Nat} (k : Nat) (h : k < 6) (j : Nat) : spC cf (7 + k) j = (spA cf k).getD j (9, 0, 0) := by
  unfold spC
  rw [blt_t (show 7 + k < 64 by omega), blt_f (show 7 ≤ 7 + k by omega), blt_t (show 7 + k < 13 by omega), show 7 + k - 7 = k by omega]
  rfl
theorem spC_d {cf : Nat → Nat} (k : Nat) (h : k < 6) (j : Nat) : spC cf (13 + k) j = (1, ((64 * (j + 1) + lkd k : Nat) : Int), 0) := by
  unfold spC
  rw [blt_t (show 13 + k < 64 by omega), blt_f (show 7 ≤ 13 + k by omega), blt_f (show 13 ≤ 13 + k by omega), blt_t (show 13 + k < 19 by omega), show 13 + k - 13 = k by omega]
  rfl
theorem spC_r {cf : Nat → Nat} {o : Nat} (h1 : 19 ≤ o) (h2 : o < 57) (j : Nat) : spC cf o j = (spR cf).getD o (9, 0, 0) := by
  unfold spC
  rw [blt_t (show o < 64 by omega), blt_f (show 7 ≤ o by omega), blt_f (show 13 ≤ o by omega), blt_f h1]
  rfl
end
section
theorem kl_lkd : ∀ j : Nat, j < 6 → kl (lkd j) = j ∧ lkd j < 15 := by decide
theorem kl_lt : ∀ t : Nat, t < 15 → kl t < 6 := by decide
/-- how the numbers grow when one more comes to list J -/
def Grown (J : Nat) (cf cf' : Nat → Nat) : Prop := cf' J = cf J + 1 ∧ (∀ j, j < 6 → j ≠ J → cf' j = cf j) ∧ cf' 6 = cf 6 ∧ ∀ i : Nat, (J = 1 → i ≠ cf 1) → cf' (8 + 2 * i) = cf (8 + 2 * i) ∧ cf' (9 + 2 * i) = cf (9 + 2 * i)
section GROW2
variable {cT : Nat → ClassId} {cf cf' : Nat → Nat} {J : Nat} {ad ad' : Nat → Nat} {E E' : Nat → va_E}
theorem Grown.le (hG : Grown J cf cf') (j : Nat) (hj : j < 6) : cf j ≤ cf' j := by
  by_cases e : j = J
  · subst e
    have := hG.1
    omega
  · rw [hG.2.1 j hj e]
    exact Nat.le_refl _
theorem shP_eq (hG : Grown J cf cf') (hJ : J < 6) {t i : Nat} (ht : t < 15) (hi : i < cf (kl t)) : shP cf' t i = shP cf t i := by
  rcases (show t = 0 ∨ t = 1 ∨ t = 2 ∨ t = 3 ∨ t = 4 ∨ t = 5 ∨ t = 6 ∨ t = 7 ∨ t = 8 ∨ t = 9 ∨ t = 10 ∨ t = 11 ∨ t = 12 ∨ t = 13 ∨ t = 14 by omega) with rfl | rfl | rfl | rfl | rfl | rfl | rfl | rfl | rfl | rfl | rfl | rfl | rfl | rfl | rfl
  all_goals first
    | rfl
    | (have h1 : i < cf 1 := hi
       have h2 := hG.2.2.2 i (fun e h => by omega)
       simp [shP, h2.1, h2.2])
theorem spP_le (hG : Grown J cf cf') (hJ : J < 6) {t i : Nat} (ht : t < 15) (hi : i < cf (kl t)) (j : Nat) : spLe (spP cf t i j) (spP cf' t i j) := by
  have h2 := hG.le 2 (by omega)
  rcases (show t = 0 ∨ t = 1 ∨ t = 2 ∨ t = 3 ∨ t = 4 ∨ t = 5 ∨ t = 6 ∨ t = 7 ∨ t = 8 ∨ t = 9 ∨ t = 10 ∨ t = 11 ∨ t = 12 ∨ t = 13 ∨ t = 14 by omega) with rfl | rfl | rfl | rfl | rfl | rfl | rfl | rfl | rfl | rfl | rfl | rfl | rfl | rfl | rfl
  all_goals first
    | exact Or.inl rfl
    | (have h1 : i < cf 1 := hi
       have h3 := hG.2.2.2 i (fun e h => by omega)
       left
       simp [spP, h3.1, h3.2])
    | exact all2_getD (by simp [all2, spLe]; omega) j
theorem spP_ref {Q : Nat → Prop} {t i : Nat} (ht : t < 15) (hQ : ∀ t', t' < 15 → kl t' = kl t → Q (64 * (i + 1) + t')) (j : Nat) : refP Q (spP cf t i j) := by
  rcases (show t = 0 ∨ t = 1 ∨ t = 2 ∨ t = 3 ∨ t = 4 ∨ t = 5 ∨ t = 6 ∨ t = 7 ∨ t = 8 ∨ t = 9 ∨ t = 10 ∨ t = 11 ∨ t = 12 ∨ t = 13 ∨ t = 14 by omega) with rfl | rfl | rfl | rfl | rfl | rfl | rfl | rfl | rfl | rfl | rfl | rfl | rfl | rfl | rfl
  · exact allR_getD (by simp [allR, refP]) j
  · exact allR_getD (by exact ⟨trivial, trivial, hQ 2 (by omega) rfl, hQ 3 (by omega) rfl, hQ 4 (by omega) rfl, hQ 5 (by omega) rfl, trivial⟩) j
  · trivial
  · trivial
  · trivial
  · trivial
  · exact allR_getD (by exact ⟨trivial, trivial, trivial, trivial, trivial, trivial, trivial, hQ 7 (by omega) rfl, hQ 8 (by omega) rfl, hQ 9 (by omega) rfl, hQ 10 (by omega) rfl, hQ 11 (by omega) rfl, trivial⟩) j
  · trivial
  · trivial
  · trivial
  · trivial
  · trivial
  · exact allR_getD (by simp [allR, refP]) j
  · exact allR_getD (by simp [allR, refP]) j
  · exact allR_getD (by simp [allR, refP]) j
/-- one more comes to list J -/
theorem IX_grow (hI : IXL cT (shC cf) (spC cf) (LC cf) ad E) (hC : CF cf) (hJ : J < 6) (hG : Grown J cf cf') (had : ∀ o, o ∈ LC cf → o ≠ 13 + J → ad' o = ad o) (hE : ∀ o, o ∈ LC cf → o ≠ 7 + J → o ≠ 13 + J → E' o = E o)
    (hl : ∃ m : Int32, E' (7 + J) = .inr (0, [.int m, .ref (ad' (13 + J)), .int (nI (cf J + 1))])) (hd : ∃ (cap : Nat) (f : Nat → Option Nat), cf J + 1 ≤ cap ∧ cap ≤ 2 * (cf J + 1) + 10 ∧ E' (13 + J) = .inl (cT 3, cap, .inr (.inr (.inr (.inr f)))) ∧ ∀ j, j < cf J + 1 → va_rf (f j) = .ref (ad' (64 * (j + 1) + lkd J)))
    (hn : ∀ t, t < 15 → kl t = J → okS cT (shP cf' t (cf J)) (E' (64 * (cf J + 1) + t)) ∧ ∀ j, j < (shP cf' t (cf J)).2.2 → okV ad' (spP cf' t (cf J) j) (xv (E' (64 * (cf J + 1) + t)) j)) : IXL cT (shC cf') (spC cf') (LC cf') ad' E' := by
  have hb : ∀ j, j < 6 → cf j ≤ 300 := fun j hj => kl_le hC j hj
  have hJb := hb J hJ
  refine ⟨LC_nd cf', fun o ho => ?_⟩
  rcases LC_cases ho with ⟨h1, h2⟩ | ⟨h1, h2, h3⟩ | ⟨t, i, h1, h2, rfl⟩
  · have hm : o ∈ LC cf := mF o h1
    have h13 : o ≠ 13 + J := by
      unfold fixB at h1
      rw [Bool.or_eq_true, Bool.and_eq_true] at h1
      rcases h1 with h1 | h1
      · have := Nat.le_of_ble_eq_true h1; omega
      · have := Nat.le_of_ble_eq_true h1.1; omega
    by_cases e7 : o = 7 + J
    · subst e7
      obtain ⟨m, hl⟩ := hl
      have hs : shC cf' (7 + J) = (0, 0, 3) := by
        rw [shC_f h1 h2]
        rcases (show J = 0 ∨ J = 1 ∨ J = 2 ∨ J = 3 ∨ J = 4 ∨ J = 5 by omega) with rfl | rfl | rfl | rfl | rfl | rfl <;> rfl
      rw [hs, hl]
      refine ⟨rfl, fun j hj => ?_⟩
      have hj : j < 3 := hj
      rw [spC_a J hJ]
      rcases (show j = 0 ∨ j = 1 ∨ j = 2 by omega) with rfl | rfl | rfl
      · exact ⟨rfl, iv_all m⟩
      · show okV ad' (bif Nat.blt 0 (cf' J) then (1, ((13 + J : Nat) : Int), 0) else _) _
        rw [blt_t (show 0 < cf' J by rw [hG.1]; omega)]
        rfl
      · show okV ad' (0, ((cf' J : Nat) : Int), ((cf' J : Nat) : Int)) (.int (nI (cf J + 1)))
        refine ⟨rfl, ?_⟩
        show ((cf' J : Nat) : Int) ≤ (nI (cf J + 1)).toInt ∧ _
        have : (vi (.int (nI (cf J + 1)))).toInt = ((cf J + 1 : Nat) : Int) := nI_toInt (by omega)
        rw [hG.1]
        show _ ∧ (nI (cf J + 1)).toInt ≤ _
        rw [show (nI (cf J + 1)).toInt = ((cf J + 1 : Nat) : Int) from nI_toInt (by omega)]
        exact ⟨Int.le_refl _, Int.le_refl _⟩
    · have h0 := hI.2 o hm
      rw [hE o hm e7 h13]
      rw [shC_f h1 h2] at h0 ⊢
      refine ⟨h0.1, fun j hj => ?_⟩
      have h5 := h0.2 j hj
      rcases (show o < 7 ∨ (7 ≤ o ∧ o < 13) ∨ (13 ≤ o ∧ o < 19) ∨ 19 ≤ o by omega) with q | q | q | q
      · rw [spC_o q] at h5 ⊢
        exact okV_le (spO_le (hG.le 1 (by omega)) (hG.le 2 (by omega)) o q j) (okV_ad (spO_ref (fun k hk => had k (mF k hk) (by
          unfold fixB at hk
          rw [Bool.or_eq_true, Bool.and_eq_true] at hk
          rcases hk with hk | hk
          · have := Nat.le_of_ble_eq_true hk; omega
          · have := Nat.le_of_ble_eq_true hk.1; omega)) o q j) h5)
      · obtain ⟨k, rfl⟩ : ∃ k, o = 7 + k := ⟨o - 7, by omega⟩
        have hk : k < 6 := by omega
        have ek := hG.2.1 k hk (by omega)
        rw [spC_a k hk] at h5 ⊢
        have es : spA cf' k = spA cf k := by simp [spA, ek, hG.2.2.1]
        rw [es]
        refine okV_ad ?_ h5
        by_cases z : 0 < cf k
        · exact allR_getD (l := spA cf k) (by
            unfold spA
            rw [blt_t z]
            exact ⟨trivial, had (13 + k) (mD (13 + k) (by omega) (by omega) (by rw [show 13 + k - 13 = k by omega]; exact z)) (by omega), trivial, trivial⟩) j
        · exact allR_getD (l := spA cf k) (by
            unfold spA
            rw [blt_f (show cf k ≤ 0 by omega)]
            exact ⟨trivial, trivial, trivial, trivial⟩) j
      · exfalso
        unfold fixB at h1
        rw [Bool.or_eq_true, Bool.and_eq_true] at h1
        rcases h1 with h1 | h1
        · have := Nat.le_of_ble_eq_true h1; omega
        · have := Nat.le_of_ble_eq_true h1.1; omega
      · rw [spC_r q h2] at h5 ⊢
        exact okV_le (spR_le (hG.le 2 (by omega)) o) (okV_ad (spR_ref o) h5)
  · obtain ⟨k, rfl⟩ : ∃ k, o = 13 + k := ⟨o - 13, by omega⟩
    have hk : k < 6 := by omega
    by_cases e : k = J
    · subst e
      obtain ⟨cap, f, q1, q2, q3, q4⟩ := hd
      rw [shC_d k hk, q3]
      refine ⟨⟨cap, f, by rw [hG.1]; exact q1, by rw [hG.1]; exact q2, rfl⟩, fun j hj => ?_⟩
      have hj : j < cf' k := hj
      rw [spC_d k hk]
      exact q4 j (by rw [hG.1] at hj; exact hj)
    · have ek := hG.2.1 k hk e
      have h3 : 0 < cf' k := by rw [show 13 + k - 13 = k by omega] at h3; exact h3
      have hm : 13 + k ∈ LC cf := mD (13 + k) (by omega) (by omega) (by rw [show 13 + k - 13 = k by omega, ← ek]; exact h3)
      have h0 := hI.2 _ hm
      rw [hE _ hm (by omega) (by omega), shC_d k hk, ek]
      rw [shC_d k hk] at h0
      refine ⟨h0.1, fun j hj => ?_⟩
      have h5 := h0.2 j hj
      have hj : j < cf k := hj
      rw [spC_d k hk] at h5 ⊢
      have hkl := kl_lkd k hk
      exact okV_ad (had (64 * (j + 1) + lkd k) (mP (lkd k) j hkl.2 (by rw [hkl.1]; exact hj) (by rw [hkl.1]; exact hb k hk)) (by omega)) h5
  · by_cases e : kl t = J ∧ i = cf J
    · obtain ⟨e1, rfl⟩ := e
      have h0 := hn t h1 e1
      rw [shC_p t _ (by omega)]
      exact ⟨h0.1, fun j hj => by rw [spC_p t _ (by omega)]; exact h0.2 j hj⟩
    · have hkt := kl_lt t h1
      have hi : i < cf (kl t) := by
        by_cases e2 : kl t = J
        · rw [e2, hG.1] at h2
          rw [e2]
          have : ¬ i = cf J := fun h => e ⟨e2, h⟩
          omega
        · rw [hG.2.1 _ hkt e2] at h2
          exact h2
      have hm : 64 * (i + 1) + t ∈ LC cf := mP t i h1 hi (hb _ hkt)
      have h0 := hI.2 _ hm
      rw [hE _ hm (by omega) (by omega), shC_p t i (by omega), shP_eq hG hJ h1 hi]
      rw [shC_p t i (by omega)] at h0
      refine ⟨h0.1, fun j hj => ?_⟩
      have h5 := h0.2 j hj
      rw [spC_p t i (by omega)] at h5 ⊢
      exact okV_le (spP_le hG hJ h1 hi j) (okV_ad (spP_ref h1 (fun t' ht' e' => had _ (mP t' i ht' (by rw [e']; exact hi) (by rw [e']; exact hb _ hkt)) (by omega)) j) h5)
/-- the members when one more comes -/
theorem LC_grow (hC : CF cf) (hJ : J < 6) (hG : Grown J cf cf') {L : List Nat} (hL : L.Nodup) (hm : ∀ x, x ∈ L ↔ x ∈ LC cf ∨ x = 13 + J ∨ ∃ t, t < 15 ∧ kl t = J ∧ x = 64 * (cf J + 1) + t) (hJ2 : cf J < 300) : L.Perm (LC cf') := by
  have hb : ∀ j, j < 6 → cf j ≤ 300 := fun j hj => kl_le hC j hj
  have hb' : ∀ j, j < 6 → cf' j ≤ 300 := by
    intro j hj
    by_cases e : j = J
    · subst e
      have := hG.1
      omega
    · rw [hG.2.1 j hj e]
      exact hb j hj
  refine perm_mem hL (LC_nd cf') fun x => ?_
  rw [hm, LC_mem hb, LC_mem hb']
  constructor
  · rintro ((h | ⟨h1, h2, h3⟩ | ⟨t, i, h1, h2, h3⟩) | h | ⟨t, h1, h2, h3⟩)
    · exact Or.inl h
    · exact Or.inr (Or.inl ⟨h1, h2, Nat.lt_of_lt_of_le h3 (hG.le _ (by omega))⟩)
    · exact Or.inr (Or.inr ⟨t, i, h1, Nat.lt_of_lt_of_le h2 (hG.le _ (kl_lt t h1)), h3⟩)
    · exact Or.inr (Or.inl ⟨by omega, by omega, by rw [show x - 13 = J by omega, hG.1]; omega⟩)
    · exact Or.inr (Or.inr ⟨t, cf J, h1, by rw [h2, hG.1]; omega, h3⟩)
  · rintro (h | ⟨h1, h2, h3⟩ | ⟨t, i, h1, h2, h3⟩)
    · exact Or.inl (Or.inl h)
    · by_cases e : x = 13 + J
      · exact Or.inr (Or.inl e)
      · refine Or.inl (Or.inr (Or.inl ⟨h1, h2, ?_⟩))
        rw [hG.2.1 (x - 13) (by omega) (by omega)] at h3
        exact h3
    · by_cases e : kl t = J ∧ i = cf J
      · exact Or.inr (Or.inr ⟨t, h1, e.1, by rw [h3, e.2]⟩)
      · refine Or.inl (Or.inr (Or.inr ⟨t, i, h1, ?_, h3⟩))
        by_cases e2 : kl t = J
        · rw [e2, hG.1] at h2
          rw [e2]
          have : ¬ i = cf J := fun h => e ⟨e2, h⟩
          omega
        · rw [hG.2.1 _ (kl_lt t h1) e2] at h2
          exact h2
end GROW2
end

