

theorem Met.of {l : Launch} {y : MethodName} {ws : List Cond} {rm : Room} {Pc : Array Value → State → Prop} {Qc : Array Value → State → Outcome → State → Prop} {mc ms : Nat} {free : Addr → Prop} (h : ∀ a s, Pc a s → ∃ (Pc' : Array Value → State → Prop) (Qc' : Array Value → State → Outcome → State → Prop) (free' : Addr → Prop), Met l y ws rm Pc' Qc' mc ms free' ∧ Pc' a s ∧ (∀ o t, Qc' a s o t → Qc a s o t) ∧ ∀ q, free' q → free q) : Met l y ws rm Pc Qc mc ms free := by
  intro p e ha hc hk s m args below hf happ hP hK
  obtain ⟨Pc', Qc', free', hM, h1, h2, h3⟩ := h args s hP
  obtain ⟨n, o, q1, q2, q3, q4, L, q5, q6⟩ := hM p e ha hc hk s m args below hf happ h1 hK
  exact ⟨n, o, q1, q2, q3, h2 _ _ q4, L, q5, fun q hq => h3 _ (q6 q hq)⟩
theorem va_D_left {A : Nat → Prop} {w1 w2 : va_W} (h : va_D A (w1 ++ w2)) : va_D A w1 := by
  rw [va_D_iff] at h ⊢
  rw [List.map_append] at h
  exact ⟨(List.nodup_append.mp h.1).1, fun q hq => h.2 q (List.mem_append_left _ hq)⟩
theorem va_D_out {A : Nat → Prop} {w1 w2 : va_W} (h : va_D A (w1 ++ w2)) : ∀ x ∈ w1, ∀ y ∈ w2, x.1 ≠ y.1 := by
  rw [va_D_iff, List.map_append] at h
  intro x hx y hy
  exact (List.nodup_append.mp h.1).2.2 _ (List.mem_map_of_mem hx) _ (List.mem_map_of_mem hy)
section ADDW
variable {cT : Nat → ClassId} {cf cf' : Nat → Nat} {J : Nat} {ad : Nat → Nat} {E : Nat → va_E}
/-- what the list's object holds -/
theorem list_cell (hI : IXL cT (shC cf) (spC cf) (LC cf) ad E) (hC : CF cf) (hJ : J < 6) : ∃ m : Int32, E (7 + J) = .inr (0, [.int m, .ref (if 0 < cf J then ad (13 + J) else cf 6), .int (nI (cf J))]) := by
  have hf : fixB (7 + J) = true := by
    rcases (show J = 0 ∨ J = 1 ∨ J = 2 ∨ J = 3 ∨ J = 4 ∨ J = 5 by omega) with rfl | rfl | rfl | rfl | rfl | rfl <;> rfl
  have hs : shC cf (7 + J) = (0, 0, 3) := by
    rw [shC_f hf (by omega)]
    rcases (show J = 0 ∨ J = 1 ∨ J = 2 ∨ J = 3 ∨ J = 4 ∨ J = 5 by omega) with rfl | rfl | rfl | rfl | rfl | rfl <;> rfl
  have h0 := hI.2 (7 + J) (mF _ hf)
  rw [hs] at h0
  have h1 := h0.2 0 (show 0 < 3 by omega)
  have h2 := h0.2 1 (show 1 < 3 by omega)
  have h3 := h0.2 2 (show 2 < 3 by omega)
  rw [spC_a J hJ] at h1 h2 h3
  obtain ⟨m, e1⟩ : ∃ m : Int32, xv (E (7 + J)) 0 = .int m := ⟨_, h1.1⟩
  have e2 : xv (E (7 + J)) 1 = .ref (if 0 < cf J then ad (13 + J) else cf 6) := by
    by_cases z : 0 < cf J
    · rw [if_pos z]
      have h2 : okV ad (bif Nat.blt 0 (cf J) then (1, ((13 + J : Nat) : Int), 0) else (4, ((cf 6 : Nat) : Int), 0)) (xv (E (7 + J)) 1) := h2
      rw [blt_t z] at h2
      exact h2
    · rw [if_neg z]
      have h2 : okV ad (bif Nat.blt 0 (cf J) then (1, ((13 + J : Nat) : Int), 0) else (4, ((cf 6 : Nat) : Int), 0)) (xv (E (7 + J)) 1) := h2
      rw [blt_f (show cf J ≤ 0 by omega)] at h2
      exact h2
  have e3 : xv (E (7 + J)) 2 = .int (nI (cf J)) := by
    have h3 : xv (E (7 + J)) 2 = .int (vi (xv (E (7 + J)) 2)) ∧ ((cf J : Nat) : Int) ≤ (vi (xv (E (7 + J)) 2)).toInt ∧ (vi (xv (E (7 + J)) 2)).toInt ≤ ((cf J : Nat) : Int) := h3
    rw [h3.1]
    congr 1
    apply Int32.toInt_inj.mp
    rw [nI_toInt (by have := kl_le hC J hJ; omega)]
    omega
  refine ⟨m, h0.1.trans ?_⟩
  show (Sum.inr (0, [xv (E (7 + J)) 0, xv (E (7 + J)) 1, xv (E (7 + J)) 2]) : va_E) = _
  rw [e1, e2, e3]
/-- the members but the list's own -/
def RLs (cf : Nat → Nat) (J : Nat) (K : List Nat) (k0 : Nat) : List Nat := K.erase k0 ++ (LC cf).filter (fun x => x != 7 + J && x != 13 + J)
theorem RLs_mem {K : List Nat} {k0 : Nat} (hK : K.Nodup) {x : Nat} : x ∈ RLs cf J K k0 ↔ (x ∈ K ∧ x ≠ k0) ∨ (x ∈ LC cf ∧ x ≠ 7 + J ∧ x ≠ 13 + J) := by
  unfold RLs
  rw [List.mem_append, List.mem_filter, hK.mem_erase_iff]
  constructor
  · rintro (h | ⟨h1, h2⟩)
    · exact Or.inl ⟨h.2, h.1⟩
    · rw [Bool.and_eq_true] at h2
      exact Or.inr ⟨h1, by simpa using h2.1, by simpa using h2.2⟩
  · rintro (h | ⟨h1, h2, h3⟩)
    · exact Or.inl ⟨h.2, h.1⟩
    · exact Or.inr ⟨h1, by simp [h2, h3]⟩
theorem RLs_nd {K : List Nat} {k0 : Nat} (hK : K.Nodup) (hd : ∀ x ∈ K, x ∉ LC cf) : (RLs cf J K k0).Nodup := by
  unfold RLs
  refine List.nodup_append.mpr ⟨hK.erase _, List.Pairwise.sublist List.filter_sublist (LC_nd cf), fun a ha b hb e => ?_⟩
  subst e
  exact hd a (List.mem_of_mem_erase ha) (List.mem_filter.mp hb).1
end ADDW

