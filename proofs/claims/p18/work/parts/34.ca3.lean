

/-- the world of a maker: new cells K ahead of all others -/
def HWK (dC : Nat → ClassId) (dI : Nat → Nat → Nat) (tys : List (ClassId × FieldType)) (cf : Nat → Nat) (K : List Nat) (ad : Nat → Nat) (E : Nat → va_E) (sz : Nat) : State → Prop := fun U => U.heap.size = sz ∧ va_P (dC, dI) vwCl (WL (K ++ LC cf) ad E) U.heap ∧ va_K (dC, dI) vwCl tys U ∧ va_D (fun _ => True) (WL (K ++ LC cf) ad E) ∧ EVC (cf 6) (va_A (WL (K ++ LC cf) ad E) sz) U U.heap
section ADDF
variable {dC : Nat → ClassId} {dI : Nat → Nat → Nat} {cT : Nat → ClassId} {cf cf' : Nat → Nat} {J : Nat} {ad : Nat → Nat} {E : Nat → va_E} {K : List Nat} {ci : Nat} {vs : List Value}
theorem K_out (hJ : J < 6) (hKm : ∀ x, x ∈ K ↔ ∃ t, t < 15 ∧ kl t = J ∧ x = 64 * (cf J + 1) + t) : ∀ x ∈ K, x ∉ LC cf := by
  intro x hx h
  obtain ⟨t, h1, h2, rfl⟩ := (hKm x).mp hx
  rcases LC_cases h with ⟨-, h3⟩ | ⟨h3, h4, -⟩ | ⟨t', i, h3, h4, h5⟩
  · omega
  · omega
  · have e1 : t' = t := by omega
    have e2 : i = cf J := by omega
    subst e1 e2
    rw [h2] at h4
    omega
/-- behind add: the world by its new numbers -/
theorem add_fin (hC : CF cf) (hJ : J < 6) (hG : Grown J cf cf') (hmx : cf J < 300) (hK : K.Nodup) (hKm : ∀ x, x ∈ K ↔ ∃ t, t < 15 ∧ kl t = J ∧ x = 64 * (cf J + 1) + t) (hobj : E (64 * (cf J + 1) + lkd J) = .inr (ci, vs)) (hI : IXL cT (shC cf) (spC cf) (LC cf) ad E)
    (hn : ∀ t, t < 15 → kl t = J → okS cT (shP cf' t (cf J)) (E (64 * (cf J + 1) + t)) ∧ ∀ j, j < (shP cf' t (cf J)).2.2 → okV ad (spP cf' t (cf J) j) (xv (E (64 * (cf J + 1) + t)) j))
    {s t : State} {X : va_W} {isC : List Nat} (hisC : isC.map (fun i => X[i]?) = X.map some) (hX : ∀ x ∈ X, x ∈ WL (K ++ LC cf) ad E) (hP2 : va_P (dC, dI) vwCl (X ++ WL (RLs cf J K (64 * (cf J + 1) + lkd J)) ad E) s.heap) (hD2 : va_D (fun _ => True) (X ++ WL (RLs cf J K (64 * (cf J + 1) + lkd J)) ad E))
    {d' cap' : Nat} {f' : Nat → Option Nat} {m' : Int32} (b1 : cf J + 1 ≤ cap') (b2 : cap' ≤ 2 * (cf J + 1) + 10) (b3 : ∀ j, j < cf J → va_rf (f' j) = .ref (ad (64 * (j + 1) + lkd J))) (b4 : f' (cf J) = some (ad (64 * (cf J + 1) + lkd J)))
    (hP1 : va_P (dC, dI) vwCl [(ad (7 + J), .inr (0, [.int m', .ref d', .int (nI (cf J + 1))])), (d', .inl (cT 3, cap', .inr (.inr (.inr (.inr f'))))), (ad (64 * (cf J + 1) + lkd J), .inr (ci, vs))] t.heap) (hD1 : va_D (va_A X s.heap.size) [(ad (7 + J), .inr (0, [.int m', .ref d', .int (nI (cf J + 1))])), (d', .inl (cT 3, cap', .inr (.inr (.inr (.inr f'))))), (ad (64 * (cf J + 1) + lkd J), .inr (ci, vs))]) (hF : va_F (va_A X s.heap.size) s t) :
    ∃ u : (Nat → Nat) × (Nat → va_E), (IXL cT (shC cf') (spC cf') (LC cf') u.1 u.2 ∧ (∀ o, o ≠ 13 + J → u.1 o = ad o) ∧ ∀ o, o ≠ 7 + J → o ≠ 13 + J → u.2 o = E o) ∧ va_P (dC, dI) vwCl (WL (LC cf') u.1 u.2) t.heap ∧ va_D (va_A (WL (K ++ LC cf) ad E) s.heap.size) (WL (LC cf') u.1 u.2) := by
  have hb : ∀ j, j < 6 → cf j ≤ 300 := fun j hj => kl_le hC j hj
  have hkl := kl_lkd J hJ
  have hk0 : 64 * (cf J + 1) + lkd J ∈ K := (hKm _).mpr ⟨lkd J, hkl.2, hkl.1, rfl⟩
  have hKd := K_out hJ hKm
  have hK7 : ∀ x ∈ K, 64 ≤ x := fun x hx => by
    obtain ⟨t, -, -, rfl⟩ := (hKm x).mp hx
    omega
  have hXA : ∀ q, va_A X s.heap.size q → va_A (WL (K ++ LC cf) ad E) s.heap.size q := by
    rintro q (⟨k, e, hk⟩ | h)
    · have := hX _ (List.mem_of_getElem? hk)
      obtain ⟨i, hi⟩ := List.mem_iff_getElem?.mp this
      exact Or.inl ⟨i, e, hi⟩
    · exact Or.inr h
  have hRA : ∀ x ∈ WL (RLs cf J K (64 * (cf J + 1) + lkd J)) ad E, va_A (WL (K ++ LC cf) ad E) s.heap.size x.1 := by
    intro x hx
    obtain ⟨k, hk, rfl⟩ := List.mem_map.mp hx
    refine WL_A.mpr (Or.inl ⟨k, ?_, rfl⟩)
    rcases (RLs_mem hK).mp hk with h | h
    · exact List.mem_append_left _ h.1
    · exact List.mem_append_right _ h.1
  have hD2A : va_D (va_A (WL (K ++ LC cf) ad E) s.heap.size) (X ++ WL (RLs cf J K (64 * (cf J + 1) + lkd J)) ad E) := by
    rw [va_D_iff] at hD2 ⊢
    refine ⟨hD2.1, fun q hq => ?_⟩
    rcases List.mem_append.mp hq with h | h
    · obtain ⟨i, hi⟩ := List.mem_iff_getElem?.mp (hX q h)
      exact Or.inl ⟨i, q.2, hi⟩
    · exact hRA q h
  obtain ⟨hP3, hD3⟩ := va_joinQ (wr := []) hP2 hD2A isC [] hisC rfl rfl (fun _ h => nomatch h) (fun q h1 h2 => hF.2 q h1 h2) hXA hP1 hD1
  obtain ⟨L3, hL3⟩ : ∃ L3, L3 = (7 + J) :: (13 + J) :: (64 * (cf J + 1) + lkd J) :: RLs cf J K (64 * (cf J + 1) + lkd J) := ⟨_, rfl⟩
  have h13 : ∀ x, x ∈ RLs cf J K (64 * (cf J + 1) + lkd J) → x ≠ 7 + J ∧ x ≠ 13 + J ∧ x ≠ 64 * (cf J + 1) + lkd J := by
    intro x hx
    rcases (RLs_mem hK).mp hx with ⟨h1, h2⟩ | ⟨h1, h2, h3⟩
    · have := hK7 x h1
      exact ⟨by omega, by omega, h2⟩
    · exact ⟨h2, h3, fun e => hKd _ hk0 (e ▸ h1)⟩
  have hL3n : L3.Nodup := by
    rw [hL3]
    refine List.nodup_cons.mpr ⟨fun h => ?_, List.nodup_cons.mpr ⟨fun h => ?_, List.nodup_cons.mpr ⟨fun h => (h13 _ h).2.2 rfl, RLs_nd hK hKd⟩⟩⟩
    · rcases List.mem_cons.mp h with h | h
      · omega
      · rcases List.mem_cons.mp h with h | h
        · omega
        · exact (h13 _ h).1 rfl
    · rcases List.mem_cons.mp h with h | h
      · omega
      · exact (h13 _ h).2.1 rfl
  have hf7 : (7 + J) ∈ LC cf := mF _ (by rcases (show J = 0 ∨ J = 1 ∨ J = 2 ∨ J = 3 ∨ J = 4 ∨ J = 5 by omega) with rfl | rfl | rfl | rfl | rfl | rfl <;> rfl)
  have hp : L3.Perm (LC cf') := by
    refine LC_grow hC hJ hG hL3n (fun x => ?_) hmx
    rw [hL3]
    simp only [List.mem_cons, RLs_mem hK]
    constructor
    · rintro (h | h | h | ⟨h1, h2⟩ | ⟨h1, h2, h3⟩)
      · exact Or.inl (h ▸ hf7)
      · exact Or.inr (Or.inl h)
      · exact Or.inr (Or.inr ((hKm x).mp (h ▸ hk0)))
      · exact Or.inr (Or.inr ((hKm x).mp h1))
      · exact Or.inl h1
    · rintro (h | h | h)
      · by_cases e1 : x = 7 + J
        · exact Or.inl e1
        · by_cases e2 : x = 13 + J
          · exact Or.inr (Or.inl e2)
          · exact Or.inr (Or.inr (Or.inr (Or.inr ⟨h, e1, e2⟩)))
      · exact Or.inr (Or.inl h)
      · have hxK := (hKm x).mpr h
        by_cases e : x = 64 * (cf J + 1) + lkd J
        · exact Or.inr (Or.inr (Or.inl e))
        · exact Or.inr (Or.inr (Or.inr (Or.inl ⟨hxK, e⟩)))
  obtain ⟨ad', had'⟩ : ∃ ad', ad' = va_up ad (13 + J) d' := ⟨_, rfl⟩
  obtain ⟨E', hE'⟩ : ∃ E', E' = va_up (va_up E (7 + J) (.inr (0, [.int m', .ref d', .int (nI (cf J + 1))]))) (13 + J) (.inl (cT 3, cap', .inr (.inr (.inr (.inr f'))))) := ⟨_, rfl⟩
  have a1 : ∀ o, o ≠ 13 + J → ad' o = ad o := fun o h => by rw [had']; exact va_up_ne _ _ h
  have a2 : ad' (13 + J) = d' := by rw [had']; exact va_up_self _ _ _
  have e1 : ∀ o, o ≠ 7 + J → o ≠ 13 + J → E' o = E o := fun o h1 h2 => by rw [hE', va_up_ne _ _ h2, va_up_ne _ _ h1]
  have e2 : E' (13 + J) = .inl (cT 3, cap', .inr (.inr (.inr (.inr f')))) := by rw [hE']; exact va_up_self _ _ _
  have e3 : E' (7 + J) = .inr (0, [.int m', .ref d', .int (nI (cf J + 1))]) := by rw [hE', va_up_ne _ _ (by omega)]; exact va_up_self _ _ _
  have hw : WL L3 ad' E' = ([] ++ [(ad (7 + J), .inr (0, [.int m', .ref d', .int (nI (cf J + 1))])), (d', .inl (cT 3, cap', .inr (.inr (.inr (.inr f'))))), (ad (64 * (cf J + 1) + lkd J), .inr (ci, vs))]) ++ WL (RLs cf J K (64 * (cf J + 1) + lkd J)) ad E := by
    rw [hL3]
    show (ad' (7 + J), E' (7 + J)) :: (ad' (13 + J), E' (13 + J)) :: (ad' (64 * (cf J + 1) + lkd J), E' (64 * (cf J + 1) + lkd J)) :: WL (RLs cf J K (64 * (cf J + 1) + lkd J)) ad' E' = _
    rw [a1 _ (by omega), a2, a1 _ (by omega), e3, e2, e1 _ (by omega) (by omega), hobj, WL_congr (ad' := ad) (E' := E) fun k hk => ⟨a1 k (h13 k hk).2.1, e1 k (h13 k hk).1 (h13 k hk).2.1⟩]
    rfl
  rw [← hw] at hP3 hD3
  refine ⟨(ad', E'), ⟨?_, a1, e1⟩, va_P_perm hP3 (WL_perm hp.symm), va_D_perm hD3 (WL_perm hp.symm)⟩
  show IXL cT (shC cf') (spC cf') (LC cf') ad' E'
  refine IX_grow hI hC hJ hG (fun o _ h => a1 o h) (fun o _ h1 h2 => e1 o h1 h2) ⟨m', by rw [e3, a2]⟩ ⟨cap', f', b1, b2, e2, fun j hj => ?_⟩ fun t h1 h2 => ?_
  · rw [a1 _ (by omega)]
    by_cases q : j = cf J
    · subst q
      rw [b4]
      rfl
    · exact b3 j (by omega)
  · have h3 := hn t h1 h2
    rw [e1 _ (by omega) (by omega)]
    exact ⟨h3.1, fun j hj => okV_ad (spP_ref h1 (fun t' ht' e' => a1 _ (by omega)) j) (h3.2 j hj)⟩
end ADDF
theorem ZEc_n {ed : Nat} {A B : Nat → Prop} {U : State} {H : Heap} (h : ZEc ed A U H) (hAB : ∀ q, B q → A q) : ZEc ed B U H := ⟨va_Z.narrow h.1 hAB, va_T.narrow h.2 hAB⟩
/-- add of a list of the class, over its world: one more comes -/
theorem k_addW (l : Launch) (dC : Nat → ClassId) (dI : Nat → Nat → Nat) (cT : Nat → ClassId) (cf : Nat → Nat) (hC : CF cf) (ad : Nat → Nat) (E : Nat → va_E) (cf' : Nat → Nat) (J : Nat) (hJ : J < 6) (hG : Grown J cf cf') (hmx : cf J < 300) (K : List Nat) (hK : K.Nodup) (hKm : ∀ x, x ∈ K ↔ ∃ t, t < 15 ∧ kl t = J ∧ x = 64 * (cf J + 1) + t) (ci : Nat) (C : String) (T : u_T) (NC : Nat) (vs : List Value) (hci : vwCl[ci]? = some (C, T, NC)) (hcs : ∀ i, shP cf (lkd J) i = (0, ci, NC)) (hCn : C ∈ [RX1, RX7, RX5, RX6, RX11, RX4]) (hobj : E (64 * (cf J + 1) + lkd J) = .inr (ci, vs)) (sz : Nat) (hI : IXL cT (shC cf) (spC cf) (LC cf) ad E)
    (hn : ∀ t, t < 15 → kl t = J → okS cT (shP cf' t (cf J)) (E (64 * (cf J + 1) + t)) ∧ ∀ j, j < (shP cf' t (cf J)).2.2 → okV ad (spP cf' t (cf J) j) (xv (E (64 * (cf J + 1) + t)) j)) :
    Met l yJx4a65c_add_9ea2d v_k_addA rm_k_addA (va_Pc [.ref (ad (7 + J)), .ref (ad (64 * (cf J + 1) + lkd J))] (HWK dC dI (TYC cT) cf K ad E sz)) (va_Qi (S := (Nat → Nat) × (Nat → va_E)) (fun r u => r = 1 ∧ IXL cT (shC cf') (spC cf') (LC cf') u.1 u.2 ∧ (∀ o, o ≠ 13 + J → u.1 o = ad o) ∧ ∀ o, o ≠ 7 + J → o ≠ 13 + J → u.2 o = E o) (fun u t => va_P (dC, dI) vwCl (WL (LC cf') u.1 u.2) t.heap ∧ va_D (va_A (WL (K ++ LC cf) ad E) sz) (WL (LC cf') u.1 u.2)) (va_A (WL (K ++ LC cf) ad E) sz)) 1 640 (va_A (WL (K ++ LC cf) ad E) sz) := by
  refine Met.of fun a s hv => ?_
  obtain ⟨ha, hsz, hP, hKK, hD, hE⟩ := hv
  subst hsz
  have hb : ∀ j, j < 6 → cf j ≤ 300 := fun j hj => kl_le hC j hj
  have hkl := kl_lkd J hJ
  have hk0 : 64 * (cf J + 1) + lkd J ∈ K := (hKm _).mpr ⟨lkd J, hkl.2, hkl.1, rfl⟩
  have hKd := K_out hJ hKm
  have hK7 : ∀ x ∈ K, 64 ≤ x := fun x hx => by
    obtain ⟨t, -, -, rfl⟩ := (hKm x).mp hx
    omega
  have hf7 : (7 + J) ∈ LC cf := mF _ (by rcases (show J = 0 ∨ J = 1 ∨ J = 2 ∨ J = 3 ∨ J = 4 ∨ J = 5 by omega) with rfl | rfl | rfl | rfl | rfl | rfl <;> rfl)
  have hKx := hKK.sub (tys' := [(cT 3, .object "java/lang/Object")]) [3] rfl
  have hKLn : (K ++ LC cf).Nodup := List.nodup_append.mpr ⟨hK, LC_nd cf, fun a ha b hb e => hKd a ha (e ▸ hb)⟩
  have h13 : ∀ x, x ∈ RLs cf J K (64 * (cf J + 1) + lkd J) → x ≠ 7 + J ∧ x ≠ 13 + J ∧ x ≠ 64 * (cf J + 1) + lkd J := by
    intro x hx
    rcases (RLs_mem hK).mp hx with ⟨h1, h2⟩ | ⟨h1, h2, h3⟩
    · have := hK7 x h1
      exact ⟨by omega, by omega, h2⟩
    · exact ⟨h2, h3, fun e => hKd _ hk0 (e ▸ h1)⟩
  obtain ⟨m, hl⟩ := list_cell hI hC hJ
  have hca := hE.1.2.2.1 C hCn
  by_cases z : 0 < cf J
  · rw [if_pos z] at hl
    have hm : 13 + J ∈ LC cf := mD (13 + J) (by omega) (by omega) (by rw [show 13 + J - 13 = J by omega]; exact z)
    have h0 := hI.2 _ hm
    rw [shC_d J hJ] at h0
    obtain ⟨⟨cap, f, c1, c2, c3⟩, c4⟩ := h0
    have c4 : ∀ j, j < cf J → va_rf (f j) = .ref (ad (64 * (j + 1) + lkd J)) := by
      intro j hj
      have := c4 j hj
      rw [spC_d J hJ, c3] at this
      exact this
    obtain ⟨L2, hL2⟩ : ∃ L2, L2 = (7 + J) :: (13 + J) :: (64 * (cf J + 1) + lkd J) :: RLs cf J K (64 * (cf J + 1) + lkd J) := ⟨_, rfl⟩
    have hL2n : L2.Nodup := by
      rw [hL2]
      refine List.nodup_cons.mpr ⟨fun h => ?_, List.nodup_cons.mpr ⟨fun h => ?_, List.nodup_cons.mpr ⟨fun h => (h13 _ h).2.2 rfl, RLs_nd hK hKd⟩⟩⟩
      · rcases List.mem_cons.mp h with h | h
        · omega
        · rcases List.mem_cons.mp h with h | h
          · omega
          · exact (h13 _ h).1 rfl
      · rcases List.mem_cons.mp h with h | h
        · omega
        · exact (h13 _ h).2.1 rfl
    have hp : L2.Perm (K ++ LC cf) := by
      refine perm_mem hL2n hKLn fun x => ?_
      rw [hL2]
      simp only [List.mem_cons, RLs_mem hK, List.mem_append]
      constructor
      · rintro (h | h | h | ⟨h1, h2⟩ | ⟨h1, h2, h3⟩)
        · exact Or.inr (h ▸ hf7)
        · exact Or.inr (h ▸ hm)
        · exact Or.inl (h ▸ hk0)
        · exact Or.inl h1
        · exact Or.inr h1
      · rintro (h | h)
        · by_cases e : x = 64 * (cf J + 1) + lkd J
          · exact Or.inr (Or.inr (Or.inl e))
          · exact Or.inr (Or.inr (Or.inr (Or.inl ⟨h, e⟩)))
        · by_cases e1 : x = 7 + J
          · exact Or.inl e1
          · by_cases e2 : x = 13 + J
            · exact Or.inr (Or.inl e2)
            · exact Or.inr (Or.inr (Or.inr (Or.inr ⟨h, e1, e2⟩)))
    obtain ⟨X, hX⟩ : ∃ X : va_W, X = [(ad (7 + J), .inr (0, [.int m, .ref (ad (13 + J)), .int (nI (cf J))])), (ad (13 + J), .inl (cT 3, cap, .inr (.inr (.inr (.inr f))))), (ad (64 * (cf J + 1) + lkd J), .inr (ci, vs))] := ⟨_, rfl⟩
    have hw : WL L2 ad E = X ++ WL (RLs cf J K (64 * (cf J + 1) + lkd J)) ad E := by
      rw [hL2, hX]
      show (ad (7 + J), E (7 + J)) :: (ad (13 + J), E (13 + J)) :: (ad (64 * (cf J + 1) + lkd J), E (64 * (cf J + 1) + lkd J)) :: WL (RLs cf J K (64 * (cf J + 1) + lkd J)) ad E = _
      rw [hl, c3, hobj]
      rfl
    have hP2 := va_P_perm hP (WL_perm (ad := ad) (E := E) hp)
    have hD2 := va_D_perm hD (WL_perm (ad := ad) (E := E) hp)
    rw [hw] at hP2 hD2
    have hXm : ∀ x ∈ X, x ∈ WL (K ++ LC cf) ad E := fun x hx => (WL_perm (ad := ad) (E := E) hp).mem_iff.mp (by rw [hw]; exact List.mem_append_left _ hx)
    have hXA : ∀ q, va_A X s.heap.size q → va_A (WL (K ++ LC cf) ad E) s.heap.size q := by
      rintro q (⟨k, e, hk⟩ | h)
      · obtain ⟨i, hi⟩ := List.mem_iff_getElem?.mp (hXm _ (List.mem_of_getElem? hk))
        exact Or.inl ⟨i, e, hi⟩
      · exact Or.inr h
    have hPx : va_P (dC, dI) vwCl X s.heap := va_P_sub hP2 fun x hx => List.mem_append_left _ hx
    have hDx := va_D_left hD2
    have hPL : va_P (dC, dI) vwCl (WL (LC cf) ad E) s.heap := va_P_sub hP fun x hx => by rw [WL_append]; exact List.mem_append_right _ hx
    have hEL : EL (cf 6) C (cf J) f (va_A X s.heap.size) s s.heap := by
      refine ⟨ZEc_n hE.2.2.2 hXA, hE.1, fun i hi y hy => ?_, hca⟩
      have h4 := c4 i hi
      rw [hy] at h4
      have e4 : y = ad (64 * (i + 1) + lkd J) := by cases h4; rfl
      have hmo : 64 * (i + 1) + lkd J ∈ LC cf := mP (lkd J) i hkl.2 (by rw [hkl.1]; exact hi) (by rw [hkl.1]; exact hb J hJ)
      obtain ⟨cell, g1, g2, g3⟩ := va_recv hKK hPL hci (hI.ob _ hmo (show shC cf (64 * (i + 1) + lkd J) = (0, ci, NC) by rw [shC_p _ _ (by omega)]; exact hcs i))
      rw [e4]
      refine ⟨cell, g1, g2, g3, ?_⟩
      rintro (⟨k, e, hk⟩ | h)
      · have hmr : 64 * (i + 1) + lkd J ∈ RLs cf J K (64 * (cf J + 1) + lkd J) := (RLs_mem hK).mpr (Or.inr ⟨hmo, by omega, by omega⟩)
        exact va_D_out hD2 _ (List.mem_of_getElem? hk) _ (List.mem_map.mpr ⟨_, hmr, rfl⟩) rfl
      · have := (Array.getElem?_eq_some_iff.mp g1).1
        omega
    have fin : ∀ (u : Nat × Nat × (Nat → Option Nat)) (t : State), (cf J + 1 ≤ u.2.1 ∧ u.2.1 ≤ 2 * (cf J + 1) + 10 ∧ (∀ j : Nat, j < cf J → u.2.2 j = f j) ∧ u.2.2 (cf J) = some (ad (64 * (cf J + 1) + lkd J))) → va_P (dC, dI) vwCl [(ad (7 + J), .inr (0, [.int (m + 1), .ref u.1, .int (nI (cf J + 1))])), (u.1, .inl (cT 3, u.2.1, .inr (.inr (.inr (.inr u.2.2))))), (ad (64 * (cf J + 1) + lkd J), .inr (ci, vs))] t.heap → va_D (va_A X s.heap.size) [(ad (7 + J), .inr (0, [.int (m + 1), .ref u.1, .int (nI (cf J + 1))])), (u.1, .inl (cT 3, u.2.1, .inr (.inr (.inr (.inr u.2.2))))), (ad (64 * (cf J + 1) + lkd J), .inr (ci, vs))] → va_F (va_A X s.heap.size) s t → _ := fun u t h1 h2 h3 h4 => add_fin (dC := dC) (dI := dI) (isC := [0, 1, 2]) hC hJ hG hmx hK hKm hobj hI hn (by rw [hX]; rfl) hXm hP2 hD2 h1.1 h1.2.1 (fun j hj => by rw [h1.2.2.1 j hj]; exact c4 j hj) h1.2.2.2 h2 h3 h4
    by_cases zc : cf J < cap
    · refine ⟨_, _, _, k_addA l dC dI (cT 3) (ad (7 + J)) (ad (13 + J)) (ad (64 * (cf J + 1) + lkd J)) (cf J) cap (cf 6) ci m C T NC vs f s.heap.size (by omega) (by omega) (by omega) hci, ⟨ha, rfl, by rw [← hX]; exact hPx, hKx, by rw [← hX]; exact hDx, by rw [← hX]; exact hEL⟩, fun o t hq => ?_, fun q hq => hXA q (by rw [hX]; exact hq)⟩
      obtain ⟨⟨r, u, q1, ⟨q2, q3⟩, q4, q5⟩, q6⟩ := hq
      rw [← hX] at q5 q6
      obtain ⟨u', w1, w2⟩ := fin u t q3 q4 q5 q6
      exact ⟨⟨r, u', q1, ⟨q2, w1⟩, w2⟩, q6.1, fun q h1 h2 => q6.2 q h1 (fun h => h2 (hXA q h))⟩
    · have ec : cap = cf J := by omega
      subst ec
      refine ⟨_, _, _, k_addB l dC dI (cT 3) (ad (7 + J)) (ad (13 + J)) (ad (64 * (cf J + 1) + lkd J)) (cf J) (cf 6) ci m C T NC vs f s.heap.size (by omega) (by omega) hci, ⟨ha, rfl, by rw [← hX]; exact hPx, hKx, by rw [← hX]; exact hDx, by rw [← hX]; exact hEL⟩, fun o t hq => ?_, fun q hq => hXA q (by rw [hX]; exact hq)⟩
      obtain ⟨⟨r, u, q1, ⟨q2, q3⟩, q4, q5⟩, q6⟩ := hq
      rw [← hX] at q5 q6
      obtain ⟨u', w1, w2⟩ := fin u t q3 q4 q5 q6
      exact ⟨⟨r, u', q1, ⟨q2, w1⟩, w2⟩, q6.1, fun q h1 h2 => q6.2 q h1 (fun h => h2 (hXA q h))⟩
  · rw [if_neg z] at hl
    have z0 : cf J = 0 := by omega
    have hm : 13 + J ∉ LC cf := fun h => by
      rcases LC_cases h with ⟨h1, -⟩ | ⟨h1, h2, h3⟩ | ⟨t, i, h1, h2, h3⟩
      · unfold fixB at h1
        rw [Bool.or_eq_true, Bool.and_eq_true] at h1
        rcases h1 with h1 | h1
        · have := Nat.le_of_ble_eq_true h1; omega
        · have := Nat.le_of_ble_eq_true h1.1; omega
      · rw [show 13 + J - 13 = J by omega] at h3
        omega
      · omega
    obtain ⟨L2, hL2⟩ : ∃ L2, L2 = (7 + J) :: (64 * (cf J + 1) + lkd J) :: RLs cf J K (64 * (cf J + 1) + lkd J) := ⟨_, rfl⟩
    have hL2n : L2.Nodup := by
      rw [hL2]
      refine List.nodup_cons.mpr ⟨fun h => ?_, List.nodup_cons.mpr ⟨fun h => (h13 _ h).2.2 rfl, RLs_nd hK hKd⟩⟩
      rcases List.mem_cons.mp h with h | h
      · omega
      · exact (h13 _ h).1 rfl
    have hp : L2.Perm (K ++ LC cf) := by
      refine perm_mem hL2n hKLn fun x => ?_
      rw [hL2]
      simp only [List.mem_cons, RLs_mem hK, List.mem_append]
      constructor
      · rintro (h | h | ⟨h1, h2⟩ | ⟨h1, h2, h3⟩)
        · exact Or.inr (h ▸ hf7)
        · exact Or.inl (h ▸ hk0)
        · exact Or.inl h1
        · exact Or.inr h1
      · rintro (h | h)
        · by_cases e : x = 64 * (cf J + 1) + lkd J
          · exact Or.inr (Or.inl e)
          · exact Or.inr (Or.inr (Or.inl ⟨h, e⟩))
        · by_cases e1 : x = 7 + J
          · exact Or.inl e1
          · exact Or.inr (Or.inr (Or.inr ⟨h, e1, fun e2 => hm (e2 ▸ h)⟩))
    obtain ⟨X, hX⟩ : ∃ X : va_W, X = [(ad (7 + J), .inr (0, [.int m, .ref (cf 6), .int 0])), (ad (64 * (cf J + 1) + lkd J), .inr (ci, vs))] := ⟨_, rfl⟩
    have hw : WL L2 ad E = X ++ WL (RLs cf J K (64 * (cf J + 1) + lkd J)) ad E := by
      rw [hL2, hX]
      show (ad (7 + J), E (7 + J)) :: (ad (64 * (cf J + 1) + lkd J), E (64 * (cf J + 1) + lkd J)) :: WL (RLs cf J K (64 * (cf J + 1) + lkd J)) ad E = _
      rw [hl, hobj, show nI (cf J) = 0 by rw [z0]; rfl]
      rfl
    have hP2 := va_P_perm hP (WL_perm (ad := ad) (E := E) hp)
    have hD2 := va_D_perm hD (WL_perm (ad := ad) (E := E) hp)
    rw [hw] at hP2 hD2
    have hXm : ∀ x ∈ X, x ∈ WL (K ++ LC cf) ad E := fun x hx => (WL_perm (ad := ad) (E := E) hp).mem_iff.mp (by rw [hw]; exact List.mem_append_left _ hx)
    have hXA : ∀ q, va_A X s.heap.size q → va_A (WL (K ++ LC cf) ad E) s.heap.size q := by
      rintro q (⟨k, e, hk⟩ | h)
      · obtain ⟨i, hi⟩ := List.mem_iff_getElem?.mp (hXm _ (List.mem_of_getElem? hk))
        exact Or.inl ⟨i, e, hi⟩
      · exact Or.inr h
    have hPx : va_P (dC, dI) vwCl X s.heap := va_P_sub hP2 fun x hx => List.mem_append_left _ hx
    have hDx := va_D_left hD2
    have hEL : EL (cf 6) C 0 (fun _ => none) (va_A X s.heap.size) s s.heap := ⟨ZEc_n hE.2.2.2 hXA, hE.1, fun i hi y hy => absurd hi (by omega), hca⟩
    refine ⟨_, _, _, k_addC l dC dI (cT 3) (ad (7 + J)) (ad (64 * (cf J + 1) + lkd J)) (cf 6) ci m C T NC vs (fun _ => none) s.heap.size hci, ⟨ha, rfl, by rw [← hX]; exact hPx, hKx, by rw [← hX]; exact hDx, by rw [← hX]; exact hEL⟩, fun o t hq => ?_, fun q hq => hXA q (by rw [hX]; exact hq)⟩
    obtain ⟨⟨r, u, q1, ⟨q2, q3⟩, q4, q5⟩, q6⟩ := hq
    rw [← hX] at q5 q6
    obtain ⟨u', w1, w2⟩ := add_fin (dC := dC) (dI := dI) (isC := [0, 1]) (d' := u.1) (cap' := u.2.1) (f' := u.2.2) (m' := m + 1) hC hJ hG hmx hK hKm hobj hI hn (by rw [hX]; rfl) hXm hP2 hD2 (by have := q3.1; omega) (by have := q3.2.1; omega) (fun j hj => absurd hj (by omega)) ((congrArg u.2.2 z0).trans q3.2.2.2) (by rw [show nI (cf J + 1) = 1 by rw [z0]; rfl]; exact q4) (by rw [show nI (cf J + 1) = 1 by rw [z0]; rfl]; exact q5) q6
    exact ⟨⟨r, u', q1, ⟨q2, w1⟩, w2⟩, q6.1, fun q h1 h2 => q6.2 q h1 (fun h => h2 (hXA q h))⟩

