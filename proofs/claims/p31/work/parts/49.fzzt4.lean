

/-! ===== what evens BOATS (the reference) ===== -/
def evM (S N : Nat → Int32) (k j d : Nat) : Int := if (S (4 * k + j)).toInt = 0 then -1 else chT (S (4 * k + j)).toInt (N (4 * k + j)).toInt d
def TyI (Sp Sm : Nat → Int) (m N : Nat) (bs sm : Int) (g : Nat → Int) : Prop := (N = 0 ∧ bs = -1) ∨ BsK Sp Sm m N bs sm g
def sprM (E : Nat → va_E) (m : Nat) : Nat → Int := spF (evM (xi (E 62)) (xi (E 63))) (xi (E 0) 87).toNatClampNeg m
def evN (E : Nat → va_E) (m : Nat) : Prop := ∀ k : Nat, k < (xi (E 0) 87).toNatClampNeg → ∃ j : Nat, j < m ∧ ¬ (xi (E 62) (4 * k + j)).toInt = 0
theorem TyI.cg {Sp Sm : Nat → Int} {m N N' : Nat} {bs sm bs' sm' : Int} {g g' : Nat → Int} (h : TyI Sp Sm m N bs sm g) (e : N' = N) (e1 : bs' = bs) (e2 : sm' = sm) (e3 : ∀ s, s < m → g' s = g s) : TyI Sp Sm m N' bs' sm' g' := by
  subst e
  subst e1
  subst e2
  rcases h with h | ⟨j, h1, h2, h3, h4, h5⟩
  · exact Or.inl h
  · exact Or.inr ⟨j, h1, h2, h3, h4, fun s hs => (e3 s hs).trans (h5 s hs)⟩
theorem BsK.cg {Sp Sp' Sm : Nat → Int} {m N N' : Nat} {bs sm bs' sm' : Int} {g g' : Nat → Int} (h : BsK Sp Sm m N bs sm g) (ep : Sp' = Sp) (e : N' = N) (e1 : bs' = bs) (e2 : sm' = sm) (e3 : ∀ s, s < m → g' s = g s) : BsK Sp' Sm m N' bs' sm' g' := by
  subst ep
  subst e
  subst e1
  subst e2
  obtain ⟨j, h1, h2, h3, h4, h5⟩ := h
  exact ⟨j, h1, h2, h3, h4, fun s hs => (e3 s hs).trans (h5 s hs)⟩
theorem BsK.nn {Sp Sm : Nat → Int} {m N : Nat} {bs sm : Int} {g : Nat → Int} (h : BsK Sp Sm m N bs sm g) (hs : ∀ i, 0 ≤ Sp i) : 0 ≤ bs := by
  obtain ⟨j, -, -, h3, -⟩ := h
  rw [h3]
  exact hs j
theorem chT_b {s n : Int} {d : Nat} (hs : 0 ≤ s ∧ s ≤ 200000) (hn : 0 ≤ n ∧ n ≤ 2000) (hd : d < 7) : 0 ≤ chT s n d ∧ chT s n d ≤ 400600 := by
  unfold chT
  obtain ⟨x, hx⟩ : ∃ x, max 1 (n + (d : Int) - 3) = x := ⟨_, rfl⟩
  have h1 : 1 ≤ x ∧ x ≤ 2003 := by omega
  rw [hx]
  have h2 : 0 ≤ s * x := Int.mul_nonneg hs.1 (by omega)
  have h3 : s * x ≤ 200000 * 2003 := Int.le_trans (Int.mul_le_mul_of_nonneg_right hs.2 (by omega)) (Int.mul_le_mul_of_nonneg_left h1.2 (by decide))
  omega
theorem evM_b {S N : Nat → Int32} {k j d : Nat} (hs : 0 ≤ (S (4 * k + j)).toInt ∧ (S (4 * k + j)).toInt ≤ 200000) (hn : 0 ≤ (N (4 * k + j)).toInt ∧ (N (4 * k + j)).toInt ≤ 2000) (hd : d < 7) : (-1 ≤ evM S N k j d ∧ evM S N k j d ≤ 400600) ∧ (¬ (S (4 * k + j)).toInt = 0 → ¬ evM S N k j d = -1) := by
  have h := chT_b hs hn hd
  unfold evM
  by_cases c : (S (4 * k + j)).toInt = 0
  · rw [if_pos c]
    exact ⟨by omega, fun z => absurd c z⟩
  · rw [if_neg c]
    exact ⟨by omega, fun _ => by omega⟩
theorem hi_z {f : Nat → Int} : ∀ m : Nat, (∀ j, j < m → f j = -1) → hiF f m = 0 := by
  intro m
  induction m with
  | zero => exact fun _ => rfl
  | succ m ih =>
    intro h
    show (if f m = -1 then hiF f m else max (hiF f m) (f m)) = 0
    rw [if_pos (h m (by omega))]
    exact ih (fun j hj => h j (by omega))
/-- the most, also before one finished -/
def HiI (f : Nat → Int) (j : Nat) (v : Int) : Prop := v = hiF f j ∨ ((∀ i, i < j → f i = -1) ∧ v = -2147483648)
theorem HiI.n {f : Nat → Int} {j j' : Nat} {v : Int} (h : HiI f j v) (hf : f j = -1) (e : j' = j + 1) : HiI f j' v := by
  rcases h with h | ⟨h1, h2⟩
  · exact Or.inl (hi_n h hf e)
  · refine Or.inr ⟨fun i hi => ?_, h2⟩
    by_cases q : i = j
    · rw [q]
      exact hf
    · exact h1 i (by omega)
theorem HiI.y {f : Nat → Int} {j j' : Nat} {v v' : Int} (h : HiI f j v) (hf : 0 ≤ f j) (hv : v' = max v (f j)) (e : j' = j + 1) : HiI f j' v' := by
  rcases h with h | ⟨h1, h2⟩
  · exact Or.inl (hi_y h (by omega) hv e)
  · exact Or.inl (hi_y (v := 0) (hi_z j h1).symm (by omega) (by omega) e)
theorem HiI.fin {f : Nat → Int} {m : Nat} {v : Int} (h : HiI f m v) (hx : ∃ j, j < m ∧ ¬ f j = -1) : v = hiF f m := by
  rcases h with h | ⟨h1, -⟩
  · exact h
  · obtain ⟨j, h2, h3⟩ := hx
    exact absurd (h1 j h2) h3
theorem ev_ix {cT : Nat → ClassId} {ad : Nat → Nat} {E : Nat → va_E} (hI : IX cT shM spM 72 ad E) {x : Nat} (hx : x < 80) : (0 ≤ (xi (E 62) x).toInt ∧ (xi (E 62) x).toInt ≤ 200000) ∧ 0 ≤ (xi (E 63) x).toInt ∧ (xi (E 63) x).toInt ≤ 2000 := ⟨hI.iv 62 (Nat.le_of_ble_eq_true rfl) rfl (j := x) hx rfl, hI.iv 63 (Nat.le_of_ble_eq_true rfl) rfl (j := x) hx rfl⟩
theorem ev_xt {cT : Nat → ClassId} {ad : Nat → Nat} {E : Nat → va_E} (hI : IX cT shM spM 72 ad E) {m k : Nat} (hm : m ≤ 4) (hk : k < 20) (h : ∃ j : Nat, j < m ∧ ¬ (xi (E 62) (4 * k + j)).toInt = 0) {D : Nat → Nat} (hD : ∀ j, D j < 7) : (∃ j : Nat, j < m ∧ ¬ evM (xi (E 62)) (xi (E 63)) k j (D j) = -1) ∧ 0 ≤ xtF (fun j => evM (xi (E 62)) (xi (E 63)) k j (D j)) m ∧ xtF (fun j => evM (xi (E 62)) (xi (E 63)) k j (D j)) m ≤ 400600 := by
  have b0 : ∀ j, j < m → (-1 ≤ evM (xi (E 62)) (xi (E 63)) k j (D j) ∧ evM (xi (E 62)) (xi (E 63)) k j (D j) ≤ 400600) ∧ (¬ (xi (E 62) (4 * k + j)).toInt = 0 → ¬ evM (xi (E 62)) (xi (E 63)) k j (D j) = -1) := fun j hj => evM_b (S := xi (E 62)) (N := xi (E 63)) (k := k) (j := j) (d := D j) (ev_ix hI (by omega)).1 (ev_ix hI (by omega)).2 (hD j)
  have b := lohi_b (f := fun j => evM (xi (E 62)) (xi (E 63)) k j (D j)) (c := 400600) (by decide) m (fun j hj => (b0 j hj).1)
  obtain ⟨j, hj, h7⟩ := h
  have hx : ∃ j : Nat, j < m ∧ ¬ evM (xi (E 62)) (xi (E 63)) k j (D j) = -1 := ⟨j, hj, (b0 j hj).2 h7⟩
  have b9 := b.2.2 hx
  unfold xtF
  exact ⟨hx, by omega, by omega⟩
theorem sprM_nn {cT : Nat → ClassId} {ad : Nat → Nat} {E : Nat → va_E} (hI : IX cT shM spM 72 ad E) {m : Nat} (hm : m ≤ 4) (h20 : (xi (E 0) 87).toNatClampNeg ≤ 20) (h : evN E m) (i : Nat) : 0 ≤ sprM E m i := by
  have k : ∀ c : Nat, c ≤ (xi (E 0) 87).toNatClampNeg → 0 ≤ sumF (fun k => xtF (fun j => evM (xi (E 62)) (xi (E 63)) k j (dg7 m i j)) m) c := by
    intro c
    induction c with
    | zero => exact fun _ => Int.le_refl 0
    | succ c ih =>
      intro hc
      have h1 := ih (by omega)
      have h2 : 0 ≤ xtF (fun j => evM (xi (E 62)) (xi (E 63)) c j (dg7 m i j)) m := (ev_xt hI hm (k := c) (by omega) (h c (by omega)) (D := fun j => dg7 m i j) (fun j => dg7_lt)).2.1
      show 0 ≤ sumF (fun k => xtF (fun j => evM (xi (E 62)) (xi (E 63)) k j (dg7 m i j)) m) c + xtF (fun j => evM (xi (E 62)) (xi (E 63)) c j (dg7 m i j)) m
      omega
  exact k _ (Nat.le_refl _)
/-- one level down -/
theorem dn_in {m a N t : Nat} (ha : a < m) (hN : ∃ b : Nat, N = b * p7 (m - a)) (ht : t < 7) : (∃ b : Nat, N + t * p7 (m - a - 1) = b * p7 (m - (a + 1))) ∧ dg7 m (N + t * p7 (m - a - 1)) a = t ∧ (∀ s, s < a → dg7 m (N + t * p7 (m - a - 1)) s = dg7 m N s) ∧ N + t * p7 (m - a - 1) + p7 (m - (a + 1)) = N + (t + 1) * p7 (m - a - 1) ∧ N + 7 * p7 (m - a - 1) = N + p7 (m - a) := by
  obtain ⟨b, hb⟩ := hN
  have h1 := dg7_at ha hb ht
  have e0 : m - (a + 1) = m - a - 1 := by omega
  have e1 : p7 (m - a) = 7 * p7 (m - a - 1) := by
    rw [show m - a = (m - a - 1) + 1 by omega]
    rfl
  refine ⟨⟨b * 7 + t, ?_⟩, h1.1, h1.2, ?_, ?_⟩
  · rw [e0, hb, e1, Nat.add_mul, Nat.mul_assoc]
  · rw [e0, Nat.add_mul, Nat.one_mul, Nat.add_assoc]
  · rw [e1]
def wyM (E : Nat → va_E) (r : Nat) : Prop := (xi (E 15) r).toInt = 0
def fnM (E : Nat → va_E) (q : Int32) (r b : Nat) : Prop := CdM E (nI r) (nI b) q 0
def seM (E : Nat → va_E) (q : Int32) (r b : Nat) : Int := (xi (E 27) (lRM E (nI r) (nI b) q).toNatClampNeg).toInt
def nmM (E : Nat → va_E) (q : Int32) (r b : Nat) : Int := numM E (nI b) (xi (E 13) r) q
def RSM (E : Nat → va_E) : Prop := ∀ i : Nat, i < (xi (E 0) 47).toNatClampNeg → (xi (E 26) i).toInt = 0 → 1 ≤ (xi (E 27) i).toInt
theorem fnM_s {E : Nat → va_E} {q : Int32} {r b : Nat} (h : RSM E) (hf : fnM E q r b) : 1 ≤ seM E q r b := by
  have h1 := CdM_0 hf
  have h2 : (xi (E 26) (lRM E (nI r) (nI b) q).toNatClampNeg).toInt = 0 := by
    by_cases e : entMd E (nI r).toInt (nI b).toInt q.toInt
    · by_cases o : OutMx E (nI r).toInt (nI b).toInt q.toInt
      · have := (hf.2 e).1 o
        omega
      · have := ((hf.2 e).2 o).2 h1
        omega
    · have := hf.1 e
      omega
  unfold seM
  rcases (lO_ix (gA := xi (E 24)) (gB := xi (E 25)) (gT := xi (E 28)) (a := nI r) (b := nI b) (q := q) (xi (E 0) 47).toNatClampNeg) with h3 | ⟨k, hk, h3⟩
  · exact absurd (show (lRM E (nI r) (nI b) q).toInt = -1 from (congrArg Int32.toInt h3).trans (by decide)) h1
  · have hk2 : (lRM E (nI r) (nI b) q).toNatClampNeg = k := by
      have h4 : (xi (E 0) 47).toInt ≤ 2147483647 := (iv_all _).2
      have hi : (nI k).toInt = (k : Int) := nI_toInt (by rw [tn_] at hk; omega)
      unfold lRM
      rw [h3, tn_, hi]
      omega
    rw [hk2] at h2 ⊢
    exact h k hk h2
def qcM (E : Nat → va_E) (q : Int32) (r b : Nat) (s n : Int) : Prop := (fnM E q r b → s = seM E q r b ∧ n = nmM E q r b) ∧ (¬ fnM E q r b → s = 0)
theorem mc_c {P : Nat → Int → Int → Prop} {g g' h h' : Nat → Int32} {K J J' ix iy : Nat} {v w : Int32} (a : ∀ j, j < J → P j (g (4 * K + j)).toInt (h (4 * K + j)).toInt) (e : g' = upd g ix v) (e2 : h' = upd h iy w) (hx : ix = 4 * K + J) (hy : iy = 4 * K + J) (hv : P J v.toInt w.toInt) (eJ : J' = J + 1) : ∀ j, j < J' → P j (g' (4 * K + j)).toInt (h' (4 * K + j)).toInt := fun j hj => by
  subst e
  subst e2
  subst hx
  subst hy
  by_cases c : j = J
  · subst c
    rw [upd_i, upd_i]
    exact hv
  · rw [upd_j (by omega), upd_j (by omega)]
    exact a j (by omega)
theorem TbM.up {C : Nat → Prop} {F : Nat → Nat → Prop} {S Nm : Nat → Nat → Int} {g : Nat → Int32} {m r c : Nat} {G H G' H' : Nat → Int32} (hm : m ≤ 4) (h : TbR C (qtG F S Nm m g) r c (evM G H)) (hk : ∀ x, x < 4 * c → G' x = G x) (hk2 : ∀ x, x < 4 * c → H' x = H x) : TbR C (qtG F S Nm m g) r c (evM G' H') := TbR.up r c _ _ h (fun k hkc r' hq j d hj hd => by
  have e : evM G' H' k j d = evM G H k j d := by
    unfold evM
    rw [hk _ (by omega), hk2 _ (by omega)]
  rw [e]
  exact hq j d hj hd)
theorem qcM_row {E : Nat → va_E} {q : Int32} {r m c : Nat} {g G H : Nat → Int32} (hs : RSM E) (h : ∀ j, j < m → qcM E q r (g j).toNatClampNeg (G (4 * c + j)).toInt (H (4 * c + j)).toInt) : qtG (fnM E q) (seM E q) (nmM E q) m g r (evM G H c) := fun j d hj hd => by
  have h1 := h j hj
  constructor
  · intro f
    obtain ⟨a, b⟩ := h1.1 f
    have h2 := fnM_s hs f
    show (if (G (4 * c + j)).toInt = 0 then -1 else chT (G (4 * c + j)).toInt (H (4 * c + j)).toInt d) = chT (seM E q r (g j).toNatClampNeg) (nmM E q r (g j).toNatClampNeg) d
    rw [if_neg (by omega), a, b]
  · intro f
    show (if (G (4 * c + j)).toInt = 0 then -1 else chT (G (4 * c + j)).toInt (H (4 * c + j)).toInt d) = -1
    rw [if_pos (h1.2 f)]
theorem tb_evN {E : Nat → va_E} {q : Int32} {R m c : Nat} {g G H : Nat → Int32} (hs : RSM E) (h : TbR (cnG (wyM E) (fnM E q) m g) (qtG (fnM E q) (seM E q) (nmM E q) m g) R c (evM G H)) : ∀ k : Nat, k < c → ∃ j : Nat, j < m ∧ ¬ (G (4 * k + j)).toInt = 0 := fun k hk => by
  obtain ⟨i, hi, ⟨-, n, h1, h2⟩, h3⟩ := (TbR.all R c _ h).2 k hk
  obtain ⟨j, hj, hf⟩ : ∃ j, j < m ∧ fnM E q i (g j).toNatClampNeg := Classical.byContradiction (fun no => by
    have h4 := CnR.z m n h1 (fun j hj z => no ⟨j, hj, z⟩)
    omega)
  refine ⟨j, hj, fun z => ?_⟩
  have h4 := (h3 j 3 hj (by decide)).1 hf
  have h5 : evM G H k j 3 = -1 := by
    unfold evM
    rw [if_pos z]
  have h6 : evM G H k j 3 = chT (seM E q i (g j).toNatClampNeg) (nmM E q i (g j).toNatClampNeg) 3 := h4
  have h7 : 0 ≤ chT (seM E q i (g j).toNatClampNeg) (nmM E q i (g j).toNatClampNeg) 3 := Int.ediv_nonneg (Int.mul_nonneg (by have := fnM_s hs hf; omega) (by omega)) (by decide)
  omega
theorem EvL.lt {N : Nat} : ∀ (k m : Nat) (g : Nat → Int32), EvL N k m g → ∀ i j, i < j → j < m → (g i).toInt < (g j).toInt := by
  intro k
  induction k with
  | zero =>
    intro m g h i j _ hj
    have h1 : m = 0 := h
    omega
  | succ k ih =>
    intro m g h i j hi hj
    rcases h with ⟨h1, h2⟩ | ⟨h1, m0, h2, h3, h4⟩
    · exact ih m g h2 i j hi hj
    · by_cases q : j = m0
      · have h5 := (EvL.num k m0 g h3).2 i (by omega)
        rw [q, h4]
        exact h5.2
      · exact ih m0 g h3 i j hi (by omega)
theorem SmB.no3 {a b : Int32} (h : a.toInt < 1) : ¬ SmB a b := by
  intro z
  unfold SmB at z
  obtain ⟨⟨z1, -⟩, z2, -⟩ := z
  have e : a.toNatClampNeg = 0 := by
    rw [tn_]
    omega
  rw [e] at z2
  exact absurd z2 (by decide)
theorem ev_mk {E : Nat → va_E} {q : Int32} {R N K m c : Nat} {g G H g5 : Nat → Int32} {bs b sm : Int} {h7 : Nat → Int32} {m' : Nat} (h1 : EvL N K m g) (h2 : TbR (cnG (wyM E) (fnM E q) m g) (qtG (fnM E q) (seM E q) (nmM E q) m g) R c (evM G H)) (h3 : BsK (spF (evM G H) c m) (smF m) m (p7 m) bs sm (fun s9 => (h7 s9).toInt + 3)) (e1 : bs = b) (e2 : g5 = g) (e3 : h7 = h7) (e4 : m' = m) : EvR (wyM E) (fnM E q) (seM E q) (nmM E q) R N K (fun m9 g9 b9 c9 => b9 = b ∧ g9 = g5 ∧ (∀ s9 : Nat, s9 < m9 → c9 s9 = (h7 s9).toInt + 3) ∧ m9 = m') := ⟨m, g, c, evM G H, bs, sm, _, h1, h2, h3, e1, e2.symm, fun _ _ => rfl, e4.symm⟩

