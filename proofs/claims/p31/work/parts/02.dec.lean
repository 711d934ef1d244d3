
/-! ===== instructions by their bytes ===== -/
def zB (c : ByteArray) (p b : Nat) : Prop := (Reader.u1 : Decoder Nat) c p = .ok (b, p + 1)
def zc1 : List UInt8 → List Nat → Bool
  | _, [] => true
  | [], _ :: _ => false
  | a :: t, b :: l => Nat.beq a.toNat b && zc1 t l
def zc (c : ByteArray) (k : Nat) (l : List Nat) : Bool := zc1 (c.data.toList.drop k) l
theorem zc1_at : ∀ (l : List Nat) (t : List UInt8) (j b : Nat), zc1 t l = true → l[j]? = some b → ∃ a : UInt8, t[j]? = some a ∧ a.toNat = b := by
  intro l
  induction l with
  | nil =>
    intro t j b _ hj
    simp at hj
  | cons x l ih =>
    intro t j b h hj
    cases t with
    | nil => exact absurd h (by simp [zc1])
    | cons a t =>
      have h2 : Nat.beq a.toNat x = true ∧ zc1 t l = true := by
        have h3 := h
        unfold zc1 at h3
        simpa only [Bool.and_eq_true] using h3
      cases j with
      | zero =>
        have e : x = b := by simpa using hj
        exact ⟨a, rfl, (Nat.eq_of_beq_eq_true h2.1).trans e⟩
      | succ j =>
        obtain ⟨y, hy, e⟩ := ih t j b h2.2 (by simpa using hj)
        exact ⟨y, by simpa using hy, e⟩
theorem zi_at {c : ByteArray} {k : Nat} {l : List Nat} (h : zc c k l = true) {b : Nat} (j : Nat) (hj : l[j]? = some b) : zB c (k + j) b := by
  obtain ⟨⟨L⟩⟩ := c
  obtain ⟨a, ha, e⟩ := zc1_at l (L.drop k) j b h hj
  rw [List.getElem?_drop] at ha
  obtain ⟨hlt, e2⟩ := List.getElem?_eq_some_iff.mp ha
  have hs : k + j < (ByteArray.mk ⟨L⟩).size := hlt
  have e3 : (Reader.u1 : Decoder Nat) ⟨⟨L⟩⟩ (k + j) = (if h : k + j < (ByteArray.mk ⟨L⟩).size then (do set (k + j + 1); Pure.pure ((ByteArray.mk ⟨L⟩)[k + j]'h).toNat : Decoder Nat) else throw (HasTruncated.truncated (k + j))) ⟨⟨L⟩⟩ (k + j) := rfl
  unfold zB
  rw [e3, dif_pos hs]
  show (Except.ok ((L[k + j]'hlt).toNat, k + j + 1) : Except DecodeError (Nat × Nat)) = _
  rw [e2, e]
theorem ms_su {K v y c : Int} {d : Nat} (h : K - v < ((d + 1 : Nat) : Int)) (t : y = v + c) (hc : 1 ≤ c) : K - y < (d : Int) := by omega
theorem ms_sd {K v y c : Int} {d : Nat} (h : v - K < ((d + 1 : Nat) : Int)) (t : y = v + c) (hc : c ≤ -1) : y - K < (d : Int) := by omega
theorem ms_sd2 {K v y : Int} {d : Nat} (h : v - K < ((d + 1 : Nat) : Int)) (t : y = v - 1) : y - K < (d : Int) := by omega
theorem ms_zu {K v : Int} (h : v ≤ K) : ¬ K - v < ((0 : Nat) : Int) := by omega
theorem ms_zd {K v : Int} (h : K ≤ v) : ¬ v - K < ((0 : Nat) : Int) := by omega
theorem ms_bu {K v lo : Int} {d : Nat} (h : lo ≤ v) (hd : K - lo < (d : Int)) : K - v < (d : Int) := by omega
theorem ms_bd {K v hi : Int} {d : Nat} (h : v ≤ hi) (hd : hi - K < (d : Int)) : v - K < (d : Int) := by omega
theorem zi_bind {α β : Type} {r : Decoder α} {f : α → Decoder β} {c : ByteArray} {p q : Nat} {a : α} (h : r c p = .ok (a, q)) : (r >>= f) c p = f a c q := by
  have e : (r >>= f) c p = Except.bind (r c p) (fun (a, s) => f a c s) := rfl
  rw [e, h]
  rfl
theorem zi_dec {c : ByteArray} {p n : Nat} {i : Instr} (h : Decoder.instr p c p = .ok (i, p + n)) : decode c p = .ok (i, n) := by
  have e : decode c p = Except.bind (Decoder.instr p c p) (fun (i, q) => Pure.pure (i, q - p)) := rfl
  rw [e, h]
  show (Except.ok (i, p + n - p) : Except DecodeError (Instr × Nat)) = _
  rw [Nat.add_sub_cancel_left]
theorem zi_u2 {c : ByteArray} {p a b : Nat} (h1 : zB c p a) (h2 : zB c (p + 1) b) : (Reader.u2 : Decoder Nat) c p = .ok (a * 256 + b, p + 2) := (zi_bind h1).trans ((zi_bind h2).trans rfl)
theorem zi_s1 {c : ByteArray} {p a : Nat} (h1 : zB c p a) : (Reader.s1 : Decoder Int) c p = .ok (Reader.signed 8 a, p + 1) := by
  have e : (Reader.s1 : Decoder Int) c p = Except.bind ((Reader.u1 : Decoder Nat) c p) (fun (a, s) => .ok (Reader.signed 8 a, s)) := rfl
  have h2 : (Reader.u1 : Decoder Nat) c p = .ok (a, p + 1) := h1
  rw [e, h2]
  rfl
theorem zi_s2 {c : ByteArray} {p a b : Nat} (h1 : zB c p a) (h2 : zB c (p + 1) b) : (Reader.s2 : Decoder Int) c p = .ok (Reader.signed 16 (a * 256 + b), p + 2) := by
  have e : (Reader.s2 : Decoder Int) c p = Except.bind ((Reader.u2 : Decoder Nat) c p) (fun (a, s) => .ok (Reader.signed 16 a, s)) := rfl
  rw [e, zi_u2 h1 h2]
  rfl
theorem zi_k0 {c : ByteArray} {p k : Nat} {i : Instr} {K : Nat → Decoder Instr} (hK : Decoder.instr p = Reader.u1 >>= K) (hk : K k = Pure.pure i) (h : zB c p k) : decode c p = .ok (i, 1) := by
  refine zi_dec ?_
  rw [hK]
  refine (zi_bind h).trans ?_
  rw [hk]
  rfl
theorem zi_k1 {c : ByteArray} {p k a : Nat} {g : Nat → Instr} {K : Nat → Decoder Instr} (hK : Decoder.instr p = Reader.u1 >>= K) (hk : K k = Reader.u1 >>= fun x => Pure.pure (g x)) (h : zB c p k) (h1 : zB c (p + 1) a) : decode c p = .ok (g a, 2) := by
  refine zi_dec ?_
  rw [hK]
  refine (zi_bind h).trans ?_
  rw [hk]
  exact (zi_bind h1).trans rfl
theorem zi_k1s {c : ByteArray} {p k a : Nat} {o : Int} {g : Int → Instr} {K : Nat → Decoder Instr} (hK : Decoder.instr p = Reader.u1 >>= K) (hk : K k = Reader.s1 >>= fun x => Pure.pure (g x)) (h : zB c p k) (h1 : zB c (p + 1) a) (ho : Reader.signed 8 a = o) : decode c p = .ok (g o, 2) := by
  refine zi_dec ?_
  rw [hK]
  refine (zi_bind h).trans ?_
  rw [hk, ← ho]
  exact (zi_bind (zi_s1 h1)).trans rfl
theorem zi_k2 {c : ByteArray} {p k a b o : Nat} {g : Nat → Instr} {K : Nat → Decoder Instr} (hK : Decoder.instr p = Reader.u1 >>= K) (hk : K k = Reader.u2 >>= fun x => Pure.pure (g x)) (h : zB c p k) (h1 : zB c (p + 1) a) (h2 : zB c (p + 2) b) (ho : a * 256 + b = o) : decode c p = .ok (g o, 3) := by
  refine zi_dec ?_
  rw [hK]
  refine (zi_bind h).trans ?_
  rw [hk, ← ho]
  exact (zi_bind (zi_u2 h1 h2)).trans rfl
theorem zi_k2s {c : ByteArray} {p k a b : Nat} {o : Int} {g : Int → Instr} {K : Nat → Decoder Instr} (hK : Decoder.instr p = Reader.u1 >>= K) (hk : K k = Reader.s2 >>= fun x => Pure.pure (g x)) (h : zB c p k) (h1 : zB c (p + 1) a) (h2 : zB c (p + 2) b) (ho : Reader.signed 16 (a * 256 + b) = o) : decode c p = .ok (g o, 3) := by
  refine zi_dec ?_
  rw [hK]
  refine (zi_bind h).trans ?_
  rw [hk, ← ho]
  exact (zi_bind (zi_s2 h1 h2)).trans rfl
theorem zi_k11 {c : ByteArray} {p k a b : Nat} {o : Int} {g : Nat → Int → Instr} {K : Nat → Decoder Instr} (hK : Decoder.instr p = Reader.u1 >>= K) (hk : K k = Reader.u1 >>= fun x => Reader.s1 >>= fun y => Pure.pure (g x y)) (h : zB c p k) (h1 : zB c (p + 1) a) (h2 : zB c (p + 2) b) (ho : Reader.signed 8 b = o) : decode c p = .ok (g a o, 3) := by
  refine zi_dec ?_
  rw [hK]
  refine (zi_bind h).trans ?_
  rw [hk, ← ho]
  exact (zi_bind h1).trans ((zi_bind (zi_s1 h2)).trans rfl)
theorem zi_kn {c : ByteArray} {p k a : Nat} {i : Instr} {M : Decoder Instr} {K N : Nat → Decoder Instr} (hK : Decoder.instr p = Reader.u1 >>= K) (hk : K k = M) (hM : M = Reader.u1 >>= N) (hn : N a = Pure.pure i) (h : zB c p k) (h1 : zB c (p + 1) a) : decode c p = .ok (i, 2) := by
  refine zi_dec ?_
  rw [hK]
  refine (zi_bind h).trans ?_
  rw [hk, hM]
  refine (zi_bind h1).trans ?_
  rw [hn]
  rfl
theorem zg_0 (p : Nat) : ∃ K : Nat → Decoder Instr, Decoder.instr p = Reader.u1 >>= K ∧ K 1 = Pure.pure (Instr.aconst_null) ∧ K 2 = Pure.pure (Instr.iconst (-1)) ∧ K 3 = Pure.pure (Instr.iconst 0) ∧ K 4 = Pure.pure (Instr.iconst 1) ∧ K 5 = Pure.pure (Instr.iconst 2) ∧ K 6 = Pure.pure (Instr.iconst 3) ∧ K 7 = Pure.pure (Instr.iconst 4) ∧ K 8 = Pure.pure (Instr.iconst 5) ∧ K 9 = Pure.pure (Instr.lconst 0) ∧ K 10 = Pure.pure (Instr.lconst 1) := ⟨_, rfl, rfl, rfl, rfl, rfl, rfl, rfl, rfl, rfl, rfl, rfl⟩
theorem zo_1 {c : ByteArray} {p : Nat} (h : zB c p 1) : decode c p = .ok (Instr.aconst_null, 1) := (zg_0 p).elim (fun _ q => zi_k0 q.1 (q.2.1) h)
theorem zo_2 {c : ByteArray} {p : Nat} (h : zB c p 2) : decode c p = .ok (Instr.iconst (-1), 1) := (zg_0 p).elim (fun _ q => zi_k0 q.1 (q.2.2.1) h)
theorem zo_3 {c : ByteArray} {p : Nat} (h : zB c p 3) : decode c p = .ok (Instr.iconst 0, 1) := (zg_0 p).elim (fun _ q => zi_k0 q.1 (q.2.2.2.1) h)
theorem zo_4 {c : ByteArray} {p : Nat} (h : zB c p 4) : decode c p = .ok (Instr.iconst 1, 1) := (zg_0 p).elim (fun _ q => zi_k0 q.1 (q.2.2.2.2.1) h)
theorem zo_5 {c : ByteArray} {p : Nat} (h : zB c p 5) : decode c p = .ok (Instr.iconst 2, 1) := (zg_0 p).elim (fun _ q => zi_k0 q.1 (q.2.2.2.2.2.1) h)
theorem zo_6 {c : ByteArray} {p : Nat} (h : zB c p 6) : decode c p = .ok (Instr.iconst 3, 1) := (zg_0 p).elim (fun _ q => zi_k0 q.1 (q.2.2.2.2.2.2.1) h)
theorem zo_7 {c : ByteArray} {p : Nat} (h : zB c p 7) : decode c p = .ok (Instr.iconst 4, 1) := (zg_0 p).elim (fun _ q => zi_k0 q.1 (q.2.2.2.2.2.2.2.1) h)
theorem zo_8 {c : ByteArray} {p : Nat} (h : zB c p 8) : decode c p = .ok (Instr.iconst 5, 1) := (zg_0 p).elim (fun _ q => zi_k0 q.1 (q.2.2.2.2.2.2.2.2.1) h)
theorem zo_9 {c : ByteArray} {p : Nat} (h : zB c p 9) : decode c p = .ok (Instr.lconst 0, 1) := (zg_0 p).elim (fun _ q => zi_k0 q.1 (q.2.2.2.2.2.2.2.2.2.1) h)
theorem zo_10 {c : ByteArray} {p : Nat} (h : zB c p 10) : decode c p = .ok (Instr.lconst 1, 1) := (zg_0 p).elim (fun _ q => zi_k0 q.1 (q.2.2.2.2.2.2.2.2.2.2) h)
theorem zg_1 (p : Nat) : ∃ K : Nat → Decoder Instr, Decoder.instr p = Reader.u1 >>= K ∧ K 16 = (Reader.s1 >>= fun x => Pure.pure (Instr.bipush x)) ∧ K 17 = (Reader.s2 >>= fun x => Pure.pure (Instr.sipush x)) ∧ K 18 = (Reader.u1 >>= fun x => Pure.pure (Instr.ldc x)) ∧ K 19 = (Reader.u2 >>= fun x => Pure.pure (Instr.ldc_w x)) ∧ K 20 = (Reader.u2 >>= fun x => Pure.pure (Instr.ldc2_w x)) ∧ K 21 = (Reader.u1 >>= fun x => Pure.pure (Instr.iload x)) ∧ K 22 = (Reader.u1 >>= fun x => Pure.pure (Instr.lload x)) ∧ K 25 = (Reader.u1 >>= fun x => Pure.pure (Instr.aload x)) ∧ K 26 = Pure.pure (Instr.iload_n 0) ∧ K 27 = Pure.pure (Instr.iload_n 1) := ⟨_, rfl, rfl, rfl, rfl, rfl, rfl, rfl, rfl, rfl, rfl, rfl⟩
theorem zo_16 {c : ByteArray} {p a : Nat} {o : Int} (h : zB c p 16) (h1 : zB c (p + 1) a) (ho : Reader.signed 8 a = o) : decode c p = .ok (Instr.bipush o, 2) := (zg_1 p).elim (fun _ q => zi_k1s q.1 (q.2.1) h h1 ho)
theorem zo_17 {c : ByteArray} {p a b : Nat} {o : Int} (h : zB c p 17) (h1 : zB c (p + 1) a) (h2 : zB c (p + 2) b) (ho : Reader.signed 16 (a * 256 + b) = o) : decode c p = .ok (Instr.sipush o, 3) := (zg_1 p).elim (fun _ q => zi_k2s q.1 (q.2.2.1) h h1 h2 ho)
theorem zo_18 {c : ByteArray} {p a : Nat} (h : zB c p 18) (h1 : zB c (p + 1) a) : decode c p = .ok (Instr.ldc a, 2) := (zg_1 p).elim (fun _ q => zi_k1 q.1 (q.2.2.2.1) h h1)
theorem zo_19 {c : ByteArray} {p a b o : Nat} (h : zB c p 19) (h1 : zB c (p + 1) a) (h2 : zB c (p + 2) b) (ho : a * 256 + b = o) : decode c p = .ok (Instr.ldc_w o, 3) := (zg_1 p).elim (fun _ q => zi_k2 q.1 (q.2.2.2.2.1) h h1 h2 ho)
theorem zo_20 {c : ByteArray} {p a b o : Nat} (h : zB c p 20) (h1 : zB c (p + 1) a) (h2 : zB c (p + 2) b) (ho : a * 256 + b = o) : decode c p = .ok (Instr.ldc2_w o, 3) := (zg_1 p).elim (fun _ q => zi_k2 q.1 (q.2.2.2.2.2.1) h h1 h2 ho)
theorem zo_21 {c : ByteArray} {p a : Nat} (h : zB c p 21) (h1 : zB c (p + 1) a) : decode c p = .ok (Instr.iload a, 2) := (zg_1 p).elim (fun _ q => zi_k1 q.1 (q.2.2.2.2.2.2.1) h h1)
theorem zo_22 {c : ByteArray} {p a : Nat} (h : zB c p 22) (h1 : zB c (p + 1) a) : decode c p = .ok (Instr.lload a, 2) := (zg_1 p).elim (fun _ q => zi_k1 q.1 (q.2.2.2.2.2.2.2.1) h h1)
theorem zo_25 {c : ByteArray} {p a : Nat} (h : zB c p 25) (h1 : zB c (p + 1) a) : decode c p = .ok (Instr.aload a, 2) := (zg_1 p).elim (fun _ q => zi_k1 q.1 (q.2.2.2.2.2.2.2.2.1) h h1)
theorem zo_26 {c : ByteArray} {p : Nat} (h : zB c p 26) : decode c p = .ok (Instr.iload_n 0, 1) := (zg_1 p).elim (fun _ q => zi_k0 q.1 (q.2.2.2.2.2.2.2.2.2.1) h)
theorem zo_27 {c : ByteArray} {p : Nat} (h : zB c p 27) : decode c p = .ok (Instr.iload_n 1, 1) := (zg_1 p).elim (fun _ q => zi_k0 q.1 (q.2.2.2.2.2.2.2.2.2.2) h)
theorem zg_2 (p : Nat) : ∃ K : Nat → Decoder Instr, Decoder.instr p = Reader.u1 >>= K ∧ K 28 = Pure.pure (Instr.iload_n 2) ∧ K 29 = Pure.pure (Instr.iload_n 3) ∧ K 30 = Pure.pure (Instr.lload_n 0) ∧ K 31 = Pure.pure (Instr.lload_n 1) ∧ K 32 = Pure.pure (Instr.lload_n 2) ∧ K 33 = Pure.pure (Instr.lload_n 3) ∧ K 42 = Pure.pure (Instr.aload_n 0) ∧ K 43 = Pure.pure (Instr.aload_n 1) ∧ K 44 = Pure.pure (Instr.aload_n 2) ∧ K 45 = Pure.pure (Instr.aload_n 3) := ⟨_, rfl, rfl, rfl, rfl, rfl, rfl, rfl, rfl, rfl, rfl, rfl⟩
theorem zo_28 {c : ByteArray} {p : Nat} (h : zB c p 28) : decode c p = .ok (Instr.iload_n 2, 1) := (zg_2 p).elim (fun _ q => zi_k0 q.1 (q.2.1) h)
theorem zo_29 {c : ByteArray} {p : Nat} (h : zB c p 29) : decode c p = .ok (Instr.iload_n 3, 1) := (zg_2 p).elim (fun _ q => zi_k0 q.1 (q.2.2.1) h)
theorem zo_30 {c : ByteArray} {p : Nat} (h : zB c p 30) : decode c p = .ok (Instr.lload_n 0, 1) := (zg_2 p).elim (fun _ q => zi_k0 q.1 (q.2.2.2.1) h)
theorem zo_31 {c : ByteArray} {p : Nat} (h : zB c p 31) : decode c p = .ok (Instr.lload_n 1, 1) := (zg_2 p).elim (fun _ q => zi_k0 q.1 (q.2.2.2.2.1) h)
theorem zo_32 {c : ByteArray} {p : Nat} (h : zB c p 32) : decode c p = .ok (Instr.lload_n 2, 1) := (zg_2 p).elim (fun _ q => zi_k0 q.1 (q.2.2.2.2.2.1) h)
theorem zo_33 {c : ByteArray} {p : Nat} (h : zB c p 33) : decode c p = .ok (Instr.lload_n 3, 1) := (zg_2 p).elim (fun _ q => zi_k0 q.1 (q.2.2.2.2.2.2.1) h)
theorem zo_42 {c : ByteArray} {p : Nat} (h : zB c p 42) : decode c p = .ok (Instr.aload_n 0, 1) := (zg_2 p).elim (fun _ q => zi_k0 q.1 (q.2.2.2.2.2.2.2.1) h)
theorem zo_43 {c : ByteArray} {p : Nat} (h : zB c p 43) : decode c p = .ok (Instr.aload_n 1, 1) := (zg_2 p).elim (fun _ q => zi_k0 q.1 (q.2.2.2.2.2.2.2.2.1) h)
theorem zo_44 {c : ByteArray} {p : Nat} (h : zB c p 44) : decode c p = .ok (Instr.aload_n 2, 1) := (zg_2 p).elim (fun _ q => zi_k0 q.1 (q.2.2.2.2.2.2.2.2.2.1) h)
theorem zo_45 {c : ByteArray} {p : Nat} (h : zB c p 45) : decode c p = .ok (Instr.aload_n 3, 1) := (zg_2 p).elim (fun _ q => zi_k0 q.1 (q.2.2.2.2.2.2.2.2.2.2) h)
theorem zg_3 (p : Nat) : ∃ K : Nat → Decoder Instr, Decoder.instr p = Reader.u1 >>= K ∧ K 46 = Pure.pure (Instr.iaload) ∧ K 47 = Pure.pure (Instr.laload) ∧ K 50 = Pure.pure (Instr.aaload) ∧ K 51 = Pure.pure (Instr.baload) ∧ K 52 = Pure.pure (Instr.caload) ∧ K 54 = (Reader.u1 >>= fun x => Pure.pure (Instr.istore x)) ∧ K 55 = (Reader.u1 >>= fun x => Pure.pure (Instr.lstore x)) ∧ K 58 = (Reader.u1 >>= fun x => Pure.pure (Instr.astore x)) ∧ K 59 = Pure.pure (Instr.istore_n 0) ∧ K 60 = Pure.pure (Instr.istore_n 1) := ⟨_, rfl, rfl, rfl, rfl, rfl, rfl, rfl, rfl, rfl, rfl, rfl⟩
theorem zo_46 {c : ByteArray} {p : Nat} (h : zB c p 46) : decode c p = .ok (Instr.iaload, 1) := (zg_3 p).elim (fun _ q => zi_k0 q.1 (q.2.1) h)
theorem zo_47 {c : ByteArray} {p : Nat} (h : zB c p 47) : decode c p = .ok (Instr.laload, 1) := (zg_3 p).elim (fun _ q => zi_k0 q.1 (q.2.2.1) h)
theorem zo_50 {c : ByteArray} {p : Nat} (h : zB c p 50) : decode c p = .ok (Instr.aaload, 1) := (zg_3 p).elim (fun _ q => zi_k0 q.1 (q.2.2.2.1) h)
theorem zo_51 {c : ByteArray} {p : Nat} (h : zB c p 51) : decode c p = .ok (Instr.baload, 1) := (zg_3 p).elim (fun _ q => zi_k0 q.1 (q.2.2.2.2.1) h)
theorem zo_52 {c : ByteArray} {p : Nat} (h : zB c p 52) : decode c p = .ok (Instr.caload, 1) := (zg_3 p).elim (fun _ q => zi_k0 q.1 (q.2.2.2.2.2.1) h)
theorem zo_54 {c : ByteArray} {p a : Nat} (h : zB c p 54) (h1 : zB c (p + 1) a) : decode c p = .ok (Instr.istore a, 2) := (zg_3 p).elim (fun _ q => zi_k1 q.1 (q.2.2.2.2.2.2.1) h h1)
theorem zo_55 {c : ByteArray} {p a : Nat} (h : zB c p 55) (h1 : zB c (p + 1) a) : decode c p = .ok (Instr.lstore a, 2) := (zg_3 p).elim (fun _ q => zi_k1 q.1 (q.2.2.2.2.2.2.2.1) h h1)
theorem zo_58 {c : ByteArray} {p a : Nat} (h : zB c p 58) (h1 : zB c (p + 1) a) : decode c p = .ok (Instr.astore a, 2) := (zg_3 p).elim (fun _ q => zi_k1 q.1 (q.2.2.2.2.2.2.2.2.1) h h1)
theorem zo_59 {c : ByteArray} {p : Nat} (h : zB c p 59) : decode c p = .ok (Instr.istore_n 0, 1) := (zg_3 p).elim (fun _ q => zi_k0 q.1 (q.2.2.2.2.2.2.2.2.2.1) h)
theorem zo_60 {c : ByteArray} {p : Nat} (h : zB c p 60) : decode c p = .ok (Instr.istore_n 1, 1) := (zg_3 p).elim (fun _ q => zi_k0 q.1 (q.2.2.2.2.2.2.2.2.2.2) h)
theorem zg_4 (p : Nat) : ∃ K : Nat → Decoder Instr, Decoder.instr p = Reader.u1 >>= K ∧ K 61 = Pure.pure (Instr.istore_n 2) ∧ K 62 = Pure.pure (Instr.istore_n 3) ∧ K 63 = Pure.pure (Instr.lstore_n 0) ∧ K 64 = Pure.pure (Instr.lstore_n 1) ∧ K 65 = Pure.pure (Instr.lstore_n 2) ∧ K 66 = Pure.pure (Instr.lstore_n 3) ∧ K 75 = Pure.pure (Instr.astore_n 0) ∧ K 76 = Pure.pure (Instr.astore_n 1) ∧ K 77 = Pure.pure (Instr.astore_n 2) ∧ K 78 = Pure.pure (Instr.astore_n 3) := ⟨_, rfl, rfl, rfl, rfl, rfl, rfl, rfl, rfl, rfl, rfl, rfl⟩
theorem zo_61 {c : ByteArray} {p : Nat} (h : zB c p 61) : decode c p = .ok (Instr.istore_n 2, 1) := (zg_4 p).elim (fun _ q => zi_k0 q.1 (q.2.1) h)
theorem zo_62 {c : ByteArray} {p : Nat} (h : zB c p 62) : decode c p = .ok (Instr.istore_n 3, 1) := (zg_4 p).elim (fun _ q => zi_k0 q.1 (q.2.2.1) h)
theorem zo_63 {c : ByteArray} {p : Nat} (h : zB c p 63) : decode c p = .ok (Instr.lstore_n 0, 1) := (zg_4 p).elim (fun _ q => zi_k0 q.1 (q.2.2.2.1) h)
theorem zo_64 {c : ByteArray} {p : Nat} (h : zB c p 64) : decode c p = .ok (Instr.lstore_n 1, 1) := (zg_4 p).elim (fun _ q => zi_k0 q.1 (q.2.2.2.2.1) h)
theorem zo_65 {c : ByteArray} {p : Nat} (h : zB c p 65) : decode c p = .ok (Instr.lstore_n 2, 1) := (zg_4 p).elim (fun _ q => zi_k0 q.1 (q.2.2.2.2.2.1) h)
theorem zo_66 {c : ByteArray} {p : Nat} (h : zB c p 66) : decode c p = .ok (Instr.lstore_n 3, 1) := (zg_4 p).elim (fun _ q => zi_k0 q.1 (q.2.2.2.2.2.2.1) h)
theorem zo_75 {c : ByteArray} {p : Nat} (h : zB c p 75) : decode c p = .ok (Instr.astore_n 0, 1) := (zg_4 p).elim (fun _ q => zi_k0 q.1 (q.2.2.2.2.2.2.2.1) h)
theorem zo_76 {c : ByteArray} {p : Nat} (h : zB c p 76) : decode c p = .ok (Instr.astore_n 1, 1) := (zg_4 p).elim (fun _ q => zi_k0 q.1 (q.2.2.2.2.2.2.2.2.1) h)
theorem zo_77 {c : ByteArray} {p : Nat} (h : zB c p 77) : decode c p = .ok (Instr.astore_n 2, 1) := (zg_4 p).elim (fun _ q => zi_k0 q.1 (q.2.2.2.2.2.2.2.2.2.1) h)
theorem zo_78 {c : ByteArray} {p : Nat} (h : zB c p 78) : decode c p = .ok (Instr.astore_n 3, 1) := (zg_4 p).elim (fun _ q => zi_k0 q.1 (q.2.2.2.2.2.2.2.2.2.2) h)
theorem zg_5 (p : Nat) : ∃ K : Nat → Decoder Instr, Decoder.instr p = Reader.u1 >>= K ∧ K 79 = Pure.pure (Instr.iastore) ∧ K 80 = Pure.pure (Instr.lastore) ∧ K 83 = Pure.pure (Instr.aastore) ∧ K 84 = Pure.pure (Instr.bastore) ∧ K 85 = Pure.pure (Instr.castore) ∧ K 87 = Pure.pure (Instr.pop) ∧ K 89 = Pure.pure (Instr.dup) ∧ K 90 = Pure.pure (Instr.dup_x1) ∧ K 92 = Pure.pure (Instr.dup2) ∧ K 96 = Pure.pure (Instr.iadd) := ⟨_, rfl, rfl, rfl, rfl, rfl, rfl, rfl, rfl, rfl, rfl, rfl⟩
theorem zo_79 {c : ByteArray} {p : Nat} (h : zB c p 79) : decode c p = .ok (Instr.iastore, 1) := (zg_5 p).elim (fun _ q => zi_k0 q.1 (q.2.1) h)
theorem zo_80 {c : ByteArray} {p : Nat} (h : zB c p 80) : decode c p = .ok (Instr.lastore, 1) := (zg_5 p).elim (fun _ q => zi_k0 q.1 (q.2.2.1) h)
theorem zo_83 {c : ByteArray} {p : Nat} (h : zB c p 83) : decode c p = .ok (Instr.aastore, 1) := (zg_5 p).elim (fun _ q => zi_k0 q.1 (q.2.2.2.1) h)
theorem zo_84 {c : ByteArray} {p : Nat} (h : zB c p 84) : decode c p = .ok (Instr.bastore, 1) := (zg_5 p).elim (fun _ q => zi_k0 q.1 (q.2.2.2.2.1) h)
theorem zo_85 {c : ByteArray} {p : Nat} (h : zB c p 85) : decode c p = .ok (Instr.castore, 1) := (zg_5 p).elim (fun _ q => zi_k0 q.1 (q.2.2.2.2.2.1) h)
theorem zo_87 {c : ByteArray} {p : Nat} (h : zB c p 87) : decode c p = .ok (Instr.pop, 1) := (zg_5 p).elim (fun _ q => zi_k0 q.1 (q.2.2.2.2.2.2.1) h)
theorem zo_89 {c : ByteArray} {p : Nat} (h : zB c p 89) : decode c p = .ok (Instr.dup, 1) := (zg_5 p).elim (fun _ q => zi_k0 q.1 (q.2.2.2.2.2.2.2.1) h)
theorem zo_90 {c : ByteArray} {p : Nat} (h : zB c p 90) : decode c p = .ok (Instr.dup_x1, 1) := (zg_5 p).elim (fun _ q => zi_k0 q.1 (q.2.2.2.2.2.2.2.2.1) h)
theorem zo_92 {c : ByteArray} {p : Nat} (h : zB c p 92) : decode c p = .ok (Instr.dup2, 1) := (zg_5 p).elim (fun _ q => zi_k0 q.1 (q.2.2.2.2.2.2.2.2.2.1) h)
theorem zo_96 {c : ByteArray} {p : Nat} (h : zB c p 96) : decode c p = .ok (Instr.iadd, 1) := (zg_5 p).elim (fun _ q => zi_k0 q.1 (q.2.2.2.2.2.2.2.2.2.2) h)
theorem zg_6 (p : Nat) : ∃ K : Nat → Decoder Instr, Decoder.instr p = Reader.u1 >>= K ∧ K 97 = Pure.pure (Instr.ladd) ∧ K 100 = Pure.pure (Instr.isub) ∧ K 101 = Pure.pure (Instr.lsub) ∧ K 104 = Pure.pure (Instr.imul) ∧ K 105 = Pure.pure (Instr.lmul) ∧ K 108 = Pure.pure (Instr.idiv) ∧ K 109 = Pure.pure (Instr.ldiv) ∧ K 112 = Pure.pure (Instr.irem) ∧ K 113 = Pure.pure (Instr.lrem) ∧ K 116 = Pure.pure (Instr.ineg) := ⟨_, rfl, rfl, rfl, rfl, rfl, rfl, rfl, rfl, rfl, rfl, rfl⟩
theorem zo_97 {c : ByteArray} {p : Nat} (h : zB c p 97) : decode c p = .ok (Instr.ladd, 1) := (zg_6 p).elim (fun _ q => zi_k0 q.1 (q.2.1) h)
theorem zo_100 {c : ByteArray} {p : Nat} (h : zB c p 100) : decode c p = .ok (Instr.isub, 1) := (zg_6 p).elim (fun _ q => zi_k0 q.1 (q.2.2.1) h)
theorem zo_101 {c : ByteArray} {p : Nat} (h : zB c p 101) : decode c p = .ok (Instr.lsub, 1) := (zg_6 p).elim (fun _ q => zi_k0 q.1 (q.2.2.2.1) h)
theorem zo_104 {c : ByteArray} {p : Nat} (h : zB c p 104) : decode c p = .ok (Instr.imul, 1) := (zg_6 p).elim (fun _ q => zi_k0 q.1 (q.2.2.2.2.1) h)
theorem zo_105 {c : ByteArray} {p : Nat} (h : zB c p 105) : decode c p = .ok (Instr.lmul, 1) := (zg_6 p).elim (fun _ q => zi_k0 q.1 (q.2.2.2.2.2.1) h)
theorem zo_108 {c : ByteArray} {p : Nat} (h : zB c p 108) : decode c p = .ok (Instr.idiv, 1) := (zg_6 p).elim (fun _ q => zi_k0 q.1 (q.2.2.2.2.2.2.1) h)
theorem zo_109 {c : ByteArray} {p : Nat} (h : zB c p 109) : decode c p = .ok (Instr.ldiv, 1) := (zg_6 p).elim (fun _ q => zi_k0 q.1 (q.2.2.2.2.2.2.2.1) h)
theorem zo_112 {c : ByteArray} {p : Nat} (h : zB c p 112) : decode c p = .ok (Instr.irem, 1) := (zg_6 p).elim (fun _ q => zi_k0 q.1 (q.2.2.2.2.2.2.2.2.1) h)
theorem zo_113 {c : ByteArray} {p : Nat} (h : zB c p 113) : decode c p = .ok (Instr.lrem, 1) := (zg_6 p).elim (fun _ q => zi_k0 q.1 (q.2.2.2.2.2.2.2.2.2.1) h)
theorem zo_116 {c : ByteArray} {p : Nat} (h : zB c p 116) : decode c p = .ok (Instr.ineg, 1) := (zg_6 p).elim (fun _ q => zi_k0 q.1 (q.2.2.2.2.2.2.2.2.2.2) h)
theorem zg_7 (p : Nat) : ∃ K : Nat → Decoder Instr, Decoder.instr p = Reader.u1 >>= K ∧ K 120 = Pure.pure (Instr.ishl) ∧ K 121 = Pure.pure (Instr.lshl) ∧ K 122 = Pure.pure (Instr.ishr) ∧ K 124 = Pure.pure (Instr.iushr) ∧ K 125 = Pure.pure (Instr.lushr) ∧ K 126 = Pure.pure (Instr.iand) ∧ K 127 = Pure.pure (Instr.land) ∧ K 128 = Pure.pure (Instr.ior) ∧ K 129 = Pure.pure (Instr.lor) ∧ K 130 = Pure.pure (Instr.ixor) := ⟨_, rfl, rfl, rfl, rfl, rfl, rfl, rfl, rfl, rfl, rfl, rfl⟩
theorem zo_120 {c : ByteArray} {p : Nat} (h : zB c p 120) : decode c p = .ok (Instr.ishl, 1) := (zg_7 p).elim (fun _ q => zi_k0 q.1 (q.2.1) h)
theorem zo_121 {c : ByteArray} {p : Nat} (h : zB c p 121) : decode c p = .ok (Instr.lshl, 1) := (zg_7 p).elim (fun _ q => zi_k0 q.1 (q.2.2.1) h)
theorem zo_122 {c : ByteArray} {p : Nat} (h : zB c p 122) : decode c p = .ok (Instr.ishr, 1) := (zg_7 p).elim (fun _ q => zi_k0 q.1 (q.2.2.2.1) h)
theorem zo_124 {c : ByteArray} {p : Nat} (h : zB c p 124) : decode c p = .ok (Instr.iushr, 1) := (zg_7 p).elim (fun _ q => zi_k0 q.1 (q.2.2.2.2.1) h)
theorem zo_125 {c : ByteArray} {p : Nat} (h : zB c p 125) : decode c p = .ok (Instr.lushr, 1) := (zg_7 p).elim (fun _ q => zi_k0 q.1 (q.2.2.2.2.2.1) h)
theorem zo_126 {c : ByteArray} {p : Nat} (h : zB c p 126) : decode c p = .ok (Instr.iand, 1) := (zg_7 p).elim (fun _ q => zi_k0 q.1 (q.2.2.2.2.2.2.1) h)
theorem zo_127 {c : ByteArray} {p : Nat} (h : zB c p 127) : decode c p = .ok (Instr.land, 1) := (zg_7 p).elim (fun _ q => zi_k0 q.1 (q.2.2.2.2.2.2.2.1) h)
theorem zo_128 {c : ByteArray} {p : Nat} (h : zB c p 128) : decode c p = .ok (Instr.ior, 1) := (zg_7 p).elim (fun _ q => zi_k0 q.1 (q.2.2.2.2.2.2.2.2.1) h)
theorem zo_129 {c : ByteArray} {p : Nat} (h : zB c p 129) : decode c p = .ok (Instr.lor, 1) := (zg_7 p).elim (fun _ q => zi_k0 q.1 (q.2.2.2.2.2.2.2.2.2.1) h)
theorem zo_130 {c : ByteArray} {p : Nat} (h : zB c p 130) : decode c p = .ok (Instr.ixor, 1) := (zg_7 p).elim (fun _ q => zi_k0 q.1 (q.2.2.2.2.2.2.2.2.2.2) h)
theorem zg_8 (p : Nat) : ∃ K : Nat → Decoder Instr, Decoder.instr p = Reader.u1 >>= K ∧ K 132 = (Reader.u1 >>= fun x => Reader.s1 >>= fun y => Pure.pure (Instr.iinc x y)) ∧ K 133 = Pure.pure (Instr.i2l) ∧ K 136 = Pure.pure (Instr.l2i) ∧ K 145 = Pure.pure (Instr.i2b) ∧ K 146 = Pure.pure (Instr.i2c) ∧ K 148 = Pure.pure (Instr.lcmp) ∧ K 153 = (Reader.s2 >>= fun x => Pure.pure (Instr.ifCond .eq x)) ∧ K 154 = (Reader.s2 >>= fun x => Pure.pure (Instr.ifCond .ne x)) ∧ K 155 = (Reader.s2 >>= fun x => Pure.pure (Instr.ifCond .lt x)) ∧ K 156 = (Reader.s2 >>= fun x => Pure.pure (Instr.ifCond .ge x)) := ⟨_, rfl, rfl, rfl, rfl, rfl, rfl, rfl, rfl, rfl, rfl, rfl⟩
theorem zo_132 {c : ByteArray} {p a b : Nat} {o : Int} (h : zB c p 132) (h1 : zB c (p + 1) a) (h2 : zB c (p + 2) b) (ho : Reader.signed 8 b = o) : decode c p = .ok (Instr.iinc a o, 3) := (zg_8 p).elim (fun _ q => zi_k11 q.1 (q.2.1) h h1 h2 ho)
theorem zo_133 {c : ByteArray} {p : Nat} (h : zB c p 133) : decode c p = .ok (Instr.i2l, 1) := (zg_8 p).elim (fun _ q => zi_k0 q.1 (q.2.2.1) h)
theorem zo_136 {c : ByteArray} {p : Nat} (h : zB c p 136) : decode c p = .ok (Instr.l2i, 1) := (zg_8 p).elim (fun _ q => zi_k0 q.1 (q.2.2.2.1) h)
theorem zo_145 {c : ByteArray} {p : Nat} (h : zB c p 145) : decode c p = .ok (Instr.i2b, 1) := (zg_8 p).elim (fun _ q => zi_k0 q.1 (q.2.2.2.2.1) h)
theorem zo_146 {c : ByteArray} {p : Nat} (h : zB c p 146) : decode c p = .ok (Instr.i2c, 1) := (zg_8 p).elim (fun _ q => zi_k0 q.1 (q.2.2.2.2.2.1) h)
theorem zo_148 {c : ByteArray} {p : Nat} (h : zB c p 148) : decode c p = .ok (Instr.lcmp, 1) := (zg_8 p).elim (fun _ q => zi_k0 q.1 (q.2.2.2.2.2.2.1) h)
theorem zo_153 {c : ByteArray} {p a b : Nat} {o : Int} (h : zB c p 153) (h1 : zB c (p + 1) a) (h2 : zB c (p + 2) b) (ho : Reader.signed 16 (a * 256 + b) = o) : decode c p = .ok (Instr.ifCond .eq o, 3) := (zg_8 p).elim (fun _ q => zi_k2s q.1 (q.2.2.2.2.2.2.2.1) h h1 h2 ho)
theorem zo_154 {c : ByteArray} {p a b : Nat} {o : Int} (h : zB c p 154) (h1 : zB c (p + 1) a) (h2 : zB c (p + 2) b) (ho : Reader.signed 16 (a * 256 + b) = o) : decode c p = .ok (Instr.ifCond .ne o, 3) := (zg_8 p).elim (fun _ q => zi_k2s q.1 (q.2.2.2.2.2.2.2.2.1) h h1 h2 ho)
theorem zo_155 {c : ByteArray} {p a b : Nat} {o : Int} (h : zB c p 155) (h1 : zB c (p + 1) a) (h2 : zB c (p + 2) b) (ho : Reader.signed 16 (a * 256 + b) = o) : decode c p = .ok (Instr.ifCond .lt o, 3) := (zg_8 p).elim (fun _ q => zi_k2s q.1 (q.2.2.2.2.2.2.2.2.2.1) h h1 h2 ho)
theorem zo_156 {c : ByteArray} {p a b : Nat} {o : Int} (h : zB c p 156) (h1 : zB c (p + 1) a) (h2 : zB c (p + 2) b) (ho : Reader.signed 16 (a * 256 + b) = o) : decode c p = .ok (Instr.ifCond .ge o, 3) := (zg_8 p).elim (fun _ q => zi_k2s q.1 (q.2.2.2.2.2.2.2.2.2.2) h h1 h2 ho)
theorem zg_9 (p : Nat) : ∃ K : Nat → Decoder Instr, Decoder.instr p = Reader.u1 >>= K ∧ K 157 = (Reader.s2 >>= fun x => Pure.pure (Instr.ifCond .gt x)) ∧ K 158 = (Reader.s2 >>= fun x => Pure.pure (Instr.ifCond .le x)) ∧ K 159 = (Reader.s2 >>= fun x => Pure.pure (Instr.if_icmp .eq x)) ∧ K 160 = (Reader.s2 >>= fun x => Pure.pure (Instr.if_icmp .ne x)) ∧ K 161 = (Reader.s2 >>= fun x => Pure.pure (Instr.if_icmp .lt x)) ∧ K 162 = (Reader.s2 >>= fun x => Pure.pure (Instr.if_icmp .ge x)) ∧ K 163 = (Reader.s2 >>= fun x => Pure.pure (Instr.if_icmp .gt x)) ∧ K 164 = (Reader.s2 >>= fun x => Pure.pure (Instr.if_icmp .le x)) ∧ K 165 = (Reader.s2 >>= fun x => Pure.pure (Instr.if_acmp .eq x)) ∧ K 166 = (Reader.s2 >>= fun x => Pure.pure (Instr.if_acmp .ne x)) := ⟨_, rfl, rfl, rfl, rfl, rfl, rfl, rfl, rfl, rfl, rfl, rfl⟩
theorem zo_157 {c : ByteArray} {p a b : Nat} {o : Int} (h : zB c p 157) (h1 : zB c (p + 1) a) (h2 : zB c (p + 2) b) (ho : Reader.signed 16 (a * 256 + b) = o) : decode c p = .ok (Instr.ifCond .gt o, 3) := (zg_9 p).elim (fun _ q => zi_k2s q.1 (q.2.1) h h1 h2 ho)
theorem zo_158 {c : ByteArray} {p a b : Nat} {o : Int} (h : zB c p 158) (h1 : zB c (p + 1) a) (h2 : zB c (p + 2) b) (ho : Reader.signed 16 (a * 256 + b) = o) : decode c p = .ok (Instr.ifCond .le o, 3) := (zg_9 p).elim (fun _ q => zi_k2s q.1 (q.2.2.1) h h1 h2 ho)
theorem zo_159 {c : ByteArray} {p a b : Nat} {o : Int} (h : zB c p 159) (h1 : zB c (p + 1) a) (h2 : zB c (p + 2) b) (ho : Reader.signed 16 (a * 256 + b) = o) : decode c p = .ok (Instr.if_icmp .eq o, 3) := (zg_9 p).elim (fun _ q => zi_k2s q.1 (q.2.2.2.1) h h1 h2 ho)
theorem zo_160 {c : ByteArray} {p a b : Nat} {o : Int} (h : zB c p 160) (h1 : zB c (p + 1) a) (h2 : zB c (p + 2) b) (ho : Reader.signed 16 (a * 256 + b) = o) : decode c p = .ok (Instr.if_icmp .ne o, 3) := (zg_9 p).elim (fun _ q => zi_k2s q.1 (q.2.2.2.2.1) h h1 h2 ho)
theorem zo_161 {c : ByteArray} {p a b : Nat} {o : Int} (h : zB c p 161) (h1 : zB c (p + 1) a) (h2 : zB c (p + 2) b) (ho : Reader.signed 16 (a * 256 + b) = o) : decode c p = .ok (Instr.if_icmp .lt o, 3) := (zg_9 p).elim (fun _ q => zi_k2s q.1 (q.2.2.2.2.2.1) h h1 h2 ho)
theorem zo_162 {c : ByteArray} {p a b : Nat} {o : Int} (h : zB c p 162) (h1 : zB c (p + 1) a) (h2 : zB c (p + 2) b) (ho : Reader.signed 16 (a * 256 + b) = o) : decode c p = .ok (Instr.if_icmp .ge o, 3) := (zg_9 p).elim (fun _ q => zi_k2s q.1 (q.2.2.2.2.2.2.1) h h1 h2 ho)
theorem zo_163 {c : ByteArray} {p a b : Nat} {o : Int} (h : zB c p 163) (h1 : zB c (p + 1) a) (h2 : zB c (p + 2) b) (ho : Reader.signed 16 (a * 256 + b) = o) : decode c p = .ok (Instr.if_icmp .gt o, 3) := (zg_9 p).elim (fun _ q => zi_k2s q.1 (q.2.2.2.2.2.2.2.1) h h1 h2 ho)
theorem zo_164 {c : ByteArray} {p a b : Nat} {o : Int} (h : zB c p 164) (h1 : zB c (p + 1) a) (h2 : zB c (p + 2) b) (ho : Reader.signed 16 (a * 256 + b) = o) : decode c p = .ok (Instr.if_icmp .le o, 3) := (zg_9 p).elim (fun _ q => zi_k2s q.1 (q.2.2.2.2.2.2.2.2.1) h h1 h2 ho)
theorem zo_165 {c : ByteArray} {p a b : Nat} {o : Int} (h : zB c p 165) (h1 : zB c (p + 1) a) (h2 : zB c (p + 2) b) (ho : Reader.signed 16 (a * 256 + b) = o) : decode c p = .ok (Instr.if_acmp .eq o, 3) := (zg_9 p).elim (fun _ q => zi_k2s q.1 (q.2.2.2.2.2.2.2.2.2.1) h h1 h2 ho)
theorem zo_166 {c : ByteArray} {p a b : Nat} {o : Int} (h : zB c p 166) (h1 : zB c (p + 1) a) (h2 : zB c (p + 2) b) (ho : Reader.signed 16 (a * 256 + b) = o) : decode c p = .ok (Instr.if_acmp .ne o, 3) := (zg_9 p).elim (fun _ q => zi_k2s q.1 (q.2.2.2.2.2.2.2.2.2.2) h h1 h2 ho)
theorem zg_10 (p : Nat) : ∃ K : Nat → Decoder Instr, Decoder.instr p = Reader.u1 >>= K ∧ K 167 = (Reader.s2 >>= fun x => Pure.pure (Instr.goto x)) ∧ K 172 = Pure.pure (Instr.ireturn) ∧ K 173 = Pure.pure (Instr.lreturn) ∧ K 176 = Pure.pure (Instr.areturn) ∧ K 177 = Pure.pure (Instr.return_) ∧ K 178 = (Reader.u2 >>= fun x => Pure.pure (Instr.getstatic x)) ∧ K 179 = (Reader.u2 >>= fun x => Pure.pure (Instr.putstatic x)) ∧ K 180 = (Reader.u2 >>= fun x => Pure.pure (Instr.getfield x)) ∧ K 181 = (Reader.u2 >>= fun x => Pure.pure (Instr.putfield x)) ∧ K 182 = (Reader.u2 >>= fun x => Pure.pure (Instr.invokevirtual x)) := ⟨_, rfl, rfl, rfl, rfl, rfl, rfl, rfl, rfl, rfl, rfl, rfl⟩
theorem zo_167 {c : ByteArray} {p a b : Nat} {o : Int} (h : zB c p 167) (h1 : zB c (p + 1) a) (h2 : zB c (p + 2) b) (ho : Reader.signed 16 (a * 256 + b) = o) : decode c p = .ok (Instr.goto o, 3) := (zg_10 p).elim (fun _ q => zi_k2s q.1 (q.2.1) h h1 h2 ho)
theorem zo_172 {c : ByteArray} {p : Nat} (h : zB c p 172) : decode c p = .ok (Instr.ireturn, 1) := (zg_10 p).elim (fun _ q => zi_k0 q.1 (q.2.2.1) h)
theorem zo_173 {c : ByteArray} {p : Nat} (h : zB c p 173) : decode c p = .ok (Instr.lreturn, 1) := (zg_10 p).elim (fun _ q => zi_k0 q.1 (q.2.2.2.1) h)
theorem zo_176 {c : ByteArray} {p : Nat} (h : zB c p 176) : decode c p = .ok (Instr.areturn, 1) := (zg_10 p).elim (fun _ q => zi_k0 q.1 (q.2.2.2.2.1) h)
theorem zo_177 {c : ByteArray} {p : Nat} (h : zB c p 177) : decode c p = .ok (Instr.return_, 1) := (zg_10 p).elim (fun _ q => zi_k0 q.1 (q.2.2.2.2.2.1) h)
theorem zo_178 {c : ByteArray} {p a b o : Nat} (h : zB c p 178) (h1 : zB c (p + 1) a) (h2 : zB c (p + 2) b) (ho : a * 256 + b = o) : decode c p = .ok (Instr.getstatic o, 3) := (zg_10 p).elim (fun _ q => zi_k2 q.1 (q.2.2.2.2.2.2.1) h h1 h2 ho)
theorem zo_179 {c : ByteArray} {p a b o : Nat} (h : zB c p 179) (h1 : zB c (p + 1) a) (h2 : zB c (p + 2) b) (ho : a * 256 + b = o) : decode c p = .ok (Instr.putstatic o, 3) := (zg_10 p).elim (fun _ q => zi_k2 q.1 (q.2.2.2.2.2.2.2.1) h h1 h2 ho)
theorem zo_180 {c : ByteArray} {p a b o : Nat} (h : zB c p 180) (h1 : zB c (p + 1) a) (h2 : zB c (p + 2) b) (ho : a * 256 + b = o) : decode c p = .ok (Instr.getfield o, 3) := (zg_10 p).elim (fun _ q => zi_k2 q.1 (q.2.2.2.2.2.2.2.2.1) h h1 h2 ho)
theorem zo_181 {c : ByteArray} {p a b o : Nat} (h : zB c p 181) (h1 : zB c (p + 1) a) (h2 : zB c (p + 2) b) (ho : a * 256 + b = o) : decode c p = .ok (Instr.putfield o, 3) := (zg_10 p).elim (fun _ q => zi_k2 q.1 (q.2.2.2.2.2.2.2.2.2.1) h h1 h2 ho)
theorem zo_182 {c : ByteArray} {p a b o : Nat} (h : zB c p 182) (h1 : zB c (p + 1) a) (h2 : zB c (p + 2) b) (ho : a * 256 + b = o) : decode c p = .ok (Instr.invokevirtual o, 3) := (zg_10 p).elim (fun _ q => zi_k2 q.1 (q.2.2.2.2.2.2.2.2.2.2) h h1 h2 ho)
theorem zg_11 (p : Nat) : ∃ K : Nat → Decoder Instr, Decoder.instr p = Reader.u1 >>= K ∧ K 183 = (Reader.u2 >>= fun x => Pure.pure (Instr.invokespecial x)) ∧ K 184 = (Reader.u2 >>= fun x => Pure.pure (Instr.invokestatic x)) ∧ K 187 = (Reader.u2 >>= fun x => Pure.pure (Instr.new x)) ∧ K 188 = Decoder.newarray p ∧ K 189 = (Reader.u2 >>= fun x => Pure.pure (Instr.anewarray x)) ∧ K 190 = Pure.pure (Instr.arraylength) ∧ K 191 = Pure.pure (Instr.athrow) ∧ K 192 = (Reader.u2 >>= fun x => Pure.pure (Instr.checkcast x)) := ⟨_, rfl, rfl, rfl, rfl, rfl, rfl, rfl, rfl, rfl⟩
theorem zo_183 {c : ByteArray} {p a b o : Nat} (h : zB c p 183) (h1 : zB c (p + 1) a) (h2 : zB c (p + 2) b) (ho : a * 256 + b = o) : decode c p = .ok (Instr.invokespecial o, 3) := (zg_11 p).elim (fun _ q => zi_k2 q.1 (q.2.1) h h1 h2 ho)
theorem zo_184 {c : ByteArray} {p a b o : Nat} (h : zB c p 184) (h1 : zB c (p + 1) a) (h2 : zB c (p + 2) b) (ho : a * 256 + b = o) : decode c p = .ok (Instr.invokestatic o, 3) := (zg_11 p).elim (fun _ q => zi_k2 q.1 (q.2.2.1) h h1 h2 ho)
theorem zo_187 {c : ByteArray} {p a b o : Nat} (h : zB c p 187) (h1 : zB c (p + 1) a) (h2 : zB c (p + 2) b) (ho : a * 256 + b = o) : decode c p = .ok (Instr.new o, 3) := (zg_11 p).elim (fun _ q => zi_k2 q.1 (q.2.2.2.1) h h1 h2 ho)
theorem zn_0 (p : Nat) : ∃ N : Nat → Decoder Instr, Decoder.newarray p = Reader.u1 >>= N ∧ N 4 = Pure.pure (Instr.newarray .boolean) ∧ N 5 = Pure.pure (Instr.newarray .char) ∧ N 8 = Pure.pure (Instr.newarray .byte) ∧ N 10 = Pure.pure (Instr.newarray .int) ∧ N 11 = Pure.pure (Instr.newarray .long) := ⟨_, rfl, rfl, rfl, rfl, rfl, rfl⟩
theorem zo_188_4 {c : ByteArray} {p : Nat} (h : zB c p 188) (h1 : zB c (p + 1) 4) : decode c p = .ok (Instr.newarray .boolean, 2) := (zg_11 p).elim (fun _ q => (zn_0 p).elim (fun _ r => zi_kn q.1 (q.2.2.2.2.1) r.1 (r.2.1) h h1))
theorem zo_188_5 {c : ByteArray} {p : Nat} (h : zB c p 188) (h1 : zB c (p + 1) 5) : decode c p = .ok (Instr.newarray .char, 2) := (zg_11 p).elim (fun _ q => (zn_0 p).elim (fun _ r => zi_kn q.1 (q.2.2.2.2.1) r.1 (r.2.2.1) h h1))
theorem zo_188_8 {c : ByteArray} {p : Nat} (h : zB c p 188) (h1 : zB c (p + 1) 8) : decode c p = .ok (Instr.newarray .byte, 2) := (zg_11 p).elim (fun _ q => (zn_0 p).elim (fun _ r => zi_kn q.1 (q.2.2.2.2.1) r.1 (r.2.2.2.1) h h1))
theorem zo_188_10 {c : ByteArray} {p : Nat} (h : zB c p 188) (h1 : zB c (p + 1) 10) : decode c p = .ok (Instr.newarray .int, 2) := (zg_11 p).elim (fun _ q => (zn_0 p).elim (fun _ r => zi_kn q.1 (q.2.2.2.2.1) r.1 (r.2.2.2.2.1) h h1))
theorem zo_188_11 {c : ByteArray} {p : Nat} (h : zB c p 188) (h1 : zB c (p + 1) 11) : decode c p = .ok (Instr.newarray .long, 2) := (zg_11 p).elim (fun _ q => (zn_0 p).elim (fun _ r => zi_kn q.1 (q.2.2.2.2.1) r.1 (r.2.2.2.2.2) h h1))
theorem zo_189 {c : ByteArray} {p a b o : Nat} (h : zB c p 189) (h1 : zB c (p + 1) a) (h2 : zB c (p + 2) b) (ho : a * 256 + b = o) : decode c p = .ok (Instr.anewarray o, 3) := (zg_11 p).elim (fun _ q => zi_k2 q.1 (q.2.2.2.2.2.1) h h1 h2 ho)
theorem zo_190 {c : ByteArray} {p : Nat} (h : zB c p 190) : decode c p = .ok (Instr.arraylength, 1) := (zg_11 p).elim (fun _ q => zi_k0 q.1 (q.2.2.2.2.2.2.1) h)
theorem zo_191 {c : ByteArray} {p : Nat} (h : zB c p 191) : decode c p = .ok (Instr.athrow, 1) := (zg_11 p).elim (fun _ q => zi_k0 q.1 (q.2.2.2.2.2.2.2.1) h)
theorem zo_192 {c : ByteArray} {p a b o : Nat} (h : zB c p 192) (h1 : zB c (p + 1) a) (h2 : zB c (p + 2) b) (ho : a * 256 + b = o) : decode c p = .ok (Instr.checkcast o, 3) := (zg_11 p).elim (fun _ q => zi_k2 q.1 (q.2.2.2.2.2.2.2.2) h h1 h2 ho)

