def yX0_init : MethodName := ⟨RX0, "<init>", "()V"⟩
def yX10_init : MethodName := ⟨RX10, "<init>", "()V"⟩
def yX12_within : MethodName := ⟨RX12, "within", "(III)Z"⟩
def yX12_held : MethodName := ⟨RX12, "held", "(III)I"⟩
def yX12_isOneOf : MethodName := ⟨RX12, "isOneOf", "(Ljava/lang/String;I)Z"⟩
/-- an object of 97 slots by what each holds -/
def mL (f : Nat → Value) : List Value := (List.range 97).map f
theorem mL_default (ty : Nat → FieldType) (j : Nat) (hj : j < 97) : defaultValue (ty j) = vp_V (mL (fun j => defaultValue (ty j))) j := by
  simp [vp_V, mL, List.getD, hj]
theorem ub_keep {D : va_G} {cl : List vw_C} {ws : va_W} {H H1 : Heap} (hP : va_P D cl ws H) (hk : ∀ q : Nat, q < H.size → ¬ (fun _ : Nat => False) q → H1[q]? = H[q]?) : va_P D cl ws H1 :=
  hP.kept (fun k q h => hk q.1 (hP k q h).lt id)
theorem ub_P0 {D : va_G} {cl : List vw_C} {H : Heap} : va_P D cl [] H := fun k q h => by simp at h
theorem ub_D0 {A : Nat → Prop} : va_D A [] := ⟨fun i j p q h => by simp at h, fun k q h => by simp at h⟩
theorem ub_nle {x y : Int32} (h : x < y) : ¬ y ≤ x := Int32.not_le.mpr h
theorem ub_le {x y : Int32} (h : ¬ x < y) : y ≤ x := Int32.not_lt.mp h
/-- the words of the nest that the walks take: private members called from a class of the same nest -/
def ub_NX (U : State) : Prop := va_Nw (.methodLinkNest RX12 18 yX10_init "UnlikeBoats") U ∧ va_Nw (.methodLinkNest RX12 9 yX0_init "UnlikeBoats") U ∧ va_Nw (.methodLinkNest RX0 52 yX12_within "UnlikeBoats") U ∧ va_Nw (.methodLinkNest RX8 114 yX12_held "UnlikeBoats") U ∧ va_Nw (.methodLinkNest RX10 66 yX12_isOneOf "UnlikeBoats") U
theorem ub_nx0 {U : State} (h : ub_NX U) : va_Nw (.methodLinkNest RX12 18 yX10_init "UnlikeBoats") U := h.1
theorem ub_nx1 {U : State} (h : ub_NX U) : va_Nw (.methodLinkNest RX12 9 yX0_init "UnlikeBoats") U := h.2.1
theorem ub_NX_c {U : State} {a : Array Value} {g : JFrame} {mk : MethodId} (h : ub_NX U) : ub_NX (U.calling g mk a) :=
  ⟨va_Nw.same rfl rfl h.1, va_Nw.same rfl rfl h.2.1, va_Nw.same rfl rfl h.2.2.1, va_Nw.same rfl rfl h.2.2.2.1, va_Nw.same rfl rfl h.2.2.2.2⟩
theorem ub_NX_w {s U : State} (hW : s.WarmedH U.vm) (h : ub_NX s) : ub_NX U :=
  ⟨va_Nw.warmM hW h.1, va_Nw.warmM hW h.2.1, va_Nw.warmM hW h.2.2.1, va_Nw.warmM hW h.2.2.2.1, va_Nw.warmM hW h.2.2.2.2⟩
/-! bits: begun from kit/laws/BITS.to-paste -/
def bt (x : Int32) (i : Nat) : Bool := x.toBitVec.getLsbD i
theorem b_ext {x y : Int32} (h : ∀ i, i < 32 → bt x i = bt y i) : x = y := Int32.toBitVec_inj.mp (BitVec.eq_of_getLsbD_eq (fun i hi => h i hi))
theorem b_and (x y : Int32) (i : Nat) : bt (x &&& y) i = (bt x i && bt y i) := by unfold bt; rw [Int32.toBitVec_and, BitVec.getLsbD_and]
theorem b_255 : ∀ i, i < 32 → bt 255 i = decide (i < 8) := by decide +kernel
theorem s_l : ∀ n, n < 32 → ((nI n &&& 31).toBitVec.smod 32).toNat = n := by decide +kernel
theorem s_u : ∀ n, n < 32 → (((nI n).toUInt32 &&& Int32.toUInt32 31).toBitVec % 32).toNat = n := by decide +kernel
theorem b_ushr (n : Nat) (hn : n < 32) (x : Int32) (i : Nat) : bt ((x.toUInt32 >>> ((nI n).toUInt32 &&& Int32.toUInt32 31)).toInt32) i = bt x (n + i) := by
  show (x.toUInt32 >>> ((nI n).toUInt32 &&& Int32.toUInt32 31)).toBitVec.getLsbD i = x.toUInt32.toBitVec.getLsbD (n + i)
  rw [UInt32.toBitVec_shiftRight]
  show (x.toUInt32.toBitVec >>> (((nI n).toUInt32 &&& Int32.toUInt32 31).toBitVec % 32).toNat).getLsbD i = _
  rw [s_u n hn, BitVec.getLsbD_ushiftRight]
theorem b_sshr (n : Nat) (hn : n < 32) (x : Int32) {i : Nat} (hi : i < 32) : bt (x >>> (nI n &&& 31)) i = if n + i < 32 then bt x (n + i) else bt x 31 := by
  unfold bt
  rw [Int32.toBitVec_shiftRight]
  show (x.toBitVec.sshiftRight ((nI n &&& 31).toBitVec.smod 32).toNat).getLsbD i = _
  rw [s_l n hn, BitVec.getLsbD_sshiftRight, BitVec.msb_eq_getLsbD_last]
  simp [hi]
/-- the byte of a number at a place -/
def ub_by (x : Int32) (n : Nat) : Int32 := (x.toUInt32 >>> ((nI n).toUInt32 &&& Int32.toUInt32 31)).toInt32 &&& 255
theorem ub_sh (n : Nat) (hn : n ≤ 24) (x : Int32) : (x >>> (nI n &&& 31)) &&& 255 = ub_by x n := by
  apply b_ext
  intro i hi
  unfold ub_by
  rw [b_and, b_and, b_ushr n (by omega), b_sshr n (by omega) x hi, b_255 i hi]
  by_cases h : i < 8
  · rw [if_pos (by omega)]
  · rw [decide_eq_false h, Bool.and_false, Bool.and_false]
def bN (y : Int32) : Nat := if y = 0 then 0 else 1
theorem bN_0 {y : Int32} (h : y = 0) : bN y = 0 := if_pos h
theorem bN_1 {y : Int32} (h : ¬ y = 0) : bN y = 1 := if_neg h
theorem bN_le (y : Int32) : bN y ≤ 1 := by unfold bN; split <;> omega
/-- how many bytes of a number are not 0 -/
def nbN (x : Int32) : Nat := bN (ub_by x 24) + bN (ub_by x 16) + bN (ub_by x 8) + bN (ub_by x 0)
theorem upd_all {g : Nat → Int32} {v : Int32} {i : Nat} (h : ∀ j, j < i → g j = v) : ∀ j, j < i + 1 → upd g i v j = v := by
  intro j hj
  by_cases e : j = i
  · subst e
    exact pk_us
  · rw [pk_un e]
    exact h j (by omega)

