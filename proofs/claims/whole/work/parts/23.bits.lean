/-! bits of ints and longs (the first rows as the kit's laws give them for pasting) -/
section BTA
def bt (x : Int32) (i : Nat) : Bool := x.toBitVec.getLsbD i
theorem b_ext {x y : Int32} (h : ∀ i, i < 32 → bt x i = bt y i) : x = y := Int32.toBitVec_inj.mp (BitVec.eq_of_getLsbD_eq (fun i hi => h i hi))
theorem b_or (x y : Int32) (i : Nat) : bt (x ||| y) i = (bt x i || bt y i) := by unfold bt; rw [Int32.toBitVec_or, BitVec.getLsbD_or]
theorem b_and (x y : Int32) (i : Nat) : bt (x &&& y) i = (bt x i && bt y i) := by unfold bt; rw [Int32.toBitVec_and, BitVec.getLsbD_and]
theorem b_big {x : Int32} {i : Nat} (h : 32 ≤ i) : bt x i = false := BitVec.getLsbD_of_ge _ _ h
theorem b_m1 : ∀ i, i < 32 → bt (-1) i = true := by decide +kernel
theorem b_0 (i : Nat) : bt 0 i = false := BitVec.getLsbD_zero
theorem s_l : ∀ n, n < 32 → ((nI n &&& 31).toBitVec.smod 32).toNat = n := by decide +kernel
theorem s_u : ∀ n, n < 32 → (((nI n).toUInt32 &&& Int32.toUInt32 31).toBitVec % 32).toNat = n := by decide +kernel
theorem b_shl (n : Nat) (hn : n < 32) (x : Int32) {i : Nat} (hi : i < 32) : bt (x <<< (nI n &&& 31)) i = (decide (n ≤ i) && bt x (i - n)) := by
  unfold bt
  rw [Int32.toBitVec_shiftLeft]
  show (x.toBitVec <<< ((nI n &&& 31).toBitVec.smod 32).toNat).getLsbD i = _
  rw [s_l n hn, BitVec.getLsbD_shiftLeft]
  rcases Nat.lt_or_ge i n with h | h
  · simp [h, Nat.not_le.mpr h]
  · simp [hi, h, Nat.not_lt.mpr h]
theorem b_ushr (n : Nat) (hn : n < 32) (x : Int32) (i : Nat) : bt ((x.toUInt32 >>> ((nI n).toUInt32 &&& Int32.toUInt32 31)).toInt32) i = bt x (n + i) := by
  show (x.toUInt32 >>> ((nI n).toUInt32 &&& Int32.toUInt32 31)).toBitVec.getLsbD i = x.toUInt32.toBitVec.getLsbD (n + i)
  rw [UInt32.toBitVec_shiftRight]
  show (x.toUInt32.toBitVec >>> (((nI n).toUInt32 &&& Int32.toUInt32 31).toBitVec % 32).toNat).getLsbD i = _
  rw [s_u n hn, BitVec.getLsbD_ushiftRight]
theorem b_sshr (n : Nat) (hn : n < 32) (x : Int32) {i : Nat} (hi : i < 32) : bt (x >>> (nI n &&& 31)) i = if n + i < 32 then bt x (n + i) else bt x 31 := by
  unfold bt
  rw [Int32.toBitVec_shiftRight]
  show (x.toBitVec.sshiftRight ((nI n &&& 31).toBitVec.smod 32).toNat).getLsbD i = _
  rw [s_l n hn, BitVec.getLsbD_sshiftRight, BitVec.msb_eq_getLsbD_last]
  simp [hi]
theorem b_one : ∀ i, i < 32 → ∀ j, j < 32 → bt ((1 : Int32) <<< (nI i &&& 31)) j = decide (i = j) := by decide +kernel
theorem b_none {w : Int32} (h : ∀ i, i < 32 → bt w i = false) : w = 0 := b_ext (fun i hi => by rw [h i hi, b_0])
theorem b_tst {w : Int32} {i : Nat} (hi : i < 32) : wr_ne (w &&& ((1 : Int32) <<< (nI i &&& 31))) 0 = bt w i := by
  unfold wr_ne
  cases h : bt w i with
  | false =>
    have : w &&& ((1 : Int32) <<< (nI i &&& 31)) = 0 := b_none (fun j hj => by
      rw [b_and, b_one i hi j hj]
      by_cases e : i = j
      · subst e; rw [h]; rfl
      · simp [e])
    rw [this]; rfl
  | true =>
    have : ¬ w &&& ((1 : Int32) <<< (nI i &&& 31)) = 0 := fun e => by
      have h2 : bt (w &&& ((1 : Int32) <<< (nI i &&& 31))) i = true := by rw [b_and, b_one i hi i hi, h]; simp
      rw [e, b_0] at h2
      cases h2
    simp [this]
theorem b_tse {w : Int32} {i : Nat} (hi : i < 32) : wr_eq (w &&& ((1 : Int32) <<< (nI i &&& 31))) 0 = !bt w i := by
  rw [← b_tst hi]
  unfold wr_eq wr_ne
  simp
theorem b_b1 : ∀ j, j < 32 → bt 1 j = decide (j = 0) := by decide +kernel
theorem b_sts {w : Int32} {i : Nat} (hi : i < 32) : wr_eq ((w >>> (nI i &&& 31)) &&& 1) 1 = bt w i := by
  have key : ∀ j, j < 32 → bt ((w >>> (nI i &&& 31)) &&& 1) j = (decide (j = 0) && bt w i) := by
    intro j hj
    rw [b_and, b_b1 j hj]
    by_cases e : j = 0
    · subst e
      rw [b_sshr i hi w hj]
      simp [hi]
    · simp [e]
  unfold wr_eq
  cases h : bt w i with
  | false =>
    have : (w >>> (nI i &&& 31)) &&& 1 = 0 := b_none (fun j hj => by rw [key j hj, h]; simp)
    rw [this]; decide
  | true =>
    have : (w >>> (nI i &&& 31)) &&& 1 = 1 := b_ext (fun j hj => by rw [key j hj, h, b_b1 j hj]; simp)
    rw [this]; decide
theorem b_not {w : Int32} {i : Nat} (hi : i < 32) : bt (w ^^^ (-1)) i = !bt w i := by
  unfold bt
  rw [Int32.toBitVec_xor, BitVec.getLsbD_xor]
  have := b_m1 i hi
  unfold bt at this
  rw [this]
  simp
theorem b_all : ∀ n, n < 13 → ∀ j, j < 32 → bt (((1 : Int32) <<< (nI n &&& 31)) - 1) j = decide (j < n) := by decide +kernel
theorem b_add1 {w : Int32} {i j : Nat} (hi : i < 32) (hj : j < 32) : bt (w ||| ((1 : Int32) <<< (nI i &&& 31))) j = (bt w j || decide (i = j)) := by rw [b_or, b_one i hi j hj]
theorem b_ne0 {w : Int32} : wr_ne w 0 = true ↔ ∃ j, j < 32 ∧ bt w j = true := by
  unfold wr_ne
  constructor
  · intro h
    refine Classical.byContradiction fun hn => ?_
    have : w = 0 := b_none (fun i hi => by
      cases e : bt w i with
      | false => rfl
      | true => exact absurd ⟨i, hi, e⟩ hn)
    rw [this] at h
    simp at h
  · rintro ⟨j, _, h⟩
    have : ¬ w = 0 := fun e => by rw [e, b_0] at h; cases h
    simp [this]
theorem b_eq0 {w : Int32} : wr_eq w 0 = true ↔ ∀ j, j < 32 → bt w j = false := by
  unfold wr_eq
  constructor
  · intro h j _
    rw [of_decide_eq_true h, b_0]
  · intro h
    simp [b_none h]
/-- longs -/
def bl (x : Int64) (i : Nat) : Bool := x.toBitVec.getLsbD i
theorem l_ext {x y : Int64} (h : ∀ i, i < 64 → bl x i = bl y i) : x = y := Int64.toBitVec_inj.mp (BitVec.eq_of_getLsbD_eq (fun i hi => h i hi))
theorem l_or (x y : Int64) (i : Nat) : bl (x ||| y) i = (bl x i || bl y i) := by unfold bl; rw [Int64.toBitVec_or, BitVec.getLsbD_or]
theorem l_and (x y : Int64) (i : Nat) : bl (x &&& y) i = (bl x i && bl y i) := by unfold bl; rw [Int64.toBitVec_and, BitVec.getLsbD_and]
theorem l_0 (i : Nat) : bl 0 i = false := BitVec.getLsbD_zero
theorem l_m1 : ∀ i, i < 64 → bl (-1) i = true := by decide +kernel
theorem l_not {w : Int64} {i : Nat} (hi : i < 64) : bl (w ^^^ (-1)) i = !bl w i := by
  unfold bl
  rw [Int64.toBitVec_xor, BitVec.getLsbD_xor]
  have := l_m1 i hi
  unfold bl at this
  rw [this]
  simp
theorem l_one : ∀ i, i < 64 → ∀ j, j < 64 → bl ((1 : Int64) <<< ((nI i).toInt64 &&& 63)) j = decide (i = j) := by decide +kernel
theorem l_none {w : Int64} (h : ∀ i, i < 64 → bl w i = false) : w = 0 := l_ext (fun i hi => by rw [h i hi, l_0])
theorem l_add1 {w : Int64} {i j : Nat} (hi : i < 64) (hj : j < 64) : bl (w ||| ((1 : Int64) <<< ((nI i).toInt64 &&& 63))) j = (bl w j || decide (i = j)) := by rw [l_or, l_one i hi j hj]
theorem l_cmp {x y : Int64} : wr_ne (lg_cmp x y) 0 = !decide (x = y) := by
  unfold wr_ne lg_cmp
  by_cases h : x = y
  · subst h
    simp
  · by_cases h2 : x < y
    · simp [h]; split <;> decide
    · simp [h]; split <;> decide
theorem l_cmpe {x y : Int64} : wr_eq (lg_cmp x y) 0 = decide (x = y) := by
  have := l_cmp (x := x) (y := y)
  unfold wr_eq
  unfold wr_ne at this
  simpa using this
theorem l_ne0 {w : Int64} : (!decide (w = 0)) = true ↔ ∃ j, j < 64 ∧ bl w j = true := by
  constructor
  · intro h
    refine Classical.byContradiction fun hn => ?_
    have : w = 0 := l_none (fun i hi => by
      cases e : bl w i with
      | false => rfl
      | true => exact absurd ⟨i, hi, e⟩ hn)
    rw [this] at h
    simp at h
  · rintro ⟨j, _, h⟩
    have : ¬ w = 0 := fun e => by rw [e, l_0] at h; cases h
    simp [this]
theorem l_tst {w : Int64} {i : Nat} (hi : i < 64) : (!decide (w &&& ((1 : Int64) <<< ((nI i).toInt64 &&& 63)) = 0)) = bl w i := by
  cases h : bl w i with
  | false =>
    have : w &&& ((1 : Int64) <<< ((nI i).toInt64 &&& 63)) = 0 := l_none (fun j hj => by
      rw [l_and, l_one i hi j hj]
      by_cases e : i = j
      · subst e; rw [h]; rfl
      · simp [e])
    rw [this]; rfl
  | true =>
    have : ¬ w &&& ((1 : Int64) <<< ((nI i).toInt64 &&& 63)) = 0 := fun e => by
      have h2 : bl (w &&& ((1 : Int64) <<< ((nI i).toInt64 &&& 63))) i = true := by rw [l_and, l_one i hi i hi, h]; simp
      rw [e, l_0] at h2
      cases h2
    simp [this]
end BTA
