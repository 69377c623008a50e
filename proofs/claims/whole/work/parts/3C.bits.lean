/-! Long.bitCount counts the bits -/
section PGB
def bcM (c : Nat) : Nat → Nat
  | 0 => 0
  | k + 1 => 256 * bcM c k + c
def bcB (k n : Nat) : Nat := n - ((n / 2) &&& bcM 85 k)
def bcA (k n : Nat) : Nat := (bcB k n &&& bcM 51 k) + ((bcB k n / 4) &&& bcM 51 k)
def bcF (k n : Nat) : Nat := (bcA k n + bcA k n / 16) &&& bcM 15 k
def bc1 (d : Nat) : Nat := d - ((d / 2) &&& 85)
def bc2 (d : Nat) : Nat := (bc1 d &&& 51) + ((bc1 d / 4) &&& 51)
def bcp (d : Nat) : Nat := gC (fun i => Nat.testBit d i) 8
theorem bc_land (a b : Nat) : a &&& b = 256 * ((a / 256) &&& (b / 256)) + ((a % 256) &&& (b % 256)) := by
  have h := Nat.div_add_mod (a &&& b) 256
  have e1 : (a &&& b) / 256 = (a / 256) &&& (b / 256) := by
    have := Nat.and_div_two_pow (a := a) (b := b) (n := 8)
    simpa using this
  have e2 : (a &&& b) % 256 = (a % 256) &&& (b % 256) := by
    have := Nat.and_mod_two_pow (a := a) (b := b) (n := 8)
    simpa using this
  rw [e1, e2] at h
  exact h.symm
theorem bcM_d {c k : Nat} (h : c < 256) : bcM c (k + 1) / 256 = bcM c k ∧ bcM c (k + 1) % 256 = c := by
  have : bcM c (k + 1) = 256 * bcM c k + c := rfl
  omega
theorem bc_t1 : ∀ e, e < 2 → ∀ t, t < 128 → (e * 128 + t) &&& 85 = t &&& 85 := by decide +kernel
theorem bc_t2 : ∀ e, e < 4 → ∀ t, t < 64 → (e * 64 + t) &&& 51 = t &&& 51 := by decide +kernel
theorem bc_t3 : ∀ d, d < 256 → bc1 d < 256 ∧ bc2 d % 16 ≤ 4 ∧ bc2 d / 16 ≤ 4 ∧ (bc2 d + bc2 d / 16) % 16 = bcp d ∧ ((d / 2) &&& 85) ≤ d ∧ (bc1 d &&& 51) + ((bc1 d / 4) &&& 51) < 256 := by decide +kernel
theorem bc_t4 : ∀ v, v < 256 → v &&& 15 = v % 16 := by decide +kernel
theorem bc_t5 : ∀ d, d < 256 → bcp d ≤ 8 := fun d _ => gC_le _ 8
theorem bcB_s (k n : Nat) : bcB (k + 1) n = 256 * bcB k (n / 256) + bc1 (n % 256) := by
  obtain ⟨m1, m2⟩ := bcM_d (c := 85) (k := k) (by omega)
  have hd : n % 256 < 256 := Nat.mod_lt _ (by omega)
  unfold bcB
  rw [bc_land (n / 2), m1, m2]
  have e1 : n / 2 / 256 = n / 256 / 2 := by omega
  have e2 : n / 2 % 256 = (n / 256 % 2) * 128 + n % 256 / 2 := by omega
  rw [e1, e2, bc_t1 _ (by omega) _ (by omega)]
  have q1 : ((n / 256 / 2) &&& bcM 85 k) ≤ n / 256 := Nat.le_trans Nat.and_le_left (by omega)
  have q2 := (bc_t3 (n % 256) hd).2.2.2.2.1
  unfold bc1
  omega
theorem bcA_s (k n : Nat) : bcA (k + 1) n = 256 * bcA k (n / 256) + bc2 (n % 256) := by
  obtain ⟨m1, m2⟩ := bcM_d (c := 51) (k := k) (by omega)
  have hd : n % 256 < 256 := Nat.mod_lt _ (by omega)
  obtain ⟨q1, -, -, -, -, q2⟩ := bc_t3 (n % 256) hd
  unfold bcA
  rw [bcB_s, bc_land (256 * bcB k (n / 256) + bc1 (n % 256)), bc_land ((256 * bcB k (n / 256) + bc1 (n % 256)) / 4), m1, m2]
  have e1 : (256 * bcB k (n / 256) + bc1 (n % 256)) / 256 = bcB k (n / 256) := by omega
  have e2 : (256 * bcB k (n / 256) + bc1 (n % 256)) % 256 = bc1 (n % 256) := by omega
  have e3 : (256 * bcB k (n / 256) + bc1 (n % 256)) / 4 / 256 = bcB k (n / 256) / 4 := by omega
  have e4 : (256 * bcB k (n / 256) + bc1 (n % 256)) / 4 % 256 = (bcB k (n / 256) % 4) * 64 + bc1 (n % 256) / 4 := by omega
  rw [e1, e2, e3, e4, bc_t2 _ (by omega) _ (by omega)]
  unfold bc2
  omega
theorem bcA_lo (k n : Nat) : bcA k n % 16 ≤ 4 := by
  cases k with
  | zero =>
    have : bcA 0 n = 0 := by unfold bcA; show (_ &&& 0) + (_ &&& 0) = 0; rw [Nat.and_zero, Nat.and_zero]
    omega
  | succ k =>
    rw [bcA_s]
    have := (bc_t3 (n % 256) (Nat.mod_lt _ (by omega))).2.1
    omega
theorem bcF_s (k n : Nat) : bcF (k + 1) n = 256 * bcF k (n / 256) + bcp (n % 256) := by
  obtain ⟨m1, m2⟩ := bcM_d (c := 15) (k := k) (by omega)
  have hd : n % 256 < 256 := Nat.mod_lt _ (by omega)
  obtain ⟨-, q1, q2, q3, -, -⟩ := bc_t3 (n % 256) hd
  have q4 := bcA_lo k (n / 256)
  unfold bcF
  rw [bcA_s, bc_land, m1, m2]
  have e1 : (256 * bcA k (n / 256) + bc2 (n % 256) + (256 * bcA k (n / 256) + bc2 (n % 256)) / 16) / 256 = bcA k (n / 256) + bcA k (n / 256) / 16 := by omega
  have e2 : (256 * bcA k (n / 256) + bc2 (n % 256) + (256 * bcA k (n / 256) + bc2 (n % 256)) / 16) % 256 = bc2 (n % 256) + bc2 (n % 256) / 16 + 16 * (bcA k (n / 256) % 16) := by omega
  rw [e1, e2, bc_t4 _ (by omega), ← q3]
  omega
theorem bcF_0 (n : Nat) : bcF 0 n = 0 := by unfold bcF; show (_ &&& 0) = 0; exact Nat.and_zero _
/-- bits, byte by byte -/
theorem gC_add (f : Nat → Bool) (a : Nat) : ∀ b, gC f (a + b) = gC f a + gC (fun i => f (a + i)) b
  | 0 => rfl
  | b + 1 => by
    show gC f (a + b) + (bif f (a + b) then 1 else 0) = gC f a + (gC (fun i => f (a + i)) b + (bif f (a + b) then 1 else 0))
    rw [gC_add f a b, Nat.add_assoc]
theorem bc_by (n : Nat) : ∀ k, gC (fun i => Nat.testBit n i) (8 * (k + 1)) = bcp (n % 256) + gC (fun i => Nat.testBit (n / 256) i) (8 * k) := by
  intro k
  rw [show 8 * (k + 1) = 8 + 8 * k by omega, gC_add]
  congr 1
  · unfold bcp
    refine gC_congr fun i hi => ?_
    rw [show (256 : Nat) = 2 ^ 8 from rfl, Nat.testBit_mod_two_pow]
    simp [hi]
  · refine gC_congr fun i hi => ?_
    rw [show (256 : Nat) = 2 ^ 8 from rfl, Nat.testBit_div_two_pow]
    congr 1
    omega
theorem lu_tn {x : Int64} {k : Nat} {y : Int32} (hy : (((y.toInt64.toUInt64 &&& Int64.toUInt64 63).toBitVec % 64)).toNat = k) : (wo_lushr x y).toBitVec.toNat = x.toBitVec.toNat / 2 ^ k := by
  show ((x.toUInt64 >>> (y.toInt64.toUInt64 &&& Int64.toUInt64 63)).toInt64).toBitVec.toNat = _
  rw [show ((x.toUInt64 >>> (y.toInt64.toUInt64 &&& Int64.toUInt64 63)).toInt64).toBitVec = (x.toUInt64 >>> (y.toInt64.toUInt64 &&& Int64.toUInt64 63)).toBitVec from rfl, UInt64.toBitVec_shiftRight, BitVec.ushiftRight_eq', BitVec.toNat_ushiftRight, hy, Nat.shiftRight_eq_div_pow]
  rfl
theorem ll_and (x y : Int64) : (x &&& y).toBitVec.toNat = x.toBitVec.toNat &&& y.toBitVec.toNat := by rw [Int64.toBitVec_and, BitVec.toNat_and]
theorem ll_add (x y : Int64) : (x + y).toBitVec.toNat = (x.toBitVec.toNat + y.toBitVec.toNat) % 2 ^ 64 := by rw [Int64.toBitVec_add, BitVec.toNat_add]
theorem ll_sub {x y : Int64} (h : y.toBitVec.toNat ≤ x.toBitVec.toNat) : (x - y).toBitVec.toNat = x.toBitVec.toNat - y.toBitVec.toNat := by
  rw [Int64.toBitVec_sub, BitVec.toNat_sub]
  have := x.toBitVec.isLt
  have := y.toBitVec.isLt
  omega
theorem bs_1 {r s p q : Nat} (h : r = 256 * s + p) {s' p' r' : Nat} (h' : r' = 256 * s' + p') : r + r' = 256 * (s + s') + (p + p') := by omega
theorem bs_2 {a b c s0 s1 : Nat} (h1 : a = 256 * b + s0) (h2 : b = 256 * c + s1) (k0 : s0 ≤ 16) (k1 : s1 ≤ 16) : a / 2 ^ 16 = c := by omega
theorem bs_3 {a b c d e s0 s1 s2 s3 : Nat} (h1 : a = 256 * b + s0) (h2 : b = 256 * c + s1) (h3 : c = 256 * d + s2) (h4 : d = 256 * e + s3) (k0 : s0 ≤ 32) (k1 : s1 ≤ 32) (k2 : s2 ≤ 32) (k3 : s3 ≤ 32) : a / 2 ^ 32 = e := by omega
theorem bs_4 {a b s0 : Nat} (h1 : a = 256 * b + s0) (k0 : s0 ≤ 8) : a / 2 ^ 8 = b := by omega
theorem bs_5 {r s p B : Nat} (h : r = 256 * s + p) (hp : p ≤ 8) (hs : s ≤ B) : r ≤ 256 * B + 8 := by omega
theorem bs_6 {x y : Nat} (hx : x ≤ 2 ^ 62) (hy : y ≤ 2 ^ 62) : (x + y) % 2 ^ 64 = x + y := by omega
theorem bs_7 {x a b : Nat} (h : x = 256 * a + b) (hb : b ≤ 64) : x % 128 = b := by omega
theorem bc_sum {p0 p1 p2 p3 p4 p5 p6 p7 X3 X4 X5 X6 : Nat} (k0 : p0 ≤ 8) (k1 : p1 ≤ 8) (k2 : p2 ≤ 8) (k3 : p3 ≤ 8) (k4 : p4 ≤ 8) (k5 : p5 ≤ 8) (k6 : p6 ≤ 8) (k7 : p7 ≤ 8) (h3 : X3 = 256 * (256 * (256 * (256 * (256 * (256 * (256 * (256 * 0 + p7) + p6) + p5) + p4) + p3) + p2) + p1) + p0) (h4 : X4 = (X3 + X3 / 2 ^ 8) % 2 ^ 64) (h5 : X5 = (X4 + X4 / 2 ^ 16) % 2 ^ 64) (h6 : X6 = (X5 + X5 / 2 ^ 32) % 2 ^ 64) : X6 % 128 = p0 + p1 + (p2 + p3) + (p4 + p5 + (p6 + p7)) := by
  obtain ⟨r8, e8⟩ : ∃ r, r = 0 := ⟨_, rfl⟩
  obtain ⟨r7, e7⟩ : ∃ r, r = 256 * r8 + p7 := ⟨_, rfl⟩
  obtain ⟨r6, e6⟩ : ∃ r, r = 256 * r7 + p6 := ⟨_, rfl⟩
  obtain ⟨r5, e5⟩ : ∃ r, r = 256 * r6 + p5 := ⟨_, rfl⟩
  obtain ⟨r4, e4⟩ : ∃ r, r = 256 * r5 + p4 := ⟨_, rfl⟩
  obtain ⟨r3, e3⟩ : ∃ r, r = 256 * r4 + p3 := ⟨_, rfl⟩
  obtain ⟨r2, e2⟩ : ∃ r, r = 256 * r3 + p2 := ⟨_, rfl⟩
  obtain ⟨r1, e1⟩ : ∃ r, r = 256 * r2 + p1 := ⟨_, rfl⟩
  have e0 : X3 = 256 * r1 + p0 := by rw [h3, e1, e2, e3, e4, e5, e6, e7, e8]
  have e9 : r8 = 256 * r8 + 0 := by rw [e8]
  have m7 := bs_5 e7 k7 (Nat.le_of_eq e8)
  have m6 := bs_5 e6 k6 m7
  have m5 := bs_5 e5 k5 m6
  have m4 := bs_5 e4 k4 m5
  have m3 := bs_5 e3 k3 m4
  have m2 := bs_5 e2 k2 m3
  have m1 := bs_5 e1 k1 m2
  have m0 := bs_5 e0 k0 m1
  have c0 : 256 * (256 * (256 * (256 * (256 * (256 * (256 * (256 * 0 + 8) + 8) + 8) + 8) + 8) + 8) + 8) + 8 ≤ 2 ^ 60 := by decide
  have M0 := Nat.le_trans m0 c0
  have b60 : (2 : Nat) ^ 60 ≤ 2 ^ 62 := by decide
  rw [bs_4 e0 k0] at h4
  have l1 : r1 ≤ X3 := by clear h3 h4 h5 h6 m0 m1 m2 m3 m4 m5 m6 m7 c0 M0 b60 e1 e2 e3 e4 e5 e6 e7 e8 e9; omega
  rw [bs_6 (Nat.le_trans M0 b60) (Nat.le_trans (Nat.le_trans l1 M0) b60)] at h4
  -- X4 = X3 + r1
  have a0 := bs_1 (q := 0) e0 e1
  have a1 := bs_1 (q := 0) e1 e2
  have a2 := bs_1 (q := 0) e2 e3
  have a3 := bs_1 (q := 0) e3 e4
  have a4 := bs_1 (q := 0) e4 e5
  have a5 := bs_1 (q := 0) e5 e6
  have a6 := bs_1 (q := 0) e6 e7
  rw [← h4] at a0
  have s01 : p0 + p1 ≤ 16 := Nat.add_le_add k0 k1
  have s12 : p1 + p2 ≤ 16 := Nat.add_le_add k1 k2
  have s23 : p2 + p3 ≤ 16 := Nat.add_le_add k2 k3
  have s34 : p3 + p4 ≤ 16 := Nat.add_le_add k3 k4
  have s45 : p4 + p5 ≤ 16 := Nat.add_le_add k4 k5
  have s56 : p5 + p6 ≤ 16 := Nat.add_le_add k5 k6
  have s67 : p6 + p7 ≤ 16 := Nat.add_le_add k6 k7
  have M4 : X4 ≤ 2 ^ 61 := by rw [h4]; exact Nat.le_trans (Nat.add_le_add M0 (Nat.le_trans l1 M0)) (by decide)
  rw [bs_2 a0 a1 s01 s12] at h5
  have l2 : r2 + r3 ≤ X4 := by
    have : r2 + r3 = X4 / 2 ^ 16 := (bs_2 a0 a1 s01 s12).symm
    rw [this]; exact Nat.div_le_self _ _
  have b61 : (2 : Nat) ^ 61 ≤ 2 ^ 62 := by decide
  rw [bs_6 (Nat.le_trans M4 b61) (Nat.le_trans (Nat.le_trans l2 M4) b61)] at h5
  -- X5 = X4 + (r2 + r3)
  have d0 := bs_1 (q := 0) a0 a2
  have d1 := bs_1 (q := 0) a1 a3
  have d2 := bs_1 (q := 0) a2 a4
  have d3 := bs_1 (q := 0) a3 a5
  have d4 := bs_1 (q := 0) a4 a6
  rw [← h5] at d0
  have M5 : X5 ≤ 2 ^ 62 := by rw [h5]; exact Nat.le_trans (Nat.add_le_add M4 (Nat.le_trans l2 M4)) (by decide)
  have g := bs_3 d0 d1 d2 d3 (Nat.add_le_add s01 s23) (Nat.add_le_add s12 s34) (Nat.add_le_add s23 s45) (Nat.add_le_add s34 s56)
  rw [g] at h6
  have l3 : r4 + r5 + (r6 + r7) ≤ X5 := by rw [← g]; exact Nat.div_le_self _ _
  rw [bs_6 M5 (Nat.le_trans l3 M5)] at h6
  have f0 := bs_1 (q := 0) d0 d4
  rw [← h6] at f0
  exact bs_7 f0 (Nat.add_le_add (Nat.add_le_add s01 s23) (Nat.add_le_add s45 s67))
theorem e_J_bitCount {x : Int64} {S : wm_S} : f_J_bitCount [.long x] S = some (some (.int (nI (gC (bl x) 64))), S) := by
  refine wq_eq (wq_fn rfl rfl rfl ?_)
  show wq (t_J_bitCount [.long x, .retAddr 0] S) _
  unfold t_J_bitCount
  obtain ⟨x1, h1⟩ : ∃ x1 : Int64, x1 = x - (wo_lushr x 1 &&& 6148914691236517205) := ⟨_, rfl⟩
  obtain ⟨x2, h2⟩ : ∃ x2 : Int64, x2 = (x1 &&& 3689348814741910323) + (wo_lushr x1 2 &&& 3689348814741910323) := ⟨_, rfl⟩
  obtain ⟨x3, h3⟩ : ∃ x3 : Int64, x3 = (x2 + wo_lushr x2 4) &&& 1085102592571150095 := ⟨_, rfl⟩
  obtain ⟨x4, h4⟩ : ∃ x4 : Int64, x4 = x3 + wo_lushr x3 8 := ⟨_, rfl⟩
  obtain ⟨x5, h5⟩ : ∃ x5 : Int64, x5 = x4 + wo_lushr x4 16 := ⟨_, rfl⟩
  obtain ⟨x6, h6⟩ : ∃ x6 : Int64, x6 = x5 + wo_lushr x5 32 := ⟨_, rfl⟩
  refine wq_step (lv1 := [.long x1, .retAddr 0]) (S1 := S) (by rw [h1]; rfl) (wq_step (lv1 := [.long x2, .retAddr 0]) (S1 := S) (by rw [h2]; rfl) (wq_step (lv1 := [.long x3, .retAddr 0]) (S1 := S) (by rw [h3]; rfl) (wq_step (lv1 := [.long x4, .retAddr 0]) (S1 := S) (by rw [h4]; rfl) (wq_step (lv1 := [.long x5, .retAddr 0]) (S1 := S) (by rw [h5]; rfl) (wq_step (lv1 := [.long x6, .retAddr 0]) (S1 := S) (by rw [h6]; rfl) (wq_rets (v := some (.int (wo_l2i x6 &&& 127))) (S1 := S) rfl ⟨rfl, ?_⟩))))))
  have n0 := x.toBitVec.isLt
  obtain ⟨n, hn⟩ : ∃ n, n = x.toBitVec.toNat := ⟨_, rfl⟩
  rw [← hn] at n0
  have c1 : (6148914691236517205 : Int64).toBitVec.toNat = bcM 85 8 := by decide +kernel
  have c2 : (3689348814741910323 : Int64).toBitVec.toNat = bcM 51 8 := by decide +kernel
  have c3 : (1085102592571150095 : Int64).toBitVec.toNat = bcM 15 8 := by decide +kernel
  have u1 : ((((1 : Int32).toInt64.toUInt64 &&& Int64.toUInt64 63).toBitVec % 64)).toNat = 1 := by decide +kernel
  have u2 : ((((2 : Int32).toInt64.toUInt64 &&& Int64.toUInt64 63).toBitVec % 64)).toNat = 2 := by decide +kernel
  have u4 : ((((4 : Int32).toInt64.toUInt64 &&& Int64.toUInt64 63).toBitVec % 64)).toNat = 4 := by decide +kernel
  have u8 : ((((8 : Int32).toInt64.toUInt64 &&& Int64.toUInt64 63).toBitVec % 64)).toNat = 8 := by decide +kernel
  have u16 : ((((16 : Int32).toInt64.toUInt64 &&& Int64.toUInt64 63).toBitVec % 64)).toNat = 16 := by decide +kernel
  have u32 : ((((32 : Int32).toInt64.toUInt64 &&& Int64.toUInt64 63).toBitVec % 64)).toNat = 32 := by decide +kernel
  have t1 : x1.toBitVec.toNat = bcB 8 n := by
    have e : (wo_lushr x 1 &&& 6148914691236517205).toBitVec.toNat = (n / 2) &&& bcM 85 8 := by rw [ll_and, lu_tn u1, c1, ← hn]
    have le : ((n / 2) &&& bcM 85 8) ≤ n := Nat.le_trans Nat.and_le_left (by omega)
    rw [h1, ll_sub (by rw [e, ← hn]; exact le), e, ← hn]
    rfl
  have b51 : bcM 51 8 < 2 ^ 62 := by decide +kernel
  have t2 : x2.toBitVec.toNat = bcA 8 n := by
    have l1 : (bcB 8 n &&& bcM 51 8) ≤ bcM 51 8 := Nat.and_le_right
    have l2 : (bcB 8 n / 2 ^ 2 &&& bcM 51 8) ≤ bcM 51 8 := Nat.and_le_right
    rw [h2, ll_add, ll_and, ll_and, lu_tn u2, c2, t1, Nat.mod_eq_of_lt (by omega)]
    rfl
  have bA : bcA 8 n < 2 ^ 63 := by
    have l1 : (bcB 8 n &&& bcM 51 8) ≤ bcM 51 8 := Nat.and_le_right
    have l2 : (bcB 8 n / 4 &&& bcM 51 8) ≤ bcM 51 8 := Nat.and_le_right
    unfold bcA
    omega
  have t3 : x3.toBitVec.toNat = bcF 8 n := by
    rw [h3, ll_and, ll_add, lu_tn u4, c3, t2, Nat.mod_eq_of_lt (by omega)]
    rfl
  have eF : bcF 8 n = 256 * (256 * (256 * (256 * (256 * (256 * (256 * (256 * 0 + bcp (n / 256 / 256 / 256 / 256 / 256 / 256 / 256 % 256)) + bcp (n / 256 / 256 / 256 / 256 / 256 / 256 % 256)) + bcp (n / 256 / 256 / 256 / 256 / 256 % 256)) + bcp (n / 256 / 256 / 256 / 256 % 256)) + bcp (n / 256 / 256 / 256 % 256)) + bcp (n / 256 / 256 % 256)) + bcp (n / 256 % 256)) + bcp (n % 256) := by
    rw [bcF_s, bcF_s, bcF_s, bcF_s, bcF_s, bcF_s, bcF_s, bcF_s, bcF_0]
  have eC : gC (bl x) 64 = bcp (n % 256) + (bcp (n / 256 % 256) + (bcp (n / 256 / 256 % 256) + (bcp (n / 256 / 256 / 256 % 256) + (bcp (n / 256 / 256 / 256 / 256 % 256) + (bcp (n / 256 / 256 / 256 / 256 / 256 % 256) + (bcp (n / 256 / 256 / 256 / 256 / 256 / 256 % 256) + (bcp (n / 256 / 256 / 256 / 256 / 256 / 256 / 256 % 256) + 0))))))) := by
    have e : gC (bl x) 64 = gC (fun i => Nat.testBit n i) (8 * (7 + 1)) := gC_congr fun i _ => by
      unfold bl
      rw [hn]
      rfl
    rw [e, bc_by, bc_by _ 6, bc_by _ 5, bc_by _ 4, bc_by _ 3, bc_by _ 2, bc_by _ 1, bc_by _ 0]
    rfl
  obtain ⟨p0, hp0⟩ : ∃ p, p = bcp (n % 256) := ⟨_, rfl⟩
  obtain ⟨p1, hp1⟩ : ∃ p, p = bcp (n / 256 % 256) := ⟨_, rfl⟩
  obtain ⟨p2, hp2⟩ : ∃ p, p = bcp (n / 256 / 256 % 256) := ⟨_, rfl⟩
  obtain ⟨p3, hp3⟩ : ∃ p, p = bcp (n / 256 / 256 / 256 % 256) := ⟨_, rfl⟩
  obtain ⟨p4, hp4⟩ : ∃ p, p = bcp (n / 256 / 256 / 256 / 256 % 256) := ⟨_, rfl⟩
  obtain ⟨p5, hp5⟩ : ∃ p, p = bcp (n / 256 / 256 / 256 / 256 / 256 % 256) := ⟨_, rfl⟩
  obtain ⟨p6, hp6⟩ : ∃ p, p = bcp (n / 256 / 256 / 256 / 256 / 256 / 256 % 256) := ⟨_, rfl⟩
  obtain ⟨p7, hp7⟩ : ∃ p, p = bcp (n / 256 / 256 / 256 / 256 / 256 / 256 / 256 % 256) := ⟨_, rfl⟩
  have k0 : p0 ≤ 8 := by rw [hp0]; exact bc_t5 _ (Nat.mod_lt _ (by omega))
  have k1 : p1 ≤ 8 := by rw [hp1]; exact bc_t5 _ (Nat.mod_lt _ (by omega))
  have k2 : p2 ≤ 8 := by rw [hp2]; exact bc_t5 _ (Nat.mod_lt _ (by omega))
  have k3 : p3 ≤ 8 := by rw [hp3]; exact bc_t5 _ (Nat.mod_lt _ (by omega))
  have k4 : p4 ≤ 8 := by rw [hp4]; exact bc_t5 _ (Nat.mod_lt _ (by omega))
  have k5 : p5 ≤ 8 := by rw [hp5]; exact bc_t5 _ (Nat.mod_lt _ (by omega))
  have k6 : p6 ≤ 8 := by rw [hp6]; exact bc_t5 _ (Nat.mod_lt _ (by omega))
  have k7 : p7 ≤ 8 := by rw [hp7]; exact bc_t5 _ (Nat.mod_lt _ (by omega))
  rw [← hp0, ← hp1, ← hp2, ← hp3, ← hp4, ← hp5, ← hp6, ← hp7] at eF eC
  rw [eF] at t3
  rw [eC]
  have t6 := bc_sum (X4 := x4.toBitVec.toNat) (X5 := x5.toBitVec.toNat) (X6 := x6.toBitVec.toNat) k0 k1 k2 k3 k4 k5 k6 k7 t3 (by rw [h4, ll_add, lu_tn u8]) (by rw [h5, ll_add, lu_tn u16]) (by rw [h6, ll_add, lu_tn u32])
  have e7 : (wo_l2i x6 &&& 127) = nI ((wo_l2i x6).toBitVec.toNat % 2 ^ 7) := pk_and _ 7 (by decide)
  rw [e7]
  have e8 : (wo_l2i x6).toBitVec.toNat = x6.toBitVec.toNat % 2 ^ 32 := by
    show (x6.toInt32).toBitVec.toNat = _
    rw [Int64.toBitVec_toInt32, BitVec.signExtend_eq_setWidth_of_le _ (by omega), BitVec.toNat_setWidth]
  have e9 : x6.toBitVec.toNat % 2 ^ 32 % 2 ^ 7 = x6.toBitVec.toNat % 128 := by
    rw [Nat.mod_mod_of_dvd _ (by decide)]
  have e10 : p0 + p1 + (p2 + p3) + (p4 + p5 + (p6 + p7)) = p0 + (p1 + (p2 + (p3 + (p4 + (p5 + (p6 + (p7 + 0))))))) := by
    clear e9 e8 e7 t6 eC eF t3 t2 t1 h1 h2 h3 h4 h5 h6 hp0 hp1 hp2 hp3 hp4 hp5 hp6 hp7
    omega
  rw [e8, e9, t6, e10]
end PGB
