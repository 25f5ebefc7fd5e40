/-! HOW MANY BITS: the sums of Long.bitCount, byte by byte, over the natural numbers -/
theorem pq_and (a c m M : Nat) (ha : a < 256) (hm : m < 256) : (a + 256 * c) &&& (m + 256 * M) = (a &&& m) + 256 * (c &&& M) := by
  have h : ∀ x y : Nat, x < 256 → x + 256 * y = 2 ^ 8 * y + x := fun x y _ => by omega
  have hl : a &&& m < 256 := Nat.lt_of_le_of_lt Nat.and_le_left ha
  rw [h a c ha, h m M hm, h _ _ hl]
  apply Nat.eq_of_testBit_eq
  intro i
  rw [Nat.testBit_and]
  by_cases hi : i < 8
  · rw [Nat.testBit_two_pow_mul_add _ (show a < 2 ^ 8 from ha), Nat.testBit_two_pow_mul_add _ (show m < 2 ^ 8 from hm), Nat.testBit_two_pow_mul_add _ (show a &&& m < 2 ^ 8 from hl)]
    simp [hi, Nat.testBit_and]
  · rw [Nat.testBit_two_pow_mul_add _ (show a < 2 ^ 8 from ha), Nat.testBit_two_pow_mul_add _ (show m < 2 ^ 8 from hm), Nat.testBit_two_pow_mul_add _ (show a &&& m < 2 ^ 8 from hl)]
    simp [hi, Nat.testBit_and]
def pq_m (m : Nat) : Nat → Nat
  | 0 => 0
  | j + 1 => m + 256 * pq_m m j
def pq_1 (j n : Nat) : Nat := n - ((n / 2) &&& pq_m 85 j)
def pq_2 (j n : Nat) : Nat := (n &&& pq_m 51 j) + ((n / 4) &&& pq_m 51 j)
def pq_3 (j n : Nat) : Nat := (n + n / 16) &&& pq_m 15 j
def pq_b1 (b : Nat) : Nat := b - ((b / 2) &&& 85)
def pq_b2 (b : Nat) : Nat := (b &&& 51) + ((b / 4) &&& 51)
/-- how many of the first k bits are set -/
def pq_c (n : Nat) : Nat → Nat
  | 0 => 0
  | k + 1 => pq_c n k + (if n.testBit k then 1 else 0)
theorem pq_d1 : ∀ b, b < 256 → ∀ c, c < 2 → (b / 2 + 128 * c) &&& 85 = (b / 2) &&& 85 := by decide +kernel
theorem pq_d1l : ∀ b, b < 256 → (b / 2) &&& 85 ≤ b := by decide +kernel
theorem pq_d2 : ∀ b, b < 256 → ∀ c, c < 4 → (b / 4 + 64 * c) &&& 51 = (b / 4) &&& 51 := by decide +kernel
theorem pq_d12 : ∀ b, b < 256 → pq_b1 b < 256 ∧ pq_b2 (pq_b1 b) % 16 ≤ 4 ∧ pq_b2 (pq_b1 b) / 16 ≤ 4 := by decide +kernel
theorem pq_d3 : ∀ b, b < 256 → ∀ c, c < 5 → (pq_b2 (pq_b1 b) + pq_b2 (pq_b1 b) / 16 + 16 * c) &&& 15 = pq_c b 8 := by decide +kernel
theorem pq_s1 (j b r : Nat) (hb : b < 256) : pq_1 (j + 1) (b + 256 * r) = pq_b1 b + 256 * pq_1 j r := by
  unfold pq_1 pq_b1
  have e : (b + 256 * r) / 2 = (b / 2 + 128 * (r % 2)) + 256 * (r / 2) := by omega
  rw [e, show pq_m 85 (j + 1) = 85 + 256 * pq_m 85 j from rfl, pq_and _ _ _ _ (by omega) (by omega), pq_d1 b hb (r % 2) (by omega)]
  have h1 := pq_d1l b hb
  have h2 : (r / 2) &&& pq_m 85 j ≤ r := Nat.le_trans Nat.and_le_left (by omega)
  omega
theorem pq_s2 (j b r : Nat) (hb : b < 256) : pq_2 (j + 1) (b + 256 * r) = pq_b2 b + 256 * pq_2 j r := by
  unfold pq_2 pq_b2
  have e : (b + 256 * r) / 4 = (b / 4 + 64 * (r % 4)) + 256 * (r / 4) := by omega
  rw [e, show pq_m 51 (j + 1) = 51 + 256 * pq_m 51 j from rfl, pq_and _ _ _ _ hb (by omega), pq_and _ _ _ _ (by omega) (by omega), pq_d2 b hb (r % 4) (by omega)]
  omega
/-- the byte sums of n's j bytes -/
def pq_s : Nat → Nat → Nat
  | 0, _ => 0
  | j + 1, n => pq_c (n % 256) 8 + 256 * pq_s j (n / 256)
theorem pq_low (j n : Nat) (hj : 0 < j) : pq_2 j (pq_1 j n) % 16 ≤ 4 := by
  obtain ⟨i, rfl⟩ : ∃ i, j = i + 1 := ⟨j - 1, by omega⟩
  have e : n = n % 256 + 256 * (n / 256) := by omega
  have hb : n % 256 < 256 := Nat.mod_lt _ (by decide)
  rw [e, pq_s1 i _ _ hb, pq_s2 i _ _ (pq_d12 _ hb).1]
  have := (pq_d12 _ hb).2.1
  omega
theorem pq_all : ∀ j n : Nat, pq_3 j (pq_2 j (pq_1 j n)) = pq_s j n := by
  intro j
  induction j with
  | zero => intro n; simp [pq_3, pq_m, pq_s]
  | succ j ih =>
    intro n
    have hb : n % 256 < 256 := Nat.mod_lt _ (by decide)
    have e : n = n % 256 + 256 * (n / 256) := by omega
    have e2 : pq_2 (j + 1) (pq_1 (j + 1) n) = pq_b2 (pq_b1 (n % 256)) + 256 * pq_2 j (pq_1 j (n / 256)) := by
      conv => lhs; rw [e]
      rw [pq_s1 j _ _ hb, pq_s2 j _ _ (pq_d12 _ hb).1]
    rw [e2]
    have hl : pq_2 j (pq_1 j (n / 256)) % 16 ≤ 4 := by
      cases j with
      | zero => simp [pq_2, pq_m]
      | succ i => exact pq_low _ _ (by omega)
    have hd := (pq_d12 _ hb).2
    have ih' := ih (n / 256)
    show _ = pq_c (n % 256) 8 + 256 * pq_s j (n / 256)
    rw [← ih']
    have h3 := pq_d3 _ hb (pq_2 j (pq_1 j (n / 256)) % 16) (by omega)
    unfold pq_3
    generalize pq_b2 (pq_b1 (n % 256)) = x at hd h3 ⊢
    generalize pq_2 j (pq_1 j (n / 256)) = y at hl h3 ⊢
    have e3 : x + 256 * y + (x + 256 * y) / 16 = (x + x / 16 + 16 * (y % 16)) + 256 * (y + y / 16) := by omega
    rw [e3, show pq_m 15 (j + 1) = 15 + 256 * pq_m 15 j from rfl, pq_and _ _ _ _ (by omega) (by omega), h3]
theorem pq_c8 (n : Nat) : ∀ k, k ≤ 8 → pq_c (n % 256) k = pq_c n k := by
  intro k
  induction k with
  | zero => intro _; rfl
  | succ k ih =>
    intro h
    unfold pq_c
    rw [ih (by omega)]
    have : (n % 256).testBit k = n.testBit k := by
      rw [show (256 : Nat) = 2 ^ 8 from rfl, Nat.testBit_mod_two_pow]
      simp; omega
    rw [this]
theorem pq_csh (n : Nat) (a : Nat) : ∀ k, pq_c n (a + k) = pq_c n a + pq_c (n / 2 ^ a) k := by
  intro k
  induction k with
  | zero => simp [pq_c]
  | succ k ih =>
    have h1 : pq_c n (a + (k + 1)) = pq_c n (a + k) + (if n.testBit (a + k) then 1 else 0) := rfl
    have h2 : pq_c (n / 2 ^ a) (k + 1) = pq_c (n / 2 ^ a) k + (if (n / 2 ^ a).testBit k then 1 else 0) := rfl
    have h3 : (n / 2 ^ a).testBit k = n.testBit (a + k) := by rw [Nat.testBit_div_two_pow, Nat.add_comm]
    rw [h1, h2, ih, h3, Nat.add_assoc]
theorem pq_cle (n : Nat) : ∀ k, pq_c n k ≤ k := by
  intro k
  induction k with
  | zero => exact Nat.le_refl _
  | succ k ih => unfold pq_c; split <;> omega
def pq_t : Nat → Nat → Nat
  | 0, _ => 0
  | j + 1, n => pq_c (n % 256) 8 + pq_t j (n / 256)
theorem pq_tc : ∀ j n : Nat, pq_t j n = pq_c n (8 * j) := by
  intro j
  induction j with
  | zero => intro n; rfl
  | succ j ih =>
    intro n
    unfold pq_t
    rw [ih, show 8 * (j + 1) = 8 + 8 * j by omega, pq_csh, pq_c8 n 8 (Nat.le_refl _)]
def pq_6 (n : Nat) : Nat := (n + n / 256) + (n + n / 256) / 65536 + ((n + n / 256) + (n + n / 256) / 65536) / 4294967296
theorem pq_st {r s a b u v : Nat} (h1 : r = a + 256 * u) (h2 : s = b + 256 * v) : r + s = (a + b) + 256 * (u + v) := by omega
theorem pq_dv {r a u : Nat} (h1 : r = a + 256 * u) (ha : a < 256) : r / 256 = u := by omega
theorem pq_lo {r s a b u v : Nat} (h1 : r = a + 256 * u) (h2 : s = b + 256 * v) (h : a + b < 128) : (r + s) % 128 = a + b := by omega
theorem pq_fin {a0 a1 a2 a3 a4 a5 a6 a7 r0 r1 r2 r3 r4 r5 r6 r7 : Nat} (g0 : r0 = a0 + 256 * r1) (g1 : r1 = a1 + 256 * r2) (g2 : r2 = a2 + 256 * r3) (g3 : r3 = a3 + 256 * r4) (g4 : r4 = a4 + 256 * r5) (g5 : r5 = a5 + 256 * r6) (g6 : r6 = a6 + 256 * r7) (g7 : r7 = a7 + 256 * 0) (h0 : a0 ≤ 8) (h1 : a1 ≤ 8) (h2 : a2 ≤ 8) (h3 : a3 ≤ 8) (h4 : a4 ≤ 8) (h5 : a5 ≤ 8) (h6 : a6 ≤ 8) (h7 : a7 ≤ 8) : pq_6 r0 % 128 = a0 + a1 + a2 + a3 + (a4 + a5 + a6 + a7) := by
  have z : (0 : Nat) = 0 + 256 * 0 := rfl
  have q0 := pq_st g0 g1
  have q1 := pq_st g1 g2
  have q2 := pq_st g2 g3
  have q3 := pq_st g3 g4
  have q4 := pq_st g4 g5
  have q5 := pq_st g5 g6
  have q6 := pq_st g6 g7
  have q7 := pq_st g7 z
  have e1 : r0 / 256 = r1 := pq_dv g0 (by clear q0 q1 q2 q3 q4 q5 q6 q7 g0 g1 g2 g3 g4 g5 g6 g7; omega)
  have p0 := pq_st q0 q2
  have p1 := pq_st q1 q3
  have p2 := pq_st q2 q4
  have p3 := pq_st q3 q5
  have p4 := pq_st q4 q6
  clear g0 g1 g2 g3 g4 g5 g6 g7
  have e2 : (r0 + r1) / 65536 = r2 + r3 := by
    rw [show (65536 : Nat) = 256 * 256 from rfl, ← Nat.div_div_eq_div_mul, pq_dv q0 (by clear q0 q1 q2 q3 q4 q5 q6 q7 p0 p1 p2 p3 p4 e1; omega), pq_dv q1 (by clear q0 q1 q2 q3 q4 q5 q6 q7 p0 p1 p2 p3 p4 e1; omega)]
  clear q0 q1 q2 q3 q4 q5 q6 q7
  have e3 : (r0 + r1 + (r2 + r3)) / 4294967296 = r4 + r5 + (r6 + r7) := by
    rw [show (4294967296 : Nat) = 256 * 256 * 256 * 256 from rfl, ← Nat.div_div_eq_div_mul, ← Nat.div_div_eq_div_mul, ← Nat.div_div_eq_div_mul, pq_dv p0 (by clear p0 p1 p2 p3 p4 e1 e2; omega), pq_dv p1 (by clear p0 p1 p2 p3 p4 e1 e2; omega), pq_dv p2 (by clear p0 p1 p2 p3 p4 e1 e2; omega), pq_dv p3 (by clear p0 p1 p2 p3 p4 e1 e2; omega)]
  unfold pq_6
  rw [e1, e2, e3, pq_lo p0 p4 (by clear p0 p1 p2 p3 p4 e1 e2 e3; omega)]
  clear p0 p1 p2 p3 p4 e1 e2 e3
  omega
theorem pq_sum (n : Nat) : pq_6 (pq_s 8 n) % 128 = pq_c n 64 := by
  have h : ∀ m, pq_c (m % 256) 8 ≤ 8 := fun m => pq_cle _ _
  have e : pq_c n 64 = pq_t 8 n := (pq_tc 8 n).symm
  rw [e]
  rw [pq_fin (r0 := pq_s 8 n) (r1 := pq_s 7 _) (r2 := pq_s 6 _) (r3 := pq_s 5 _) (r4 := pq_s 4 _) (r5 := pq_s 3 _) (r6 := pq_s 2 _) (r7 := pq_s 1 _) rfl rfl rfl rfl rfl rfl rfl rfl (h _) (h _) (h _) (h _) (h _) (h _) (h _) (h _)]
  show _ = pq_c _ 8 + (pq_c _ 8 + (pq_c _ 8 + (pq_c _ 8 + (pq_c _ 8 + (pq_c _ 8 + (pq_c _ 8 + (pq_c _ 8 + 0)))))))
  simp only [Nat.add_assoc, Nat.add_zero]
theorem pq_sh {k : Nat} (x : Int64) (u : UInt64) (hu : u.toNat % 64 = k) : ((x.toUInt64 >>> u).toInt64).toBitVec.toNat = x.toBitVec.toNat / 2 ^ k := by
  show (x.toUInt64 >>> u).toNat = _
  rw [UInt64.toNat_shiftRight, hu, Nat.shiftRight_eq_div_pow]
  rfl
theorem pq_an (x y : Int64) : (x &&& y).toBitVec.toNat = x.toBitVec.toNat &&& y.toBitVec.toNat := by rw [Int64.toBitVec_and, BitVec.toNat_and]
theorem pq_ad (x y : Int64) (h : x.toBitVec.toNat + y.toBitVec.toNat < 2 ^ 64) : (x + y).toBitVec.toNat = x.toBitVec.toNat + y.toBitVec.toNat := by rw [Int64.toBitVec_add, BitVec.toNat_add_of_lt h]
theorem pq_sb (x y : Int64) (h : y.toBitVec.toNat ≤ x.toBitVec.toNat) : (x - y).toBitVec.toNat = x.toBitVec.toNat - y.toBitVec.toNat := by rw [Int64.toBitVec_sub, BitVec.toNat_sub_of_le (BitVec.le_def.mpr h)]
def pq_x1 (x : Int64) : Int64 := x - (((x.toUInt64 >>> ((1 : Int32).toInt64.toUInt64 &&& Int64.toUInt64 63)).toInt64) &&& 6148914691236517205)
def pq_x2 (x : Int64) : Int64 := (x &&& 3689348814741910323) + (((x.toUInt64 >>> ((2 : Int32).toInt64.toUInt64 &&& Int64.toUInt64 63)).toInt64) &&& 3689348814741910323)
def pq_x3 (x : Int64) : Int64 := (x + ((x.toUInt64 >>> ((4 : Int32).toInt64.toUInt64 &&& Int64.toUInt64 63)).toInt64)) &&& 1085102592571150095
def pq_x4 (x : Int64) : Int64 := x + ((x.toUInt64 >>> ((8 : Int32).toInt64.toUInt64 &&& Int64.toUInt64 63)).toInt64)
def pq_x5 (x : Int64) : Int64 := x + ((x.toUInt64 >>> ((16 : Int32).toInt64.toUInt64 &&& Int64.toUInt64 63)).toInt64)
def pq_x6 (x : Int64) : Int64 := x + ((x.toUInt64 >>> ((32 : Int32).toInt64.toUInt64 &&& Int64.toUInt64 63)).toInt64)
theorem bcI_x (x : Int64) : bcI x = (pq_x6 (pq_x5 (pq_x4 (pq_x3 (pq_x2 (pq_x1 x)))))).toInt32 &&& 127 := rfl
theorem pq_n1 (x : Int64) : (pq_x1 x).toBitVec.toNat = pq_1 8 x.toBitVec.toNat := by
  have e : ((x.toUInt64 >>> ((1 : Int32).toInt64.toUInt64 &&& Int64.toUInt64 63)).toInt64 &&& 6148914691236517205).toBitVec.toNat = (x.toBitVec.toNat / 2) &&& pq_m 85 8 := by
    rw [pq_an, pq_sh (k := 1) x _ (by decide)]; rfl
  unfold pq_x1 pq_1
  rw [pq_sb _ _ (by rw [e]; exact Nat.le_trans Nat.and_le_left (by omega)), e]
theorem pq_n2 (x : Int64) : (pq_x2 x).toBitVec.toNat = pq_2 8 x.toBitVec.toNat ∧ pq_2 8 x.toBitVec.toNat ≤ 7378697629483820646 := by
  have e1 : (x &&& 3689348814741910323).toBitVec.toNat = x.toBitVec.toNat &&& pq_m 51 8 := by rw [pq_an]; rfl
  have e2 : ((x.toUInt64 >>> ((2 : Int32).toInt64.toUInt64 &&& Int64.toUInt64 63)).toInt64 &&& 3689348814741910323).toBitVec.toNat = (x.toBitVec.toNat / 4) &&& pq_m 51 8 := by
    rw [pq_an, pq_sh (k := 2) x _ (by decide)]; rfl
  have h1 : x.toBitVec.toNat &&& pq_m 51 8 ≤ 3689348814741910323 := Nat.and_le_right
  have h2 : (x.toBitVec.toNat / 4) &&& pq_m 51 8 ≤ 3689348814741910323 := Nat.and_le_right
  unfold pq_x2 pq_2
  refine ⟨?_, by omega⟩
  rw [pq_ad _ _ (by rw [e1, e2]; omega), e1, e2]
theorem pq_n3 (x : Int64) (h : x.toBitVec.toNat ≤ 7378697629483820646) : (pq_x3 x).toBitVec.toNat = pq_3 8 x.toBitVec.toNat ∧ pq_3 8 x.toBitVec.toNat ≤ 1085102592571150095 := by
  have e2 : ((x.toUInt64 >>> ((4 : Int32).toInt64.toUInt64 &&& Int64.toUInt64 63)).toInt64).toBitVec.toNat = x.toBitVec.toNat / 16 := pq_sh (k := 4) x _ (by decide)
  unfold pq_x3 pq_3
  refine ⟨?_, Nat.and_le_right⟩
  rw [pq_an, pq_ad _ _ (by rw [e2]; omega), e2]; rfl
theorem pq_n6 (x : Int64) (h : x.toBitVec.toNat ≤ 1085102592571150095) : (pq_x6 (pq_x5 (pq_x4 x))).toBitVec.toNat = pq_6 x.toBitVec.toNat := by
  have e4 : ((x.toUInt64 >>> ((8 : Int32).toInt64.toUInt64 &&& Int64.toUInt64 63)).toInt64).toBitVec.toNat = x.toBitVec.toNat / 256 := pq_sh (k := 8) x _ (by decide)
  have f4 : (pq_x4 x).toBitVec.toNat = x.toBitVec.toNat + x.toBitVec.toNat / 256 := by
    unfold pq_x4
    rw [pq_ad _ _ (by rw [e4]; omega), e4]
  generalize pq_x4 x = y at f4 ⊢
  have e5 : ((y.toUInt64 >>> ((16 : Int32).toInt64.toUInt64 &&& Int64.toUInt64 63)).toInt64).toBitVec.toNat = y.toBitVec.toNat / 65536 := pq_sh (k := 16) y _ (by decide)
  have f5 : (pq_x5 y).toBitVec.toNat = y.toBitVec.toNat + y.toBitVec.toNat / 65536 := by
    unfold pq_x5
    rw [pq_ad _ _ (by rw [e5]; omega), e5]
  generalize pq_x5 y = z at f5 ⊢
  have e6 : ((z.toUInt64 >>> ((32 : Int32).toInt64.toUInt64 &&& Int64.toUInt64 63)).toInt64).toBitVec.toNat = z.toBitVec.toNat / 4294967296 := pq_sh (k := 32) z _ (by decide)
  unfold pq_x6 pq_6
  rw [pq_ad _ _ (by rw [e6]; omega), e6, f5, f4]
theorem pq_32 (x : Int64) : (x.toInt32 &&& 127).toBitVec.toNat = x.toBitVec.toNat % 128 := by
  rw [Int32.toBitVec_and, BitVec.toNat_and]
  have e : x.toInt32.toBitVec.toNat = x.toBitVec.toNat % 2 ^ 32 := by
    show (x.toBitVec.signExtend 32).toNat = _
    rw [BitVec.signExtend_eq_setWidth_of_le _ (by omega), BitVec.toNat_setWidth]
  rw [e]
  show x.toBitVec.toNat % 2 ^ 32 &&& (2 ^ 7 - 1) = _
  rw [Nat.and_two_pow_sub_one_eq_mod]
  omega
theorem pcn_pq (x : Int64) : ∀ k, pcn x k = pq_c x.toBitVec.toNat k := by
  intro k
  induction k with
  | zero => rfl
  | succ k ih => unfold pcn pq_c; rw [ih]; rfl
/-- Long.bitCount counts the bits -/
theorem bcI_eq (x : Int64) : bcI x = nI (pcn x 64) := by
  have h2 := pq_n2 (pq_x1 x)
  have h3 := pq_n3 (pq_x2 (pq_x1 x)) (by rw [h2.1]; exact h2.2)
  have h6 := pq_n6 (pq_x3 (pq_x2 (pq_x1 x))) (by rw [h3.1]; exact h3.2)
  have hc := pq_cle x.toBitVec.toNat 64
  rw [bcI_x]
  refine Int32.toBitVec_inj.mp (BitVec.eq_of_toNat_eq ?_)
  rw [pq_32, h6, h3.1, h2.1, pq_n1, pq_all, pq_sum, pcn_pq]
  show _ = (BitVec.ofNat 32 (pq_c x.toBitVec.toNat 64)).toNat
  rw [BitVec.toNat_ofNat]
  omega
