/-! PURE: Long.numberOfTrailingZeros finds a set bit -/
theorem tz_low : ∀ v : Nat, v ≠ 0 → ∃ p k, v = 2 ^ (p + 1) * k + 2 ^ p := by
  intro v
  induction v using Nat.strongRecOn with
  | ind v ih =>
    intro h
    by_cases e : v % 2 = 1
    · exact ⟨0, v / 2, by simp; omega⟩
    · obtain ⟨p, k, hk⟩ := ih (v / 2) (by omega) (by omega)
      refine ⟨p + 1, k, ?_⟩
      have e1 : v = 2 * (v / 2) := by omega
      have e2 : 2 ^ (p + 1 + 1) * k + 2 ^ (p + 1) = 2 * (2 ^ (p + 1) * k + 2 ^ p) := by
        rw [Nat.pow_succ 2 (p + 1), Nat.pow_succ 2 p]
        rw [Nat.mul_add]
        congr 1
        · rw [Nat.mul_comm (2 ^ p * 2) 2, Nat.mul_assoc]
        · rw [Nat.mul_comm]
      rw [e2, ← hk]; exact e1
theorem tz_bit (p k : Nat) : (2 ^ (p + 1) * k + 2 ^ p).testBit p = true := by
  rw [Nat.testBit_two_pow_mul_add _ (Nat.pow_lt_pow_right (by omega) (by omega))]
  simp
theorem tz_y (p k i : Nat) : (!(2 ^ (p + 1) * k + 2 ^ p).testBit i && (2 ^ (p + 1) * k + 2 ^ p - 1).testBit i) = decide (i < p) := by
  have h0 : 0 < 2 ^ p := Nat.two_pow_pos p
  have h1 : 2 ^ p < 2 ^ (p + 1) := Nat.pow_lt_pow_right (by omega) (by omega)
  have e : 2 ^ (p + 1) * k + 2 ^ p - 1 = 2 ^ (p + 1) * k + (2 ^ p - 1) := by omega
  rw [e, Nat.testBit_two_pow_mul_add _ h1, Nat.testBit_two_pow_mul_add _ (show 2 ^ p - 1 < 2 ^ (p + 1) by omega)]
  by_cases hi : i < p + 1
  · rw [if_pos hi, if_pos hi, Nat.testBit_two_pow, Nat.testBit_two_pow_sub_one]
    by_cases e1 : i < p
    · simp [e1]; omega
    · simp [e1]
  · rw [if_neg hi, if_neg hi]
    have : ¬ i < p := by omega
    simp [this]
theorem tz_d : ∀ p, p < 32 → (if 0 < nI (2 ^ p - 1) then in16 (nI (2 ^ p - 1)) 1 else nI (2 ^ p - 1) &&& 32) = nI p := by decide +kernel
theorem tz_in (x : Int32) (h : x.toBitVec.toNat ≠ 0) : ∃ p, p < 32 ∧ inI x = nI p ∧ x.toBitVec.toNat.testBit p = true := by
  obtain ⟨p, k, hk⟩ := tz_low _ h
  have h0 : 0 < 2 ^ p := Nat.two_pow_pos p
  have hlt : x.toBitVec.toNat < 2 ^ 32 := x.toBitVec.isLt
  have hp : p < 32 := by
    refine Classical.byContradiction (fun q => ?_)
    have : 2 ^ 32 ≤ 2 ^ p := Nat.pow_le_pow_right (by omega) (by omega)
    omega
  have hp2 : 2 ^ p < 2 ^ 32 := Nat.pow_lt_pow_right (by omega) hp
  have hy : (x ^^^ (-1)) &&& (x - 1) = nI (2 ^ p - 1) := by
    refine Int32.toBitVec_inj.mp (BitVec.eq_of_getLsbD_eq (fun i hi => ?_))
    rw [Int32.toBitVec_and, BitVec.getLsbD_and, Int32.toBitVec_xor, BitVec.getLsbD_xor, Int32.toBitVec_sub]
    have e1 : (-1 : Int32).toBitVec.getLsbD i = true := by
      have : ∀ i, i < 32 → (-1 : Int32).toBitVec.getLsbD i = true := by decide +kernel
      exact this i hi
    have e2 : (x.toBitVec - (1 : Int32).toBitVec).toNat = x.toBitVec.toNat - 1 := by
      have e3 : (1 : Int32).toBitVec.toNat = 1 := by decide
      rw [BitVec.toNat_sub_of_le (BitVec.le_def.mpr (by rw [e3]; omega)), e3]
    have e4 : (nI (2 ^ p - 1)).toBitVec.toNat = 2 ^ p - 1 := by
      show (BitVec.ofNat 32 (2 ^ p - 1)).toNat = _
      rw [BitVec.toNat_ofNat]
      exact Nat.mod_eq_of_lt (by omega)
    rw [e1]
    show ((x.toBitVec.toNat.testBit i ^^ true) && (x.toBitVec - (1 : Int32).toBitVec).toNat.testBit i) = (nI (2 ^ p - 1)).toBitVec.toNat.testBit i
    rw [e2, e4, Nat.testBit_two_pow_sub_one, ← tz_y p k i, ← hk, Bool.xor_true]
  refine ⟨p, hp, ?_, by rw [hk]; exact tz_bit p k⟩
  unfold inI
  rw [hy]
  exact tz_d p hp
theorem tz_32 (x : Int64) : x.toInt32.toBitVec.toNat = x.toBitVec.toNat % 2 ^ 32 := by
  show (x.toBitVec.signExtend 32).toNat = _
  rw [BitVec.signExtend_eq_setWidth_of_le _ (by omega), BitVec.toNat_setWidth]
theorem tz_n (p : Nat) (h : p < 2 ^ 32) : (nI p).toBitVec.toNat = p := by
  show (BitVec.ofNat 32 p).toNat = _
  rw [BitVec.toNat_ofNat]
  exact Nat.mod_eq_of_lt h
theorem tz_ok {x : Int64} (h : ¬ x = 0) : lb x (tz x) = true ∧ tz x < 64 := by
  have hx : x.toBitVec.toNat ≠ 0 := fun q => h (Int64.toBitVec_inj.mp (BitVec.eq_of_toNat_eq (by rw [q]; rfl)))
  have hlt : x.toBitVec.toNat < 2 ^ 64 := x.toBitVec.isLt
  unfold tz lnI
  show x.toBitVec.toNat.testBit _ = true ∧ _
  by_cases e : x.toInt32 = 0
  · rw [if_pos e]
    have e0 : x.toBitVec.toNat % 2 ^ 32 = 0 := by rw [← tz_32, e]; rfl
    have e1 : (x.toUInt64 >>> ((32 : Int32).toInt64.toUInt64 &&& Int64.toUInt64 63)).toInt64.toInt32.toBitVec.toNat = x.toBitVec.toNat / 2 ^ 32 := by
      rw [tz_32, pq_sh (k := 32) x _ (by decide)]
      omega
    obtain ⟨p, hp, h1, h2⟩ := tz_in (x.toUInt64 >>> ((32 : Int32).toInt64.toUInt64 &&& Int64.toUInt64 63)).toInt64.toInt32 (by rw [e1]; omega)
    rw [h1]
    have e2 : (32 + nI p).toBitVec.toNat = 32 + p := by
      have : (32 : Int32) + nI p = nI (32 + p) := nI_add 32 p
      rw [this, tz_n _ (by omega)]
    rw [e2]
    refine ⟨?_, by omega⟩
    rw [e1, Nat.testBit_div_two_pow] at h2
    rw [Nat.add_comm]; exact h2
  · rw [if_neg e]
    have e1 : x.toInt32.toBitVec.toNat ≠ 0 := fun q => e (Int32.toBitVec_inj.mp (BitVec.eq_of_toNat_eq (by rw [q]; rfl)))
    obtain ⟨p, hp, h1, h2⟩ := tz_in x.toInt32 e1
    rw [h1, tz_n _ (by omega)]
    refine ⟨?_, by omega⟩
    rw [tz_32, Nat.testBit_mod_two_pow] at h2
    simp only [Bool.and_eq_true] at h2
    exact h2.2
