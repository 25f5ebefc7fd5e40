/-! BITS OF A LONG -/
def lb (x : Int64) (i : Nat) : Bool := x.toBitVec.getLsbD i
theorem lb_ext {x y : Int64} (h : ∀ i, i < 64 → lb x i = lb y i) : x = y := Int64.toBitVec_inj.mp (BitVec.eq_of_getLsbD_eq (fun i hi => h i hi))
theorem lb_or (x y : Int64) (i : Nat) : lb (x ||| y) i = (lb x i || lb y i) := by unfold lb; rw [Int64.toBitVec_or, BitVec.getLsbD_or]
theorem lb_and (x y : Int64) (i : Nat) : lb (x &&& y) i = (lb x i && lb y i) := by unfold lb; rw [Int64.toBitVec_and, BitVec.getLsbD_and]
theorem lb_xor (x y : Int64) (i : Nat) : lb (x ^^^ y) i = (lb x i ^^ lb y i) := by unfold lb; rw [Int64.toBitVec_xor, BitVec.getLsbD_xor]
theorem lb_0 (i : Nat) : lb 0 i = false := by unfold lb; simp
theorem lb_m1 : ∀ i, i < 64 → lb (-1) i = true := by decide +kernel
theorem lb_big {x : Int64} {i : Nat} (h : 64 ≤ i) : lb x i = false := by unfold lb; exact BitVec.getLsbD_of_ge _ _ h
theorem lb_not (x : Int64) {i : Nat} (h : i < 64) : lb (x ^^^ (-1)) i = !lb x i := by rw [lb_xor, lb_m1 i h]; cases lb x i <;> rfl
/-- the long with the one bit t -/
def lbit (t : Nat) : Int64 := (1 : Int64) <<< ((nI t).toInt64 &&& 63)
theorem lbit_bv : ∀ t, t < 64 → (lbit t).toBitVec = BitVec.twoPow 64 t := by decide +kernel
theorem lb_bit {t i : Nat} (ht : t < 64) : lb (lbit t) i = decide (i = t) := by
  unfold lb
  rw [lbit_bv t ht, BitVec.getLsbD_twoPow]
  simp only [ht, decide_true, Bool.true_and]
  by_cases h : t = i
  · subst h; simp
  · have h2 : ¬ i = t := fun q => h q.symm
    simp [h, h2]
theorem lb_ne0 {x : Int64} {i : Nat} (h : lb x i = true) : ¬ x = 0 := fun q => by rw [q, lb_0] at h; cases h
theorem lb_eq0 {x : Int64} (h : ∀ i, i < 64 → lb x i = false) : x = 0 := lb_ext (fun i hi => by rw [h i hi, lb_0])
theorem lb_bit_and {x : Int64} {t : Nat} (ht : t < 64) : x &&& lbit t = 0 ↔ lb x t = false := by
  constructor
  · intro h
    cases hb : lb x t with
    | false => rfl
    | true =>
      have : lb (x &&& lbit t) t = true := by rw [lb_and, hb, lb_bit ht]; simp
      exact absurd h (lb_ne0 this)
  · intro h
    refine lb_eq0 (fun i hi => ?_)
    rw [lb_and, lb_bit ht]
    by_cases e : i = t
    · subst e; rw [h]; rfl
    · simp [e]
theorem lg_cmp_0 (x y : Int64) : lg_cmp x y = 0 ↔ x = y := by
  unfold lg_cmp
  by_cases h1 : x > y
  · rw [if_pos h1]
    constructor
    · intro h; exact absurd h (by decide)
    · intro h
      subst h
      simp only [gt_iff_lt, Int64.lt_iff_toInt_lt] at h1
      omega
  · rw [if_neg h1]
    by_cases h2 : x = y
    · rw [if_pos h2]; exact ⟨fun _ => h2, fun _ => rfl⟩
    · rw [if_neg h2]
      exact ⟨fun h => absurd h (by decide), fun h => absurd h h2⟩
