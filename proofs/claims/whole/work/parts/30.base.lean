/-! THE CLASS'S WORLD AND SMALL FACTS -/
def oI (x : Option Nat) : Int32 := match x with
  | none => -1
  | some n => nI n
/-- the object and its seven arrays, as they are, and by numbers -/
def wR (sa pa aa xa : Nat → Int32) (ha : Nat → Int64) (la : Nat → Int32) (wr : Nat → Int64) (n k c5 c6 c7 : Int32) : List va_E :=
  [.inr (0, [.ref 1, .ref 2, .ref 3, .ref 4, .int n, .ref 5, .ref 6, .int k, .ref 7, .int c5, .int c6, .int c7]),
   .inl (0, 60, .inl sa), .inl (0, 60, .inl pa), .inl (0, 60, .inl aa), .inl (0, 60, .inl xa), .inl (1, 425, .inr (.inl ha)), .inl (0, 60, .inl la), .inl (1, 60, .inr (.inl wr))]
def wL (st pr : Nat → Nat) (aw wa : Nat → Option Nat) (ha : Nat → Int64) (la : Nat → Nat) (wr : Nat → Int64) (n k c5 c6 c7 : Nat) : List va_E :=
  wR (fun i => nI (st i)) (fun i => nI (pr i)) (fun i => oI (aw i)) (fun i => oI (wa i)) ha (fun i => nI (la i)) wr (nI n) (nI k) (nI c5) (nI c6) (nI c7)
theorem upd_n (f : Nat → Nat) (t x : Nat) : upd (fun i => nI (f i)) t (nI x) = fun i => nI (va_up f t x i) := by
  funext i
  unfold upd va_up
  split <;> rfl
theorem upd_o (f : Nat → Option Nat) (t x : Nat) : upd (fun i => oI (f i)) t (nI x) = fun i => oI (va_up f t (some x) i) := by
  funext i
  unfold upd va_up
  split <;> rfl
theorem upd_m (f : Nat → Option Nat) (t : Nat) : upd (fun i => oI (f i)) t (-1) = fun i => oI (va_up f t none i) := by
  funext i
  unfold upd va_up
  split <;> rfl
theorem q_le {a b : Nat} (h : nI a ≤ nI b) (ha : a < 2 ^ 31) (hb : b < 2 ^ 31) : a ≤ b := (nI_leI ha hb).mp h
theorem q_nle {a b : Nat} (h : ¬ nI a ≤ nI b) (ha : a < 2 ^ 31) (hb : b < 2 ^ 31) : b < a := Nat.not_le.mp (fun q => h ((nI_leI ha hb).mpr q))
theorem q_lt {a b : Nat} (h : nI a < nI b) (ha : a < 2 ^ 31) (hb : b < 2 ^ 31) : a < b := (nI_ltI ha hb).mp h
theorem q_nlt {a b : Nat} (h : ¬ nI a < nI b) (ha : a < 2 ^ 31) (hb : b < 2 ^ 31) : b ≤ a := Nat.not_lt.mp (fun q => h ((nI_ltI ha hb).mpr q))
theorem q_eq {a b : Nat} (h : nI a = nI b) (ha : a < 2 ^ 31) (hb : b < 2 ^ 31) : a = b := (nI_eq ha hb).mp h
theorem q_ne {a b : Nat} (h : ¬ nI a = nI b) : ¬ a = b := fun q => h (by rw [q])
theorem oI_m1 {x : Option Nat} (h : oI x = -1) (hb : ∀ n, x = some n → n < 2 ^ 31) : x = none := by
  cases x with
  | none => rfl
  | some n =>
    have h1 : nI n = -1 := h
    have h2 := congrArg Int32.toInt h1
    rw [nI_toInt (hb n rfl)] at h2
    have h3 : (-1 : Int32).toInt = -1 := by decide
    rw [h3] at h2
    omega
theorem oI_nm1 {x : Option Nat} (h : ¬ oI x = -1) : ∃ n, x = some n := by
  cases x with
  | none => exact absurd rfl h
  | some n => exact ⟨n, rfl⟩
theorem oI_eq {x : Option Nat} {o : Nat} (h : oI x = nI o) (ho : o < 2 ^ 31) (hb : ∀ n, x = some n → n < 2 ^ 31) : x = some o := by
  cases x with
  | none =>
    have h1 : -1 = nI o := h
    have h2 := congrArg Int32.toInt h1
    rw [nI_toInt ho] at h2
    have h3 : (-1 : Int32).toInt = -1 := by decide
    rw [h3] at h2
    omega
  | some n => rw [q_eq h (hb n rfl) ho]
theorem oI_ne {x : Option Nat} {o : Nat} (h : ¬ oI x = nI o) : ¬ x = some o := fun q => h (by rw [q]; rfl)
theorem ix5 (o m : Nat) : nI o * nI 5 + nI m = nI (o * 5 + m) := by rw [pk_mul, nI_add]
theorem in5 {o m : Nat} (ho : o < 85) (hm : m < 5) : vp_in (nI o * nI 5 + nI m) 425 := by
  rw [ix5]; exact vp_in_nI (by omega) (by omega)
theorem cl5 {o m : Nat} (ho : o < 85) (hm : m < 5) : (nI o * nI 5 + nI m).toNatClampNeg = o * 5 + m := by
  rw [ix5]; exact nI_clamp (by omega)
theorem in60 {t : Nat} (ht : t < 60) : vp_in (nI t) 60 := vp_in_nI ht (by omega)
theorem cl60 {t : Nat} (ht : t < 60) : (nI t).toNatClampNeg = t := nI_clamp (by omega)
/-! modes, as the machine has them -/
def gTI (x y : Int32) : Bool := if x = 4 ∨ y = 4 then false else if x = 0 ∨ y = 0 then true else decide (x = y) && !decide (x = 3)
def mxI (x y : Int32) : Int32 := if x < y then y else x
def laI (x y : Int32) : Int32 := if (x = 1 ∧ y = 2) ∨ (x = 2 ∧ y = 1) then 3 else mxI x y
def wrI (x : Int32) : Bool := decide (x = 1) || (decide (x = 3) || decide (x = 4))
/-- the mode in which t holds o: the first with its bit -/
def hmF (ha : Nat → Int64) (t o : Nat) : Nat → Nat → Option Nat
  | 0, _ => none
  | f + 1, m => if lb (ha (o * 5 + m)) t then some m else hmF ha t o f (m + 1)
def hm (ha : Nat → Int64) (t o : Nat) : Option Nat := hmF ha t o 5 0
theorem hmF_lt {ha : Nat → Int64} {t o : Nat} : ∀ {f m x : Nat}, hmF ha t o f m = some x → m ≤ x ∧ x < m + f := by
  intro f
  induction f with
  | zero => intro m x h; cases h
  | succ f ih =>
    intro m x h
    unfold hmF at h
    split at h
    · cases h; omega
    · have := ih h; omega
theorem hm_lt {ha : Nat → Int64} {t o x : Nat} (h : hm ha t o = some x) : x < 5 := by have := hmF_lt h; omega
