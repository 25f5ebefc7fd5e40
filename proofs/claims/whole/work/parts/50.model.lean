/-! THE REFERENCE'S WORLD -/
def mR (cd n : Int32) (pr st he wt wn cv qs qu : Nat → Int32) (v5 v6 v7 : Int32) : List va_E :=
  [.inr (1, [.int cd, .int n, .ref 1, .ref 2, .ref 3, .ref 4, .ref 5, .ref 6, .ref 7, .ref 8, .int v5, .int v6, .int v7]),
   .inl (0, 60, .inl pr), .inl (0, 60, .inl st), .inl (0, 5100, .inl he), .inl (0, 60, .inl wt), .inl (0, 60, .inl wn), .inl (2, 60, .inl cv), .inl (0, 85, .inl qs), .inl (0, 5100, .inl qu)]
def mL (cd n : Nat) (pr st : Nat → Nat) (he wt : Nat → Option Nat) (wn : Nat → Nat) (cv : Nat → Bool) (qs qu : Nat → Nat) (v5 v6 v7 : Nat) : List va_E :=
  mR (nI cd) (nI n) (fun i => nI (pr i)) (fun i => nI (st i)) (fun i => oI (he i)) (fun i => oI (wt i)) (fun i => nI (wn i)) (fun i => bI (cv i)) (fun i => nI (qs i)) (fun i => nI (qu i)) (nI v5) (nI v6) (nI v7)
theorem upd_b (f : Nat → Bool) (t : Nat) (b : Bool) : upd (fun i => bI (f i)) t (vp_nar .boolean (bI b)) = fun i => bI (va_up f t b i) := by
  have e : vp_nar .boolean (bI b) = bI b := by cases b <;> rfl
  rw [e]
  funext i
  unfold upd va_up
  split <;> rfl
theorem ix6 (o t : Nat) : nI 60 * nI o + nI t = nI (60 * o + t) := by rw [pk_mul, nI_add]
theorem ix6z (o : Nat) : nI 60 * nI o = nI (60 * o) := by rw [pk_mul]
theorem in6 {o t : Nat} (ho : o < 85) (ht : t < 60) : vp_in (nI 60 * nI o + nI t) 5100 := by
  rw [ix6]; exact vp_in_nI (by omega) (by omega)
theorem cl6 {o t : Nat} (ho : o < 85) (ht : t < 60) : (nI 60 * nI o + nI t).toNatClampNeg = 60 * o + t := by
  rw [ix6]; exact nI_clamp (by omega)
theorem in6z {o : Nat} (ho : o < 85) : vp_in (nI 60 * nI o) 5100 := by
  rw [ix6z]; exact vp_in_nI (by omega) (by omega)
theorem cl6z {o : Nat} (ho : o < 85) : (nI 60 * nI o).toNatClampNeg = 60 * o := by
  rw [ix6z]; exact nI_clamp (by omega)
theorem inN {k N : Nat} (h : k < N) (hN : N < 2 ^ 31) : vp_in (nI k) N := vp_in_nI h hN
theorem clN {k : Nat} (h : k < 6000) : (nI k).toNatClampNeg = k := nI_clamp (by omega)
/-! modes, as the reference has them -/
def tg2 (a b : Int32) : Bool := if a = 0 then decide (b < 4) else decide (a = b) && (decide (a = 1) || decide (a = 2))
def tgI (x y : Int32) : Bool := if x < y then tg2 x y else tg2 y x
def rwI (x : Int32) : Bool := decide (x = 1) || decide (3 ≤ x)
def rlI (x y : Int32) : Int32 := if (x = 1 ∧ y = 2) ∨ (x = 2 ∧ y = 1) then 3 else if x ≤ y then y else x
def isT (n : Nat) (x : Int32) : Bool := !decide (x < 0) && !decide (nI n ≤ x)
def mdI (he : Nat → Option Nat) (t o : Nat) : Int32 := oI (he (60 * o + t)) - nI 1
def ftF (he : Nat → Option Nat) (t o : Nat) (x : Int32) : Nat → Nat → Bool → Bool
  | 0, _, b => b
  | f + 1, u, b => ftF he t o x f (u + 1) (b && (decide (u = t) || (decide (mdI he u o < 0) || tgI (mdI he u o) x)))
def eqF (cv : Nat → Bool) (t o : Nat) : Nat → (Nat → Nat) → (Nat → Nat)
  | 0, q => va_up q (60 * o) t
  | a + 1, q => if cv t = true ∧ cv (q (60 * o + a)) = false then eqF cv t o a (va_up q (60 * o + (a + 1)) (q (60 * o + a))) else va_up q (60 * o + (a + 1)) t
