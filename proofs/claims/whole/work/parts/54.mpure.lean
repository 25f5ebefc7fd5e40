/-! THE REFERENCE: bits by shifts, reach -/
theorem sh_d : ∀ u, u < 64 → (((nI u).toInt64 &&& 63).toBitVec.smod 64).toNat = u := by decide +kernel
theorem lb_one : ∀ i, i < 64 → lb 1 i = decide (i = 0) := by decide +kernel
theorem sh0 (x : Int64) {u : Nat} (hu : u < 64) : lb (x >>> ((nI u).toInt64 &&& 63)) 0 = lb x u := by
  unfold lb
  rw [Int64.toBitVec_shiftRight, BitVec.getLsbD_sshiftRight']
  have e : ((((nI u).toInt64 &&& 63).toBitVec).smod 64).toNat = u := sh_d u hu
  rw [e]
  simp [hu]
theorem sh1 {x : Int64} {u : Nat} (hu : u < 64) : (x >>> ((nI u).toInt64 &&& 63)) &&& 1 = 1 ↔ lb x u = true := by
  constructor
  · intro h
    have h1 : lb ((x >>> ((nI u).toInt64 &&& 63)) &&& 1) 0 = true := by rw [h]; decide +kernel
    rw [lb_and, sh0 x hu] at h1
    simp only [Bool.and_eq_true] at h1
    exact h1.1
  · intro h
    refine lb_ext (fun i hi => ?_)
    rw [lb_and, lb_one i hi]
    by_cases e : i = 0
    · subst e
      rw [sh0 x hu, h]
      simp
    · simp [e]
def riF (q : Nat → Int64) (z : Int64) : Nat → Nat → Int64 → Int64
  | 0, _, a => a
  | f + 1, u, a => riF q z f (u + 1) (if lb z u then a ||| q u else a)
def rst (q : Nat → Int64) (n : Nat) (a : Int64) : Int64 := riF q a n 0 a
def rcF (q : Nat → Int64) (n : Nat) : Nat → Int64 → Int64
  | 0, a => a
  | f + 1, a => if rst q n a = a then a else rcF q n f (rst q n a)
def stab (q : Nat → Int64) (n : Nat) : Nat → Int64 → Prop
  | 0, a => rst q n a = a
  | f + 1, a => rst q n a = a ∨ stab q n f (rst q n a)
theorem riF_0 (q : Nat → Int64) : ∀ f u : Nat, ∀ a, riF q 0 f u a = a := by
  intro f
  induction f with
  | zero => intro u a; rfl
  | succ f ih => intro u a; unfold riF; rw [lb_0]; exact ih _ _
theorem rst_0 (q : Nat → Int64) (n : Nat) : rst q n 0 = 0 := riF_0 q n 0 0
def rch (M : MSt) (t : Nat) : Int64 := rcF (mwb M) (g_n M) 64 (mwb M t)
theorem rcF_fix {q : Nat → Int64} {n : Nat} {a : Int64} (h : rst q n a = a) : ∀ f, rcF q n f a = a := by
  intro f
  cases f with
  | zero => rfl
  | succ f => unfold rcF; rw [if_pos h]
def vcF (M : MSt) (t : Nat) (c : Int64) : Nat → Nat → Option Nat → Option Nat
  | 0, _, b => b
  | f + 1, u, b => if lb c t then vcF M t c f (u + 1) (if lb c u = true ∧ lb (rch M u) t = true ∧ (∀ v, b = some v → g_pr M u ≤ g_pr M v) then some u else b) else b
def mvic (M : MSt) (t : Nat) : Option Nat := vcF M t (rch M t) (g_n M) 0 none
/-- every search ends -/
def WR (M : MSt) : Prop := ∀ u, stab (mwb M) (g_n M) 64 (mwb M u)
