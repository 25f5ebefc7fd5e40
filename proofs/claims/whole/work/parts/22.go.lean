/-! a run, in one row; ends with an equation -/
theorem aq_go {mi : aq_M} {d : Nat} {O : aq_O} {w' : List va_E} {n : Nat} {c0 c1 : aq_C} {P : Prop} (hok : aq_okM mi = true) (h : aq_run mi n c0 = some (c1, some P)) (hp : P) (k : AW mi d O w' c1) : AW mi d O w' c0 := aq_run_sound hok aq_cls n h hp k
theorem aq_gn {mi : aq_M} {d : Nat} {O : aq_O} {w' : List va_E} {n : Nat} {c0 c1 : aq_C} (hok : aq_okM mi = true) (h : aq_run mi n c0 = some (c1, none)) (k : AW mi d O w' c1) : AW mi d O w' c0 := aq_run_sound hok aq_cls n h trivial k
section AQE
variable {mi : aq_M} {d : Nat} {w w' : List va_E} {pc nx tg len : Nat} {kc : Int32} {al : List (Option Value)}
theorem aq_ei {x v : Int32} (hok : aq_okM mi = true) (hat : aq_at (aq_t mi) pc = some (.ireturn, len, nx, kc, tg)) (hr : aq_r mi = some .int) (hv : v = x) (hw : w' = w) : AW mi d (.inl (some (.int v))) w' (pc, al, [.int x], w) := by
  subst hv; subst hw
  exact aq_iret hok hat hr
theorem aq_el {x v : Int64} (hok : aq_okM mi = true) (hat : aq_at (aq_t mi) pc = some (.lreturn, len, nx, kc, tg)) (hr : aq_r mi = some .long) (hv : v = x) (hw : w' = w) : AW mi d (.inl (some (.long v))) w' (pc, al, [.long x], w) := by
  subst hv; subst hw
  exact aq_lret hok hat hr
theorem aq_ev (hok : aq_okM mi = true) (hat : aq_at (aq_t mi) pc = some (.return_, len, nx, kc, tg)) (hr : aq_r mi = none) (hw : w' = w) : AW mi d (.inl none) w' (pc, al, [], w) := by
  subst hw
  exact aq_vret hok hat hr
/-- a boolean as the machine has it -/
def bI (b : Bool) : Int32 := if b then 1 else 0
theorem bI_n (b : Bool) : narrow .boolean (.int (bI b)) = .int (bI b) := by cases b <;> rfl
theorem bI_0 (b : Bool) : bI b = 0 ↔ b = false := by cases b <;> simp [bI]
theorem aq_ez {x : Int32} {b : Bool} (hok : aq_okM mi = true) (hat : aq_at (aq_t mi) pc = some (.ireturn, len, nx, kc, tg)) (hr : aq_r mi = some .boolean) (hv : bI b = x) (hw : w' = w) : AW mi d (.inl (some (.int (bI b)))) w' (pc, al, [.int x], w) := by
  subst hv; subst hw
  exact aq_zret hok hat hr (bI_n b)
end AQE
theorem am_bit {d : Nat} {w : List va_E} (t : Nat) : AM m_bit d (.inl (some (.long (lbit t)))) [.int (nI t)] w w := by
  refine aq_enter pl_m_bit (Nat.le_of_ble_eq_true rfl) ?_
  refine aq_gn (n := 3) (c1 := (3, [some (.int (nI t))], [.long (lbit t)], w)) ok_m_bit rfl ?_
  exact aq_lret ok_m_bit rfl rfl
