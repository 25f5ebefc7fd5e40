/-! a run, in one row -/
theorem aq_go {mi : aq_M} {d : Nat} {O : aq_O} {w' : List va_E} {n : Nat} {c0 c1 : aq_C} {P : Prop} (hok : aq_okM mi = true) (h : aq_run mi n c0 = some (c1, some P)) (hp : P) (k : AW mi d O w' c1) : AW mi d O w' c0 := aq_run_sound hok aq_cls n h hp k
theorem aq_gn {mi : aq_M} {d : Nat} {O : aq_O} {w' : List va_E} {n : Nat} {c0 c1 : aq_C} (hok : aq_okM mi = true) (h : aq_run mi n c0 = some (c1, none)) (k : AW mi d O w' c1) : AW mi d O w' c0 := aq_run_sound hok aq_cls n h trivial k
theorem am_bit {d : Nat} {w : List va_E} (t : Nat) : AM m_bit d (.inl (some (.long (lbit t)))) [.int (nI t)] w w := by
  refine aq_enter rfl (Nat.le_of_ble_eq_true rfl) ?_
  refine aq_gn (n := 3) (c1 := (3, [some (.int (nI t))], [.long (lbit t)], w)) ok_m_bit rfl ?_
  exact aq_lret ok_m_bit rfl rfl
