/-! THE REFERENCE: small methods -/
set_option maxHeartbeats 4000000 in
theorem rm_thrown {d cd n : Nat} {pr st : Nat → Nat} {he wt : Nat → Option Nat} {wn : Nat → Nat} {cv : Nat → Bool} {qs qu : Nat → Nat} {v5 v6 v7 : Nat}  : AM r_thrown (d) (.inl (some (.int (nI cd)))) [.ref 0] (mL cd n pr st he wt wn cv qs qu v5 v6 v7) (mL cd n pr st he wt wn cv qs qu v5 v6 v7) := by
  refine aq_enter pl_r_thrown (Nat.le_of_ble_eq_true rfl) ?_
  refine aq_gn (n := 2) (c1 := (4, [some (.ref 0)], [.int (nI cd)], mL cd n pr st he wt wn cv qs qu v5 v6 v7)) ok_r_thrown rfl ?_
  exact aq_ei ok_r_thrown rfl rfl rfl rfl
set_option maxHeartbeats 4000000 in
theorem rm_together {d : Nat} {w : List va_E} (x y : Int32) : AM r_together d (.inl (some (.int (bI (tgI x y))))) [.int x, .int y] w w := by
  refine aq_enter pl_r_together (Nat.le_of_ble_eq_true rfl) ?_
  refine aq_gn (n := 2) (c1 := (2, [some (.int x), some (.int y), none, none], [.int y, .int x], w)) ok_r_together rfl ?_
  refine aq_icmp_ge ok_r_together rfl (fun h0 => ?_) (fun h0 => ?_)
  · refine aq_gn (n := 4) (c1 := (13, [some (.int x), some (.int y), some (.int y), none], [.int y, .int x], w)) ok_r_together rfl ?_
    refine aq_icmp_ge ok_r_together rfl (fun h1 => ?_) (fun h1 => ?_)
    · refine aq_gn (n := 3) (c1 := (23, [some (.int x), some (.int y), some (.int y), some (.int x)], [.int y], w)) ok_r_together rfl ?_
      refine aq_if_ne ok_r_together rfl (fun h2 => ?_) (fun h2 => ?_)
      · refine aq_gn (n := 2) (c1 := (41, [some (.int x), some (.int y), some (.int y), some (.int x)], [.int x, .int y], w)) ok_r_together rfl ?_
        refine aq_icmp_ne ok_r_together rfl (fun h3 => ?_) (fun h3 => ?_)
        · refine aq_gn (n := 1) (c1 := (59, [some (.int x), some (.int y), some (.int y), some (.int x)], [.int 0], w)) ok_r_together rfl ?_
          exact aq_ez ok_r_together rfl rfl (by first | exact absurd h0 h1 | exact absurd h1 h0 | (rw [tgI, if_neg (Int32.not_lt.mpr h0)]; clear h0 h1; simp_all [tg2, bI]; done) | (rw [tgI, if_pos (Int32.not_le.mp h0)]; clear h0 h1; simp_all [tg2, bI]; done)) rfl
        · refine aq_gn (n := 2) (c1 := (46, [some (.int x), some (.int y), some (.int y), some (.int x)], [.int 1, .int y], w)) ok_r_together rfl ?_
          refine aq_icmp_eq ok_r_together rfl (fun h4 => ?_) (fun h4 => ?_)
          · refine aq_gn (n := 2) (c1 := (59, [some (.int x), some (.int y), some (.int y), some (.int x)], [.int 1], w)) ok_r_together rfl ?_
            exact aq_ez ok_r_together rfl rfl (by first | exact absurd h0 h1 | exact absurd h1 h0 | (rw [tgI, if_neg (Int32.not_lt.mpr h0)]; clear h0 h1; simp_all [tg2, bI]; done) | (rw [tgI, if_pos (Int32.not_le.mp h0)]; clear h0 h1; simp_all [tg2, bI]; done)) rfl
          · refine aq_gn (n := 2) (c1 := (51, [some (.int x), some (.int y), some (.int y), some (.int x)], [.int 2, .int y], w)) ok_r_together rfl ?_
            refine aq_icmp_ne ok_r_together rfl (fun h5 => ?_) (fun h5 => ?_)
            · refine aq_gn (n := 1) (c1 := (59, [some (.int x), some (.int y), some (.int y), some (.int x)], [.int 0], w)) ok_r_together rfl ?_
              exact aq_ez ok_r_together rfl rfl (by first | exact absurd h0 h1 | exact absurd h1 h0 | (rw [tgI, if_neg (Int32.not_lt.mpr h0)]; clear h0 h1; simp_all [tg2, bI]; done) | (rw [tgI, if_pos (Int32.not_le.mp h0)]; clear h0 h1; simp_all [tg2, bI]; done)) rfl
            · refine aq_gn (n := 2) (c1 := (59, [some (.int x), some (.int y), some (.int y), some (.int x)], [.int 1], w)) ok_r_together rfl ?_
              exact aq_ez ok_r_together rfl rfl (by first | exact absurd h0 h1 | exact absurd h1 h0 | (rw [tgI, if_neg (Int32.not_lt.mpr h0)]; clear h0 h1; simp_all [tg2, bI]; done) | (rw [tgI, if_pos (Int32.not_le.mp h0)]; clear h0 h1; simp_all [tg2, bI]; done)) rfl
      · refine aq_gn (n := 2) (c1 := (28, [some (.int x), some (.int y), some (.int y), some (.int x)], [.int 4, .int x], w)) ok_r_together rfl ?_
        refine aq_icmp_ge ok_r_together rfl (fun h3 => ?_) (fun h3 => ?_)
        · refine aq_gn (n := 2) (c1 := (59, [some (.int x), some (.int y), some (.int y), some (.int x)], [.int 0], w)) ok_r_together rfl ?_
          exact aq_ez ok_r_together rfl rfl (by first | exact absurd h0 h1 | exact absurd h1 h0 | (rw [tgI, if_neg (Int32.not_lt.mpr h0)]; clear h0 h1; simp_all [tg2, bI]; done) | (rw [tgI, if_pos (Int32.not_le.mp h0)]; clear h0 h1; simp_all [tg2, bI]; done)) rfl
        · refine aq_gn (n := 2) (c1 := (59, [some (.int x), some (.int y), some (.int y), some (.int x)], [.int 1], w)) ok_r_together rfl ?_
          exact aq_ez ok_r_together rfl rfl (by first | exact absurd h0 h1 | exact absurd h1 h0 | (rw [tgI, if_neg (Int32.not_lt.mpr h0)]; clear h0 h1; simp_all [tg2, bI]; done) | (rw [tgI, if_pos (Int32.not_le.mp h0)]; clear h0 h1; simp_all [tg2, bI]; done)) rfl
    · refine aq_gn (n := 4) (c1 := (23, [some (.int x), some (.int y), some (.int y), some (.int y)], [.int y], w)) ok_r_together rfl ?_
      refine aq_if_ne ok_r_together rfl (fun h2 => ?_) (fun h2 => ?_)
      · refine aq_gn (n := 2) (c1 := (41, [some (.int x), some (.int y), some (.int y), some (.int y)], [.int y, .int y], w)) ok_r_together rfl ?_
        refine aq_icmp_ne ok_r_together rfl (fun h3 => ?_) (fun h3 => ?_)
        · refine aq_gn (n := 1) (c1 := (59, [some (.int x), some (.int y), some (.int y), some (.int y)], [.int 0], w)) ok_r_together rfl ?_
          exact aq_ez ok_r_together rfl rfl (by first | exact absurd h0 h1 | exact absurd h1 h0 | (rw [tgI, if_neg (Int32.not_lt.mpr h0)]; clear h0 h1; simp_all [tg2, bI]; done) | (rw [tgI, if_pos (Int32.not_le.mp h0)]; clear h0 h1; simp_all [tg2, bI]; done)) rfl
        · refine aq_gn (n := 2) (c1 := (46, [some (.int x), some (.int y), some (.int y), some (.int y)], [.int 1, .int y], w)) ok_r_together rfl ?_
          refine aq_icmp_eq ok_r_together rfl (fun h4 => ?_) (fun h4 => ?_)
          · refine aq_gn (n := 2) (c1 := (59, [some (.int x), some (.int y), some (.int y), some (.int y)], [.int 1], w)) ok_r_together rfl ?_
            exact aq_ez ok_r_together rfl rfl (by first | exact absurd h0 h1 | exact absurd h1 h0 | (rw [tgI, if_neg (Int32.not_lt.mpr h0)]; clear h0 h1; simp_all [tg2, bI]; done) | (rw [tgI, if_pos (Int32.not_le.mp h0)]; clear h0 h1; simp_all [tg2, bI]; done)) rfl
          · refine aq_gn (n := 2) (c1 := (51, [some (.int x), some (.int y), some (.int y), some (.int y)], [.int 2, .int y], w)) ok_r_together rfl ?_
            refine aq_icmp_ne ok_r_together rfl (fun h5 => ?_) (fun h5 => ?_)
            · refine aq_gn (n := 1) (c1 := (59, [some (.int x), some (.int y), some (.int y), some (.int y)], [.int 0], w)) ok_r_together rfl ?_
              exact aq_ez ok_r_together rfl rfl (by first | exact absurd h0 h1 | exact absurd h1 h0 | (rw [tgI, if_neg (Int32.not_lt.mpr h0)]; clear h0 h1; simp_all [tg2, bI]; done) | (rw [tgI, if_pos (Int32.not_le.mp h0)]; clear h0 h1; simp_all [tg2, bI]; done)) rfl
            · refine aq_gn (n := 2) (c1 := (59, [some (.int x), some (.int y), some (.int y), some (.int y)], [.int 1], w)) ok_r_together rfl ?_
              exact aq_ez ok_r_together rfl rfl (by first | exact absurd h0 h1 | exact absurd h1 h0 | (rw [tgI, if_neg (Int32.not_lt.mpr h0)]; clear h0 h1; simp_all [tg2, bI]; done) | (rw [tgI, if_pos (Int32.not_le.mp h0)]; clear h0 h1; simp_all [tg2, bI]; done)) rfl
      · refine aq_gn (n := 2) (c1 := (28, [some (.int x), some (.int y), some (.int y), some (.int y)], [.int 4, .int y], w)) ok_r_together rfl ?_
        refine aq_icmp_ge ok_r_together rfl (fun h3 => ?_) (fun h3 => ?_)
        · refine aq_gn (n := 2) (c1 := (59, [some (.int x), some (.int y), some (.int y), some (.int y)], [.int 0], w)) ok_r_together rfl ?_
          exact aq_ez ok_r_together rfl rfl (by first | exact absurd h0 h1 | exact absurd h1 h0 | (rw [tgI, if_neg (Int32.not_lt.mpr h0)]; clear h0 h1; simp_all [tg2, bI]; done) | (rw [tgI, if_pos (Int32.not_le.mp h0)]; clear h0 h1; simp_all [tg2, bI]; done)) rfl
        · refine aq_gn (n := 2) (c1 := (59, [some (.int x), some (.int y), some (.int y), some (.int y)], [.int 1], w)) ok_r_together rfl ?_
          exact aq_ez ok_r_together rfl rfl (by first | exact absurd h0 h1 | exact absurd h1 h0 | (rw [tgI, if_neg (Int32.not_lt.mpr h0)]; clear h0 h1; simp_all [tg2, bI]; done) | (rw [tgI, if_pos (Int32.not_le.mp h0)]; clear h0 h1; simp_all [tg2, bI]; done)) rfl
  · refine aq_gn (n := 5) (c1 := (13, [some (.int x), some (.int y), some (.int x), none], [.int y, .int x], w)) ok_r_together rfl ?_
    refine aq_icmp_ge ok_r_together rfl (fun h1 => ?_) (fun h1 => ?_)
    · refine aq_gn (n := 3) (c1 := (23, [some (.int x), some (.int y), some (.int x), some (.int x)], [.int x], w)) ok_r_together rfl ?_
      refine aq_if_ne ok_r_together rfl (fun h2 => ?_) (fun h2 => ?_)
      · refine aq_gn (n := 2) (c1 := (41, [some (.int x), some (.int y), some (.int x), some (.int x)], [.int x, .int x], w)) ok_r_together rfl ?_
        refine aq_icmp_ne ok_r_together rfl (fun h3 => ?_) (fun h3 => ?_)
        · refine aq_gn (n := 1) (c1 := (59, [some (.int x), some (.int y), some (.int x), some (.int x)], [.int 0], w)) ok_r_together rfl ?_
          exact aq_ez ok_r_together rfl rfl (by first | exact absurd h0 h1 | exact absurd h1 h0 | (rw [tgI, if_neg (Int32.not_lt.mpr h0)]; clear h0 h1; simp_all [tg2, bI]; done) | (rw [tgI, if_pos (Int32.not_le.mp h0)]; clear h0 h1; simp_all [tg2, bI]; done)) rfl
        · refine aq_gn (n := 2) (c1 := (46, [some (.int x), some (.int y), some (.int x), some (.int x)], [.int 1, .int x], w)) ok_r_together rfl ?_
          refine aq_icmp_eq ok_r_together rfl (fun h4 => ?_) (fun h4 => ?_)
          · refine aq_gn (n := 2) (c1 := (59, [some (.int x), some (.int y), some (.int x), some (.int x)], [.int 1], w)) ok_r_together rfl ?_
            exact aq_ez ok_r_together rfl rfl (by first | exact absurd h0 h1 | exact absurd h1 h0 | (rw [tgI, if_neg (Int32.not_lt.mpr h0)]; clear h0 h1; simp_all [tg2, bI]; done) | (rw [tgI, if_pos (Int32.not_le.mp h0)]; clear h0 h1; simp_all [tg2, bI]; done)) rfl
          · refine aq_gn (n := 2) (c1 := (51, [some (.int x), some (.int y), some (.int x), some (.int x)], [.int 2, .int x], w)) ok_r_together rfl ?_
            refine aq_icmp_ne ok_r_together rfl (fun h5 => ?_) (fun h5 => ?_)
            · refine aq_gn (n := 1) (c1 := (59, [some (.int x), some (.int y), some (.int x), some (.int x)], [.int 0], w)) ok_r_together rfl ?_
              exact aq_ez ok_r_together rfl rfl (by first | exact absurd h0 h1 | exact absurd h1 h0 | (rw [tgI, if_neg (Int32.not_lt.mpr h0)]; clear h0 h1; simp_all [tg2, bI]; done) | (rw [tgI, if_pos (Int32.not_le.mp h0)]; clear h0 h1; simp_all [tg2, bI]; done)) rfl
            · refine aq_gn (n := 2) (c1 := (59, [some (.int x), some (.int y), some (.int x), some (.int x)], [.int 1], w)) ok_r_together rfl ?_
              exact aq_ez ok_r_together rfl rfl (by first | exact absurd h0 h1 | exact absurd h1 h0 | (rw [tgI, if_neg (Int32.not_lt.mpr h0)]; clear h0 h1; simp_all [tg2, bI]; done) | (rw [tgI, if_pos (Int32.not_le.mp h0)]; clear h0 h1; simp_all [tg2, bI]; done)) rfl
      · refine aq_gn (n := 2) (c1 := (28, [some (.int x), some (.int y), some (.int x), some (.int x)], [.int 4, .int x], w)) ok_r_together rfl ?_
        refine aq_icmp_ge ok_r_together rfl (fun h3 => ?_) (fun h3 => ?_)
        · refine aq_gn (n := 2) (c1 := (59, [some (.int x), some (.int y), some (.int x), some (.int x)], [.int 0], w)) ok_r_together rfl ?_
          exact aq_ez ok_r_together rfl rfl (by first | exact absurd h0 h1 | exact absurd h1 h0 | (rw [tgI, if_neg (Int32.not_lt.mpr h0)]; clear h0 h1; simp_all [tg2, bI]; done) | (rw [tgI, if_pos (Int32.not_le.mp h0)]; clear h0 h1; simp_all [tg2, bI]; done)) rfl
        · refine aq_gn (n := 2) (c1 := (59, [some (.int x), some (.int y), some (.int x), some (.int x)], [.int 1], w)) ok_r_together rfl ?_
          exact aq_ez ok_r_together rfl rfl (by first | exact absurd h0 h1 | exact absurd h1 h0 | (rw [tgI, if_neg (Int32.not_lt.mpr h0)]; clear h0 h1; simp_all [tg2, bI]; done) | (rw [tgI, if_pos (Int32.not_le.mp h0)]; clear h0 h1; simp_all [tg2, bI]; done)) rfl
    · refine aq_gn (n := 4) (c1 := (23, [some (.int x), some (.int y), some (.int x), some (.int y)], [.int x], w)) ok_r_together rfl ?_
      refine aq_if_ne ok_r_together rfl (fun h2 => ?_) (fun h2 => ?_)
      · refine aq_gn (n := 2) (c1 := (41, [some (.int x), some (.int y), some (.int x), some (.int y)], [.int y, .int x], w)) ok_r_together rfl ?_
        refine aq_icmp_ne ok_r_together rfl (fun h3 => ?_) (fun h3 => ?_)
        · refine aq_gn (n := 1) (c1 := (59, [some (.int x), some (.int y), some (.int x), some (.int y)], [.int 0], w)) ok_r_together rfl ?_
          exact aq_ez ok_r_together rfl rfl (by first | exact absurd h0 h1 | exact absurd h1 h0 | (rw [tgI, if_neg (Int32.not_lt.mpr h0)]; clear h0 h1; simp_all [tg2, bI]; done) | (rw [tgI, if_pos (Int32.not_le.mp h0)]; clear h0 h1; simp_all [tg2, bI]; done)) rfl
        · refine aq_gn (n := 2) (c1 := (46, [some (.int x), some (.int y), some (.int x), some (.int y)], [.int 1, .int x], w)) ok_r_together rfl ?_
          refine aq_icmp_eq ok_r_together rfl (fun h4 => ?_) (fun h4 => ?_)
          · refine aq_gn (n := 2) (c1 := (59, [some (.int x), some (.int y), some (.int x), some (.int y)], [.int 1], w)) ok_r_together rfl ?_
            exact aq_ez ok_r_together rfl rfl (by first | exact absurd h0 h1 | exact absurd h1 h0 | (rw [tgI, if_neg (Int32.not_lt.mpr h0)]; clear h0 h1; simp_all [tg2, bI]; done) | (rw [tgI, if_pos (Int32.not_le.mp h0)]; clear h0 h1; simp_all [tg2, bI]; done)) rfl
          · refine aq_gn (n := 2) (c1 := (51, [some (.int x), some (.int y), some (.int x), some (.int y)], [.int 2, .int x], w)) ok_r_together rfl ?_
            refine aq_icmp_ne ok_r_together rfl (fun h5 => ?_) (fun h5 => ?_)
            · refine aq_gn (n := 1) (c1 := (59, [some (.int x), some (.int y), some (.int x), some (.int y)], [.int 0], w)) ok_r_together rfl ?_
              exact aq_ez ok_r_together rfl rfl (by first | exact absurd h0 h1 | exact absurd h1 h0 | (rw [tgI, if_neg (Int32.not_lt.mpr h0)]; clear h0 h1; simp_all [tg2, bI]; done) | (rw [tgI, if_pos (Int32.not_le.mp h0)]; clear h0 h1; simp_all [tg2, bI]; done)) rfl
            · refine aq_gn (n := 2) (c1 := (59, [some (.int x), some (.int y), some (.int x), some (.int y)], [.int 1], w)) ok_r_together rfl ?_
              exact aq_ez ok_r_together rfl rfl (by first | exact absurd h0 h1 | exact absurd h1 h0 | (rw [tgI, if_neg (Int32.not_lt.mpr h0)]; clear h0 h1; simp_all [tg2, bI]; done) | (rw [tgI, if_pos (Int32.not_le.mp h0)]; clear h0 h1; simp_all [tg2, bI]; done)) rfl
      · refine aq_gn (n := 2) (c1 := (28, [some (.int x), some (.int y), some (.int x), some (.int y)], [.int 4, .int y], w)) ok_r_together rfl ?_
        refine aq_icmp_ge ok_r_together rfl (fun h3 => ?_) (fun h3 => ?_)
        · refine aq_gn (n := 2) (c1 := (59, [some (.int x), some (.int y), some (.int x), some (.int y)], [.int 0], w)) ok_r_together rfl ?_
          exact aq_ez ok_r_together rfl rfl (by first | exact absurd h0 h1 | exact absurd h1 h0 | (rw [tgI, if_neg (Int32.not_lt.mpr h0)]; clear h0 h1; simp_all [tg2, bI]; done) | (rw [tgI, if_pos (Int32.not_le.mp h0)]; clear h0 h1; simp_all [tg2, bI]; done)) rfl
        · refine aq_gn (n := 2) (c1 := (59, [some (.int x), some (.int y), some (.int x), some (.int y)], [.int 1], w)) ok_r_together rfl ?_
          exact aq_ez ok_r_together rfl rfl (by first | exact absurd h0 h1 | exact absurd h1 h0 | (rw [tgI, if_neg (Int32.not_lt.mpr h0)]; clear h0 h1; simp_all [tg2, bI]; done) | (rw [tgI, if_pos (Int32.not_le.mp h0)]; clear h0 h1; simp_all [tg2, bI]; done)) rfl
set_option maxHeartbeats 4000000 in
theorem rm_isWriting {d : Nat} {w : List va_E} (x : Int32) : AM r_isWriting d (.inl (some (.int (bI (rwI x))))) [.int x] w w := by
  refine aq_enter pl_r_isWriting (Nat.le_of_ble_eq_true rfl) ?_
  refine aq_gn (n := 2) (c1 := (2, [some (.int x)], [.int 1, .int x], w)) ok_r_isWriting rfl ?_
  refine aq_icmp_eq ok_r_isWriting rfl (fun h0 => ?_) (fun h0 => ?_)
  · refine aq_gn (n := 2) (c1 := (15, [some (.int x)], [.int 1], w)) ok_r_isWriting rfl ?_
    exact aq_ez ok_r_isWriting rfl rfl (by unfold rwI; simp_all [bI]) rfl
  · refine aq_gn (n := 2) (c1 := (7, [some (.int x)], [.int 3, .int x], w)) ok_r_isWriting rfl ?_
    refine aq_icmp_lt ok_r_isWriting rfl (fun h1 => ?_) (fun h1 => ?_)
    · refine aq_gn (n := 1) (c1 := (15, [some (.int x)], [.int 0], w)) ok_r_isWriting rfl ?_
      exact aq_ez ok_r_isWriting rfl rfl (by unfold rwI; simp_all [bI]) rfl
    · refine aq_gn (n := 2) (c1 := (15, [some (.int x)], [.int 1], w)) ok_r_isWriting rfl ?_
      exact aq_ez ok_r_isWriting rfl rfl (by unfold rwI; simp_all [bI]) rfl
set_option maxHeartbeats 4000000 in
theorem rm_leastAbove {d : Nat} {w : List va_E} (x y : Int32) : AM r_leastAbove d (.inl (some (.int (rlI x y)))) [.int x, .int y] w w := by
  refine aq_enter pl_r_leastAbove (Nat.le_of_ble_eq_true rfl) ?_
  refine aq_gn (n := 2) (c1 := (2, [some (.int x), some (.int y), none], [.int 1, .int x], w)) ok_r_leastAbove rfl ?_
  refine aq_icmp_ne ok_r_leastAbove rfl (fun h0 => ?_) (fun h0 => ?_)
  · refine aq_gn (n := 2) (c1 := (12, [some (.int x), some (.int y), none], [.int 2, .int x], w)) ok_r_leastAbove rfl ?_
    refine aq_icmp_ne ok_r_leastAbove rfl (fun h1 => ?_) (fun h1 => ?_)
    · refine aq_gn (n := 3) (c1 := (27, [some (.int x), some (.int y), some (.int 0)], [.int 0], w)) ok_r_leastAbove rfl ?_
      refine aq_if_eq ok_r_leastAbove rfl (fun h2 => ?_) (fun h2 => ?_)
      · refine aq_gn (n := 2) (c1 := (36, [some (.int x), some (.int y), some (.int 0)], [.int y, .int x], w)) ok_r_leastAbove rfl ?_
        refine aq_icmp_le ok_r_leastAbove rfl (fun h3 => ?_) (fun h3 => ?_)
        · refine aq_gn (n := 1) (c1 := (44, [some (.int x), some (.int y), some (.int 0)], [.int y], w)) ok_r_leastAbove rfl ?_
          exact aq_ei ok_r_leastAbove rfl rfl (by unfold rlI; first | (simp_all; done) | (simp_all; intro hq; exact absurd hq (Int32.not_le.mpr (by assumption)))) rfl
        · refine aq_gn (n := 2) (c1 := (44, [some (.int x), some (.int y), some (.int 0)], [.int x], w)) ok_r_leastAbove rfl ?_
          exact aq_ei ok_r_leastAbove rfl rfl (by unfold rlI; first | (simp_all; done) | (simp_all; intro hq; exact absurd hq (Int32.not_le.mpr (by assumption)))) rfl
      · refine aq_gn (n := 2) (c1 := (44, [some (.int x), some (.int y), some (.int 0)], [.int 3], w)) ok_r_leastAbove rfl ?_
        exact aq_ei ok_r_leastAbove rfl rfl (by unfold rlI; first | (simp_all; done) | (simp_all; intro hq; exact absurd hq (Int32.not_le.mpr (by assumption)))) rfl
    · refine aq_gn (n := 2) (c1 := (17, [some (.int x), some (.int y), none], [.int 1, .int y], w)) ok_r_leastAbove rfl ?_
      refine aq_icmp_ne ok_r_leastAbove rfl (fun h2 => ?_) (fun h2 => ?_)
      · refine aq_gn (n := 3) (c1 := (27, [some (.int x), some (.int y), some (.int 0)], [.int 0], w)) ok_r_leastAbove rfl ?_
        refine aq_if_eq ok_r_leastAbove rfl (fun h3 => ?_) (fun h3 => ?_)
        · refine aq_gn (n := 2) (c1 := (36, [some (.int x), some (.int y), some (.int 0)], [.int y, .int x], w)) ok_r_leastAbove rfl ?_
          refine aq_icmp_le ok_r_leastAbove rfl (fun h4 => ?_) (fun h4 => ?_)
          · refine aq_gn (n := 1) (c1 := (44, [some (.int x), some (.int y), some (.int 0)], [.int y], w)) ok_r_leastAbove rfl ?_
            exact aq_ei ok_r_leastAbove rfl rfl (by unfold rlI; first | (simp_all; done) | (simp_all; intro hq; exact absurd hq (Int32.not_le.mpr (by assumption)))) rfl
          · refine aq_gn (n := 2) (c1 := (44, [some (.int x), some (.int y), some (.int 0)], [.int x], w)) ok_r_leastAbove rfl ?_
            exact aq_ei ok_r_leastAbove rfl rfl (by unfold rlI; first | (simp_all; done) | (simp_all; intro hq; exact absurd hq (Int32.not_le.mpr (by assumption)))) rfl
        · refine aq_gn (n := 2) (c1 := (44, [some (.int x), some (.int y), some (.int 0)], [.int 3], w)) ok_r_leastAbove rfl ?_
          exact aq_ei ok_r_leastAbove rfl rfl (by unfold rlI; first | (simp_all; done) | (simp_all; intro hq; exact absurd hq (Int32.not_le.mpr (by assumption)))) rfl
      · refine aq_gn (n := 4) (c1 := (27, [some (.int x), some (.int y), some (.int 1)], [.int 1], w)) ok_r_leastAbove rfl ?_
        refine aq_if_eq ok_r_leastAbove rfl (fun h3 => ?_) (fun h3 => ?_)
        · refine aq_gn (n := 2) (c1 := (36, [some (.int x), some (.int y), some (.int 1)], [.int y, .int x], w)) ok_r_leastAbove rfl ?_
          refine aq_icmp_le ok_r_leastAbove rfl (fun h4 => ?_) (fun h4 => ?_)
          · refine aq_gn (n := 1) (c1 := (44, [some (.int x), some (.int y), some (.int 1)], [.int y], w)) ok_r_leastAbove rfl ?_
            exact aq_ei ok_r_leastAbove rfl rfl (by unfold rlI; first | (simp_all; done) | (simp_all; intro hq; exact absurd hq (Int32.not_le.mpr (by assumption)))) rfl
          · refine aq_gn (n := 2) (c1 := (44, [some (.int x), some (.int y), some (.int 1)], [.int x], w)) ok_r_leastAbove rfl ?_
            exact aq_ei ok_r_leastAbove rfl rfl (by unfold rlI; first | (simp_all; done) | (simp_all; intro hq; exact absurd hq (Int32.not_le.mpr (by assumption)))) rfl
        · refine aq_gn (n := 2) (c1 := (44, [some (.int x), some (.int y), some (.int 1)], [.int 3], w)) ok_r_leastAbove rfl ?_
          exact aq_ei ok_r_leastAbove rfl rfl (by unfold rlI; first | (simp_all; done) | (simp_all; intro hq; exact absurd hq (Int32.not_le.mpr (by assumption)))) rfl
  · refine aq_gn (n := 2) (c1 := (7, [some (.int x), some (.int y), none], [.int 2, .int y], w)) ok_r_leastAbove rfl ?_
    refine aq_icmp_eq ok_r_leastAbove rfl (fun h1 => ?_) (fun h1 => ?_)
    · refine aq_gn (n := 4) (c1 := (27, [some (.int x), some (.int y), some (.int 1)], [.int 1], w)) ok_r_leastAbove rfl ?_
      refine aq_if_eq ok_r_leastAbove rfl (fun h2 => ?_) (fun h2 => ?_)
      · refine aq_gn (n := 2) (c1 := (36, [some (.int x), some (.int y), some (.int 1)], [.int y, .int x], w)) ok_r_leastAbove rfl ?_
        refine aq_icmp_le ok_r_leastAbove rfl (fun h3 => ?_) (fun h3 => ?_)
        · refine aq_gn (n := 1) (c1 := (44, [some (.int x), some (.int y), some (.int 1)], [.int y], w)) ok_r_leastAbove rfl ?_
          exact aq_ei ok_r_leastAbove rfl rfl (by unfold rlI; first | (simp_all; done) | (simp_all; intro hq; exact absurd hq (Int32.not_le.mpr (by assumption)))) rfl
        · refine aq_gn (n := 2) (c1 := (44, [some (.int x), some (.int y), some (.int 1)], [.int x], w)) ok_r_leastAbove rfl ?_
          exact aq_ei ok_r_leastAbove rfl rfl (by unfold rlI; first | (simp_all; done) | (simp_all; intro hq; exact absurd hq (Int32.not_le.mpr (by assumption)))) rfl
      · refine aq_gn (n := 2) (c1 := (44, [some (.int x), some (.int y), some (.int 1)], [.int 3], w)) ok_r_leastAbove rfl ?_
        exact aq_ei ok_r_leastAbove rfl rfl (by unfold rlI; first | (simp_all; done) | (simp_all; intro hq; exact absurd hq (Int32.not_le.mpr (by assumption)))) rfl
    · refine aq_gn (n := 2) (c1 := (12, [some (.int x), some (.int y), none], [.int 2, .int x], w)) ok_r_leastAbove rfl ?_
      refine aq_icmp_ne ok_r_leastAbove rfl (fun h2 => ?_) (fun h2 => ?_)
      · refine aq_gn (n := 3) (c1 := (27, [some (.int x), some (.int y), some (.int 0)], [.int 0], w)) ok_r_leastAbove rfl ?_
        refine aq_if_eq ok_r_leastAbove rfl (fun h3 => ?_) (fun h3 => ?_)
        · refine aq_gn (n := 2) (c1 := (36, [some (.int x), some (.int y), some (.int 0)], [.int y, .int x], w)) ok_r_leastAbove rfl ?_
          refine aq_icmp_le ok_r_leastAbove rfl (fun h4 => ?_) (fun h4 => ?_)
          · refine aq_gn (n := 1) (c1 := (44, [some (.int x), some (.int y), some (.int 0)], [.int y], w)) ok_r_leastAbove rfl ?_
            exact aq_ei ok_r_leastAbove rfl rfl (by unfold rlI; first | (simp_all; done) | (simp_all; intro hq; exact absurd hq (Int32.not_le.mpr (by assumption)))) rfl
          · refine aq_gn (n := 2) (c1 := (44, [some (.int x), some (.int y), some (.int 0)], [.int x], w)) ok_r_leastAbove rfl ?_
            exact aq_ei ok_r_leastAbove rfl rfl (by unfold rlI; first | (simp_all; done) | (simp_all; intro hq; exact absurd hq (Int32.not_le.mpr (by assumption)))) rfl
        · refine aq_gn (n := 2) (c1 := (44, [some (.int x), some (.int y), some (.int 0)], [.int 3], w)) ok_r_leastAbove rfl ?_
          exact aq_ei ok_r_leastAbove rfl rfl (by unfold rlI; first | (simp_all; done) | (simp_all; intro hq; exact absurd hq (Int32.not_le.mpr (by assumption)))) rfl
      · refine aq_gn (n := 2) (c1 := (17, [some (.int x), some (.int y), none], [.int 1, .int y], w)) ok_r_leastAbove rfl ?_
        refine aq_icmp_ne ok_r_leastAbove rfl (fun h3 => ?_) (fun h3 => ?_)
        · refine aq_gn (n := 3) (c1 := (27, [some (.int x), some (.int y), some (.int 0)], [.int 0], w)) ok_r_leastAbove rfl ?_
          refine aq_if_eq ok_r_leastAbove rfl (fun h4 => ?_) (fun h4 => ?_)
          · refine aq_gn (n := 2) (c1 := (36, [some (.int x), some (.int y), some (.int 0)], [.int y, .int x], w)) ok_r_leastAbove rfl ?_
            refine aq_icmp_le ok_r_leastAbove rfl (fun h5 => ?_) (fun h5 => ?_)
            · refine aq_gn (n := 1) (c1 := (44, [some (.int x), some (.int y), some (.int 0)], [.int y], w)) ok_r_leastAbove rfl ?_
              exact aq_ei ok_r_leastAbove rfl rfl (by unfold rlI; first | (simp_all; done) | (simp_all; intro hq; exact absurd hq (Int32.not_le.mpr (by assumption)))) rfl
            · refine aq_gn (n := 2) (c1 := (44, [some (.int x), some (.int y), some (.int 0)], [.int x], w)) ok_r_leastAbove rfl ?_
              exact aq_ei ok_r_leastAbove rfl rfl (by unfold rlI; first | (simp_all; done) | (simp_all; intro hq; exact absurd hq (Int32.not_le.mpr (by assumption)))) rfl
          · refine aq_gn (n := 2) (c1 := (44, [some (.int x), some (.int y), some (.int 0)], [.int 3], w)) ok_r_leastAbove rfl ?_
            exact aq_ei ok_r_leastAbove rfl rfl (by unfold rlI; first | (simp_all; done) | (simp_all; intro hq; exact absurd hq (Int32.not_le.mpr (by assumption)))) rfl
        · refine aq_gn (n := 4) (c1 := (27, [some (.int x), some (.int y), some (.int 1)], [.int 1], w)) ok_r_leastAbove rfl ?_
          refine aq_if_eq ok_r_leastAbove rfl (fun h4 => ?_) (fun h4 => ?_)
          · refine aq_gn (n := 2) (c1 := (36, [some (.int x), some (.int y), some (.int 1)], [.int y, .int x], w)) ok_r_leastAbove rfl ?_
            refine aq_icmp_le ok_r_leastAbove rfl (fun h5 => ?_) (fun h5 => ?_)
            · refine aq_gn (n := 1) (c1 := (44, [some (.int x), some (.int y), some (.int 1)], [.int y], w)) ok_r_leastAbove rfl ?_
              exact aq_ei ok_r_leastAbove rfl rfl (by unfold rlI; first | (simp_all; done) | (simp_all; intro hq; exact absurd hq (Int32.not_le.mpr (by assumption)))) rfl
            · refine aq_gn (n := 2) (c1 := (44, [some (.int x), some (.int y), some (.int 1)], [.int x], w)) ok_r_leastAbove rfl ?_
              exact aq_ei ok_r_leastAbove rfl rfl (by unfold rlI; first | (simp_all; done) | (simp_all; intro hq; exact absurd hq (Int32.not_le.mpr (by assumption)))) rfl
          · refine aq_gn (n := 2) (c1 := (44, [some (.int x), some (.int y), some (.int 1)], [.int 3], w)) ok_r_leastAbove rfl ?_
            exact aq_ei ok_r_leastAbove rfl rfl (by unfold rlI; first | (simp_all; done) | (simp_all; intro hq; exact absurd hq (Int32.not_le.mpr (by assumption)))) rfl
set_option maxHeartbeats 4000000 in
theorem rm_isObject {d : Nat} {w : List va_E} (x : Int32) : AM r_isObject d (.inl (some (.int (bI (isT 85 x))))) [.int x] w w := by
  refine aq_enter pl_r_isObject (Nat.le_of_ble_eq_true rfl) ?_
  refine aq_gn (n := 1) (c1 := (1, [some (.int x)], [.int x], w)) ok_r_isObject rfl ?_
  refine aq_if_lt ok_r_isObject rfl (fun h0 => ?_) (fun h0 => ?_)
  · refine aq_gn (n := 1) (c1 := (15, [some (.int x)], [.int 0], w)) ok_r_isObject rfl ?_
    exact aq_ez ok_r_isObject rfl rfl (by unfold isT; simp_all [bI, show nI 85 = 85 from rfl]) rfl
  · refine aq_gn (n := 2) (c1 := (7, [some (.int x)], [.int 85, .int x], w)) ok_r_isObject rfl ?_
    refine aq_icmp_ge ok_r_isObject rfl (fun h1 => ?_) (fun h1 => ?_)
    · refine aq_gn (n := 1) (c1 := (15, [some (.int x)], [.int 0], w)) ok_r_isObject rfl ?_
      exact aq_ez ok_r_isObject rfl rfl (by unfold isT; simp_all [bI, show nI 85 = 85 from rfl]) rfl
    · refine aq_gn (n := 2) (c1 := (15, [some (.int x)], [.int 1], w)) ok_r_isObject rfl ?_
      exact aq_ez ok_r_isObject rfl rfl (by unfold isT; simp_all [bI, show nI 85 = 85 from rfl]) rfl
set_option maxHeartbeats 4000000 in
theorem rm_isTransaction {d cd n : Nat} {pr st : Nat → Nat} {he wt : Nat → Option Nat} {wn : Nat → Nat} {cv : Nat → Bool} {qs qu : Nat → Nat} {v5 v6 v7 : Nat} (x : Int32) : AM r_isTransaction d (.inl (some (.int (bI (isT n x))))) [.ref 0, .int x] (mL cd n pr st he wt wn cv qs qu v5 v6 v7) (mL cd n pr st he wt wn cv qs qu v5 v6 v7) := by
  refine aq_enter pl_r_isTransaction (Nat.le_of_ble_eq_true rfl) ?_
  refine aq_gn (n := 1) (c1 := (1, [some (.ref 0), some (.int x)], [.int x], mL cd n pr st he wt wn cv qs qu v5 v6 v7)) ok_r_isTransaction rfl ?_
  refine aq_if_lt ok_r_isTransaction rfl (fun h0 => ?_) (fun h0 => ?_)
  · refine aq_gn (n := 1) (c1 := (17, [some (.ref 0), some (.int x)], [.int 0], mL cd n pr st he wt wn cv qs qu v5 v6 v7)) ok_r_isTransaction rfl ?_
    exact aq_ez ok_r_isTransaction rfl rfl (by unfold isT; simp_all [bI]) rfl
  · refine aq_gn (n := 3) (c1 := (9, [some (.ref 0), some (.int x)], [.int (nI n), .int x], mL cd n pr st he wt wn cv qs qu v5 v6 v7)) ok_r_isTransaction rfl ?_
    refine aq_icmp_ge ok_r_isTransaction rfl (fun h1 => ?_) (fun h1 => ?_)
    · refine aq_gn (n := 1) (c1 := (17, [some (.ref 0), some (.int x)], [.int 0], mL cd n pr st he wt wn cv qs qu v5 v6 v7)) ok_r_isTransaction rfl ?_
      exact aq_ez ok_r_isTransaction rfl rfl (by unfold isT; simp_all [bI]) rfl
    · refine aq_gn (n := 2) (c1 := (17, [some (.ref 0), some (.int x)], [.int 1], mL cd n pr st he wt wn cv qs qu v5 v6 v7)) ok_r_isTransaction rfl ?_
      exact aq_ez ok_r_isTransaction rfl rfl (by unfold isT; simp_all [bI]) rfl
set_option maxHeartbeats 4000000 in
theorem rm_modeOf {d cd n : Nat} {pr st : Nat → Nat} {he wt : Nat → Option Nat} {wn : Nat → Nat} {cv : Nat → Bool} {qs qu : Nat → Nat} {v5 v6 v7 : Nat} {t o : Nat} (ht : t < 60) (ho : o < 85) : AM r_modeOf (d) (.inl (some (.int (mdI he t o)))) [.ref 0, .int (nI t), .int (nI o)] (mL cd n pr st he wt wn cv qs qu v5 v6 v7) (mL cd n pr st he wt wn cv qs qu v5 v6 v7) := by
  refine aq_enter pl_r_modeOf (Nat.le_of_ble_eq_true rfl) ?_
  refine aq_go (n := 10) (c1 := (13, [some (.ref 0), some (.int (nI t)), some (.int (nI o))], [.int ((oI (he (((nI 60) * (nI o)) + (nI t)).toNatClampNeg)) - (nI 1))], mL cd n pr st he wt wn cv qs qu v5 v6 v7)) (P := vp_in (((nI 60) * (nI o)) + (nI t)) 5100) ok_r_modeOf rfl (in6 ho ht) ?_
  rw [cl6 ho ht]
  exact aq_ei ok_r_modeOf rfl rfl rfl rfl
set_option maxHeartbeats 4000000 in
theorem lp_fits {d cd n : Nat} {pr st : Nat → Nat} {he wt : Nat → Option Nat} {wn : Nat → Nat} {cv : Nat → Bool} {qs qu : Nat → Nat} {v5 v6 v7 : Nat} {t o : Nat} {x : Int32} (ht : t < 60) (ho : o < 85) (hn : n ≤ 60) : ∀ (f i : Nat), i + f = n → ∀ b : Bool,  AW r_fits (d + 1) (.inl (some (.int (bI (ftF he t o x f i b))))) (mL cd n pr st he wt wn cv qs qu v5 v6 v7) (6, [some (.ref 0), some (.int (nI t)), some (.int (nI o)), some (.int x), some (.int (bI b)), some (.int (nI i)), none], [], mL cd n pr st he wt wn cv qs qu v5 v6 v7) := by
  intro f
  induction f with
  | zero =>
    intro i hif b
    refine aq_gn (n := 3) (c1 := (12, [some (.ref 0), some (.int (nI t)), some (.int (nI o)), some (.int x), some (.int (bI b)), some (.int (nI i)), none], [.int (nI n), .int (nI i)], mL cd n pr st he wt wn cv qs qu v5 v6 v7)) ok_r_fits rfl ?_
    refine aq_icmp_ge ok_r_fits rfl (fun h => ?_) (fun h => ?_)
    · refine aq_gn (n := 1) (c1 := (64, [some (.ref 0), some (.int (nI t)), some (.int (nI o)), some (.int x), some (.int (bI b)), some (.int (nI i)), none], [.int (bI b)], mL cd n pr st he wt wn cv qs qu v5 v6 v7)) ok_r_fits rfl ?_
      exact aq_ez ok_r_fits rfl rfl rfl rfl
    · exact absurd (nI_le (show n ≤ i by omega) (by omega)) h
  | succ f ih =>
    intro i hif b
    refine aq_gn (n := 3) (c1 := (12, [some (.ref 0), some (.int (nI t)), some (.int (nI o)), some (.int x), some (.int (bI b)), some (.int (nI i)), none], [.int (nI n), .int (nI i)], mL cd n pr st he wt wn cv qs qu v5 v6 v7)) ok_r_fits rfl ?_
    refine aq_icmp_ge ok_r_fits rfl (fun h => ?_) (fun h => ?_)
    · exact absurd (q_le h (by omega) (by omega)) (by omega)
    · refine aq_gn (n := 3) (c1 := (19, [some (.ref 0), some (.int (nI t)), some (.int (nI o)), some (.int x), some (.int (bI b)), some (.int (nI i)), none], [.int (nI o), .int (nI i), .ref 0], mL cd n pr st he wt wn cv qs qu v5 v6 v7)) ok_r_fits rfl ?_
      refine aq_callV (as := [.int (nI i), .int (nI o)]) (st := []) ok_r_fits rfl c1_r_modeOf (rm_modeOf (show i < 60 by omega) ho) rfl (Nat.le_of_ble_eq_true rfl) rfl rfl rfl ?_
      refine aq_gn (n := 2) (c1 := (26, [some (.ref 0), some (.int (nI t)), some (.int (nI o)), some (.int x), some (.int (bI b)), some (.int (nI i)), some (.int (mdI he i o))], [.int (bI b)], mL cd n pr st he wt wn cv qs qu v5 v6 v7)) ok_r_fits rfl ?_
      refine aq_if_eq ok_r_fits rfl (fun h2 => ?_) (fun h2 => ?_)
      · have hb := (bI_0 _).mp h2
        refine aq_gn (n := 4) (c1 := (6, [some (.ref 0), some (.int (nI t)), some (.int (nI o)), some (.int x), some (.int (nI 0)), some (.int ((nI i) + 1)), some (.int (mdI he i o))], [], mL cd n pr st he wt wn cv qs qu v5 v6 v7)) ok_r_fits rfl ?_
        rw [nI_1]
        have e : ftF he t o x (f + 1) i b = ftF he t o x f (i + 1) false := by rw [ftF]; simp [hb]
        rw [e]
        refine aq_drop 6 ?_
        exact ih (i + 1) (by omega) false
      · have hb : b = true := by cases b with | true => rfl | false => exact absurd rfl h2
        refine aq_gn (n := 2) (c1 := (32, [some (.ref 0), some (.int (nI t)), some (.int (nI o)), some (.int x), some (.int (bI b)), some (.int (nI i)), some (.int (mdI he i o))], [.int (nI t), .int (nI i)], mL cd n pr st he wt wn cv qs qu v5 v6 v7)) ok_r_fits rfl ?_
        refine aq_icmp_eq ok_r_fits rfl (fun h3 => ?_) (fun h3 => ?_)
        · have hc := q_eq h3 (by omega) (by omega)
          refine aq_gn (n := 5) (c1 := (6, [some (.ref 0), some (.int (nI t)), some (.int (nI o)), some (.int x), some (.int (nI 1)), some (.int ((nI i) + 1)), some (.int (mdI he i o))], [], mL cd n pr st he wt wn cv qs qu v5 v6 v7)) ok_r_fits rfl ?_
          rw [nI_1]
          have e : ftF he t o x (f + 1) i b = ftF he t o x f (i + 1) true := by rw [ftF]; simp [hb, hc]
          rw [e]
          refine aq_drop 6 ?_
          exact ih (i + 1) (by omega) true
        · have hc := q_ne h3
          refine aq_gn (n := 1) (c1 := (37, [some (.ref 0), some (.int (nI t)), some (.int (nI o)), some (.int x), some (.int (bI b)), some (.int (nI i)), some (.int (mdI he i o))], [.int (mdI he i o)], mL cd n pr st he wt wn cv qs qu v5 v6 v7)) ok_r_fits rfl ?_
          refine aq_if_lt ok_r_fits rfl (fun h4 => ?_) (fun h4 => ?_)
          · refine aq_gn (n := 5) (c1 := (6, [some (.ref 0), some (.int (nI t)), some (.int (nI o)), some (.int x), some (.int (nI 1)), some (.int ((nI i) + 1)), some (.int (mdI he i o))], [], mL cd n pr st he wt wn cv qs qu v5 v6 v7)) ok_r_fits rfl ?_
            rw [nI_1]
            have e : ftF he t o x (f + 1) i b = ftF he t o x f (i + 1) true := by rw [ftF]; simp [hb, hc, h4]
            rw [e]
            refine aq_drop 6 ?_
            exact ih (i + 1) (by omega) true
          · refine aq_gn (n := 2) (c1 := (43, [some (.ref 0), some (.int (nI t)), some (.int (nI o)), some (.int x), some (.int (bI b)), some (.int (nI i)), some (.int (mdI he i o))], [.int x, .int (mdI he i o)], mL cd n pr st he wt wn cv qs qu v5 v6 v7)) ok_r_fits rfl ?_
            refine aq_callS (as := [.int (mdI he i o), .int x]) (st := []) ok_r_fits rfl c1_r_together (rm_together (mdI he i o) x) rfl (Nat.le_of_ble_eq_true rfl) ?_
            refine aq_if_eq ok_r_fits rfl (fun h5 => ?_) (fun h5 => ?_)
            · have hg := (bI_0 _).mp h5
              refine aq_gn (n := 4) (c1 := (6, [some (.ref 0), some (.int (nI t)), some (.int (nI o)), some (.int x), some (.int (nI 0)), some (.int ((nI i) + 1)), some (.int (mdI he i o))], [], mL cd n pr st he wt wn cv qs qu v5 v6 v7)) ok_r_fits rfl ?_
              rw [nI_1]
              have e : ftF he t o x (f + 1) i b = ftF he t o x f (i + 1) false := by rw [ftF]; simp [hb, hc, h4, hg]
              rw [e]
              refine aq_drop 6 ?_
              exact ih (i + 1) (by omega) false
            · have hg : tgI (mdI he i o) x = true := by cases hy : tgI (mdI he i o) x with | true => rfl | false => exact absurd ((bI_0 _).mpr hy) h5
              refine aq_gn (n := 5) (c1 := (6, [some (.ref 0), some (.int (nI t)), some (.int (nI o)), some (.int x), some (.int (nI 1)), some (.int ((nI i) + 1)), some (.int (mdI he i o))], [], mL cd n pr st he wt wn cv qs qu v5 v6 v7)) ok_r_fits rfl ?_
              rw [nI_1]
              have e : ftF he t o x (f + 1) i b = ftF he t o x f (i + 1) true := by rw [ftF]; simp [hb, hc, h4, hg]
              rw [e]
              refine aq_drop 6 ?_
              exact ih (i + 1) (by omega) true
set_option maxHeartbeats 4000000 in
theorem rm_fits {d cd n : Nat} {pr st : Nat → Nat} {he wt : Nat → Option Nat} {wn : Nat → Nat} {cv : Nat → Bool} {qs qu : Nat → Nat} {v5 v6 v7 : Nat} {t o : Nat} {x : Int32} (ht : t < 60) (ho : o < 85) (hn : n ≤ 60) : AM r_fits (d + 1) (.inl (some (.int (bI (ftF he t o x n 0 true))))) [.ref 0, .int (nI t), .int (nI o), .int x] (mL cd n pr st he wt wn cv qs qu v5 v6 v7) (mL cd n pr st he wt wn cv qs qu v5 v6 v7) := by
  refine aq_enter pl_r_fits (Nat.le_of_ble_eq_true rfl) ?_
  refine aq_gn (n := 4) (c1 := (6, [some (.ref 0), some (.int (nI t)), some (.int (nI o)), some (.int x), some (.int (nI 1)), some (.int (nI 0)), none], [], mL cd n pr st he wt wn cv qs qu v5 v6 v7)) ok_r_fits rfl ?_
  exact lp_fits ht ho hn n 0 (by omega) true
set_option maxHeartbeats 4000000 in
theorem lp_enq {d cd n : Nat} {pr st : Nat → Nat} {he wt : Nat → Option Nat} {wn : Nat → Nat} {cv : Nat → Bool} {qs : Nat → Nat} {v5 v6 v7 : Nat} {t o : Nat} (ht : t < 60) (ho : o < 85) : ∀ (a : Nat), a < 60 → ∀ q : Nat → Nat, (∀ i, q i < 60) → AW r_enqueue d (.inl none) (mL cd n pr st he wt wn cv (va_up qs o (qs o + 1)) (eqF cv t o a q) v5 v6 v7) (7, [some (.ref 0), some (.int (nI t)), some (.int (nI o)), some (.int (nI a))], [], mL cd n pr st he wt wn cv qs q v5 v6 v7) := by
  intro a
  induction a with
  | zero =>
    intro ha q hq
    refine aq_gn (n := 1) (c1 := (8, [some (.ref 0), some (.int (nI t)), some (.int (nI o)), some (.int (nI 0))], [.int (nI 0)], mL cd n pr st he wt wn cv qs q v5 v6 v7)) ok_r_enqueue rfl ?_
    refine aq_if_le ok_r_enqueue rfl (fun h => ?_) (fun h => ?_)
    · refine aq_go (n := 17) (c1 := (93, [some (.ref 0), some (.int (nI t)), some (.int (nI o)), some (.int (nI 0))], [], mR (nI cd) (nI n) (fun i => nI (pr i)) (fun i => nI (st i)) (fun i => oI (he i)) (fun i => oI (wt i)) (fun i => nI (wn i)) (fun i => bI (cv i)) (upd (fun i => nI (qs i)) (nI o).toNatClampNeg ((nI (qs (nI o).toNatClampNeg)) + (nI 1))) (upd (fun i => nI (q i)) (((nI 60) * (nI o)) + (nI 0)).toNatClampNeg (nI t)) (nI v5) (nI v6) (nI v7))) (P := vp_in (((nI 60) * (nI o)) + (nI 0)) 5100 ∧ vp_in (nI o) 85 ∧ vp_in (nI o) 85) ok_r_enqueue rfl ⟨(in6 ho (by omega)), (inN ho (by omega)), (inN ho (by omega))⟩ ?_
      rw [cl6 ho (show 0 < 60 by omega), clN (show o < 6000 by omega), nI_add, upd_n, upd_n]
      exact aq_ev ok_r_enqueue rfl rfl rfl
    · exact absurd (by decide) h
  | succ a ih =>
    intro ha q hq
    refine aq_gn (n := 1) (c1 := (8, [some (.ref 0), some (.int (nI t)), some (.int (nI o)), some (.int (nI (a + 1)))], [.int (nI (a + 1))], mL cd n pr st he wt wn cv qs q v5 v6 v7)) ok_r_enqueue rfl ?_
    refine aq_if_le ok_r_enqueue rfl (fun h => ?_) (fun h => ?_)
    · exact absurd (q_le (b := 0) h (by omega) (by omega)) (by omega)
    · refine aq_go (n := 4) (c1 := (17, [some (.ref 0), some (.int (nI t)), some (.int (nI o)), some (.int (nI (a + 1)))], [.int (bI (cv (nI t).toNatClampNeg))], mL cd n pr st he wt wn cv qs q v5 v6 v7)) (P := vp_in (nI t) 60) ok_r_enqueue rfl (in60 ht) ?_
      rw [cl60 ht]
      refine aq_if_eq ok_r_enqueue rfl (fun h2 => ?_) (fun h2 => ?_)
      · have hb := (bI_0 _).mp h2
        have e : eqF cv t o (a + 1) q = va_up q (60 * o + (a + 1)) t := by rw [eqF, if_neg (by simp [hb])]
        rw [e]
        refine aq_go (n := 17) (c1 := (93, [some (.ref 0), some (.int (nI t)), some (.int (nI o)), some (.int (nI (a + 1)))], [], mR (nI cd) (nI n) (fun i => nI (pr i)) (fun i => nI (st i)) (fun i => oI (he i)) (fun i => oI (wt i)) (fun i => nI (wn i)) (fun i => bI (cv i)) (upd (fun i => nI (qs i)) (nI o).toNatClampNeg ((nI (qs (nI o).toNatClampNeg)) + (nI 1))) (upd (fun i => nI (q i)) (((nI 60) * (nI o)) + (nI (a + 1))).toNatClampNeg (nI t)) (nI v5) (nI v6) (nI v7))) (P := vp_in (((nI 60) * (nI o)) + (nI (a + 1))) 5100 ∧ vp_in (nI o) 85 ∧ vp_in (nI o) 85) ok_r_enqueue rfl ⟨(in6 ho ha), (inN ho (by omega)), (inN ho (by omega))⟩ ?_
        rw [cl6 ho ha, clN (show o < 6000 by omega), nI_add, upd_n, upd_n]
        exact aq_ev ok_r_enqueue rfl rfl rfl
      · have hb : cv t = true := by cases hy : cv t with | true => rfl | false => exact absurd ((bI_0 _).mpr hy) h2
        refine aq_go (n := 13) (c1 := (38, [some (.ref 0), some (.int (nI t)), some (.int (nI o)), some (.int (nI (a + 1)))], [.int (bI (cv (nI (q ((((nI 60) * (nI o)) + (nI (a + 1))) - (nI 1)).toNatClampNeg)).toNatClampNeg))], mL cd n pr st he wt wn cv qs q v5 v6 v7)) (P := vp_in ((((nI 60) * (nI o)) + (nI (a + 1))) - (nI 1)) 5100 ∧ vp_in (nI (q ((((nI 60) * (nI o)) + (nI (a + 1))) - (nI 1)).toNatClampNeg)) 60) ok_r_enqueue rfl ⟨(by rw [(show nI 60 * nI o + nI (a + 1) - nI 1 = nI (60 * o + a) from by rw [ix6]; exact nI_pred _)]; exact inN (by omega) (by omega)), (by rw [(show nI 60 * nI o + nI (a + 1) - nI 1 = nI (60 * o + a) from by rw [ix6]; exact nI_pred _), clN (show 60 * o + a < 6000 by omega)]; exact in60 (hq _))⟩ ?_
        rw [(show nI 60 * nI o + nI (a + 1) - nI 1 = nI (60 * o + a) from by rw [ix6]; exact nI_pred _), clN (show 60 * o + a < 6000 by omega), cl60 (hq _)]
        refine aq_if_ne ok_r_enqueue rfl (fun h3 => ?_) (fun h3 => ?_)
        · have hc : cv (q (60 * o + a)) = true := by cases hy : cv (q (60 * o + a)) with | true => rfl | false => exact absurd ((bI_0 _).mpr hy) h3
          have e : eqF cv t o (a + 1) q = va_up q (60 * o + (a + 1)) t := by rw [eqF, if_neg (by simp [hc])]
          rw [e]
          refine aq_go (n := 17) (c1 := (93, [some (.ref 0), some (.int (nI t)), some (.int (nI o)), some (.int (nI (a + 1)))], [], mR (nI cd) (nI n) (fun i => nI (pr i)) (fun i => nI (st i)) (fun i => oI (he i)) (fun i => oI (wt i)) (fun i => nI (wn i)) (fun i => bI (cv i)) (upd (fun i => nI (qs i)) (nI o).toNatClampNeg ((nI (qs (nI o).toNatClampNeg)) + (nI 1))) (upd (fun i => nI (q i)) (((nI 60) * (nI o)) + (nI (a + 1))).toNatClampNeg (nI t)) (nI v5) (nI v6) (nI v7))) (P := vp_in (((nI 60) * (nI o)) + (nI (a + 1))) 5100 ∧ vp_in (nI o) 85 ∧ vp_in (nI o) 85) ok_r_enqueue rfl ⟨(in6 ho ha), (inN ho (by omega)), (inN ho (by omega))⟩ ?_
          rw [cl6 ho ha, clN (show o < 6000 by omega), nI_add, upd_n, upd_n]
          exact aq_ev ok_r_enqueue rfl rfl rfl
        · have hc := (bI_0 _).mp h3
          refine aq_go (n := 20) (c1 := (7, [some (.ref 0), some (.int (nI t)), some (.int (nI o)), some (.int ((nI (a + 1)) + (-1)))], [], mR (nI cd) (nI n) (fun i => nI (pr i)) (fun i => nI (st i)) (fun i => oI (he i)) (fun i => oI (wt i)) (fun i => nI (wn i)) (fun i => bI (cv i)) (fun i => nI (qs i)) (upd (fun i => nI (q i)) (((nI 60) * (nI o)) + (nI (a + 1))).toNatClampNeg (nI (q ((((nI 60) * (nI o)) + (nI (a + 1))) - (nI 1)).toNatClampNeg))) (nI v5) (nI v6) (nI v7))) (P := vp_in ((((nI 60) * (nI o)) + (nI (a + 1))) - (nI 1)) 5100 ∧ vp_in (((nI 60) * (nI o)) + (nI (a + 1))) 5100) ok_r_enqueue rfl ⟨(by rw [(show nI 60 * nI o + nI (a + 1) - nI 1 = nI (60 * o + a) from by rw [ix6]; exact nI_pred _)]; exact inN (by omega) (by omega)), (in6 ho ha)⟩ ?_
          rw [(show nI 60 * nI o + nI (a + 1) - nI 1 = nI (60 * o + a) from by rw [ix6]; exact nI_pred _), clN (show 60 * o + a < 6000 by omega), cl6 ho ha, pk_m1, upd_n]
          have e : eqF cv t o (a + 1) q = eqF cv t o a (va_up q (60 * o + (a + 1)) (q (60 * o + a))) := by rw [eqF, if_pos ⟨hb, hc⟩]
          rw [e]
          exact ih (by omega) _ (va_up_lt hq (hq _))
set_option maxHeartbeats 4000000 in
theorem rm_enqueue {d cd n : Nat} {pr st : Nat → Nat} {he wt : Nat → Option Nat} {wn : Nat → Nat} {cv : Nat → Bool} {qs qu : Nat → Nat} {v5 v6 v7 : Nat} {t o : Nat} (ht : t < 60) (ho : o < 85) (hs : qs o < 60) (hq : ∀ i, qu i < 60) : AM r_enqueue (d) (.inl none) [.ref 0, .int (nI t), .int (nI o)] (mL cd n pr st he wt wn cv qs qu v5 v6 v7) (mL cd n pr st he wt wn cv (va_up qs o (qs o + 1)) (eqF cv t o (qs o) qu) v5 v6 v7) := by
  refine aq_enter pl_r_enqueue (Nat.le_of_ble_eq_true rfl) ?_
  refine aq_go (n := 5) (c1 := (7, [some (.ref 0), some (.int (nI t)), some (.int (nI o)), some (.int (nI (qs (nI o).toNatClampNeg)))], [], mL cd n pr st he wt wn cv qs qu v5 v6 v7)) (P := vp_in (nI o) 85) ok_r_enqueue rfl (inN ho (by omega)) ?_
  rw [clN (show o < 6000 by omega)]
  exact lp_enq ht ho (qs o) hs qu hq
set_option maxHeartbeats 4000000 in
theorem lp_deq {d cd n : Nat} {pr st : Nat → Nat} {he wt : Nat → Option Nat} {wn : Nat → Nat} {cv : Nat → Bool} {qs : Nat → Nat} {v5 v6 v7 : Nat} {t o : Nat} (ht : t < 60) (ho : o < 85) (hs : qs o ≤ 60) : ∀ (f i : Nat), i + f = 60 * o + qs o → ∀ (j : Nat) (q : Nat → Nat), j ≤ i → 60 * o ≤ j → (∀ i, q i < 60) → AW r_dequeue d (.inl none) (mL cd n pr st he wt wn cv (va_up qs o ((lqF t f i j q).2 - 60 * o)) ((lqF t f i j q).1) v5 v6 v7) (11, [some (.ref 0), some (.int (nI t)), some (.int (nI o)), some (.int (nI j)), some (.int (nI i))], [], mL cd n pr st he wt wn cv qs q v5 v6 v7) := by
  intro f
  induction f with
  | zero =>
    intro i hif j q hj hj6 hq
    refine aq_go (n := 9) (c1 := (24, [some (.ref 0), some (.int (nI t)), some (.int (nI o)), some (.int (nI j)), some (.int (nI i))], [.int (((nI 60) * (nI o)) + (nI (qs (nI o).toNatClampNeg))), .int (nI i)], mL cd n pr st he wt wn cv qs q v5 v6 v7)) (P := vp_in (nI o) 85) ok_r_dequeue rfl (inN ho (by omega)) ?_
    rw [clN (show o < 6000 by omega), ix6]
    refine aq_icmp_ge ok_r_dequeue rfl (fun h => ?_) (fun h => ?_)
    · refine aq_go (n := 9) (c1 := (72, [some (.ref 0), some (.int (nI t)), some (.int (nI o)), some (.int (nI j)), some (.int (nI i))], [], mR (nI cd) (nI n) (fun i => nI (pr i)) (fun i => nI (st i)) (fun i => oI (he i)) (fun i => oI (wt i)) (fun i => nI (wn i)) (fun i => bI (cv i)) (upd (fun i => nI (qs i)) (nI o).toNatClampNeg ((nI j) - ((nI 60) * (nI o)))) (fun i => nI (q i)) (nI v5) (nI v6) (nI v7))) (P := vp_in (nI o) 85) ok_r_dequeue rfl (inN ho (by omega)) ?_
      rw [clN (show o < 6000 by omega), ix6z, pk_sub hj6, upd_n]
      exact aq_ev ok_r_dequeue rfl rfl rfl
    · exact absurd (nI_le (show 60 * o + qs o ≤ i by omega) (by omega)) h
  | succ f ih =>
    intro i hif j q hj hj6 hq
    refine aq_go (n := 9) (c1 := (24, [some (.ref 0), some (.int (nI t)), some (.int (nI o)), some (.int (nI j)), some (.int (nI i))], [.int (((nI 60) * (nI o)) + (nI (qs (nI o).toNatClampNeg))), .int (nI i)], mL cd n pr st he wt wn cv qs q v5 v6 v7)) (P := vp_in (nI o) 85) ok_r_dequeue rfl (inN ho (by omega)) ?_
    rw [clN (show o < 6000 by omega), ix6]
    refine aq_icmp_ge ok_r_dequeue rfl (fun h => ?_) (fun h => ?_)
    · exact absurd (q_le h (by omega) (by omega)) (by omega)
    · refine aq_go (n := 5) (c1 := (35, [some (.ref 0), some (.int (nI t)), some (.int (nI o)), some (.int (nI j)), some (.int (nI i))], [.int (nI t), .int (nI (q (nI i).toNatClampNeg))], mL cd n pr st he wt wn cv qs q v5 v6 v7)) (P := vp_in (nI i) 5100) ok_r_dequeue rfl (inN (by omega) (by omega)) ?_
      rw [clN (show i < 6000 by omega)]
      refine aq_icmp_eq ok_r_dequeue rfl (fun h2 => ?_) (fun h2 => ?_)
      · have hx := q_eq h2 (by have := hq i; omega) (by omega)
        refine aq_gn (n := 2) (c1 := (11, [some (.ref 0), some (.int (nI t)), some (.int (nI o)), some (.int (nI j)), some (.int ((nI i) + 1))], [], mL cd n pr st he wt wn cv qs q v5 v6 v7)) ok_r_dequeue rfl ?_
        rw [nI_1]
        have e : lqF t (f + 1) i j q = lqF t f (i + 1) j q := by simp [lqF, hx]
        rw [e]
        exact ih (i + 1) (by omega) j q (by omega) hj6 hq
      · have hx := q_ne h2
        refine aq_go (n := 11) (c1 := (11, [some (.ref 0), some (.int (nI t)), some (.int (nI o)), some (.int ((nI j) + 1)), some (.int ((nI i) + 1))], [], mR (nI cd) (nI n) (fun i => nI (pr i)) (fun i => nI (st i)) (fun i => oI (he i)) (fun i => oI (wt i)) (fun i => nI (wn i)) (fun i => bI (cv i)) (fun i => nI (qs i)) (upd (fun i => nI (q i)) (nI j).toNatClampNeg (nI (q (nI i).toNatClampNeg))) (nI v5) (nI v6) (nI v7))) (P := vp_in (nI i) 5100 ∧ vp_in (nI j) 5100) ok_r_dequeue rfl ⟨(inN (by omega) (by omega)), (inN (by omega) (by omega))⟩ ?_
        rw [clN (show i < 6000 by omega), clN (show j < 6000 by omega), upd_n, nI_1, nI_1]
        have e : lqF t (f + 1) i j q = lqF t f (i + 1) (j + 1) (va_up q j (q i)) := by simp [lqF, hx]
        rw [e]
        exact ih (i + 1) (by omega) (j + 1) (va_up q j (q i)) (by omega) (by omega) (va_up_lt hq (hq i))
set_option maxHeartbeats 4000000 in
theorem rm_dequeue {d cd n : Nat} {pr st : Nat → Nat} {he wt : Nat → Option Nat} {wn : Nat → Nat} {cv : Nat → Bool} {qs qu : Nat → Nat} {v5 v6 v7 : Nat} {t o : Nat} (ht : t < 60) (ho : o < 85) (hs : qs o ≤ 60) (hq : ∀ i, qu i < 60) : AM r_dequeue (d) (.inl none) [.ref 0, .int (nI t), .int (nI o)] (mL cd n pr st he wt wn cv qs qu v5 v6 v7) (mL cd n pr st he wt wn cv (va_up qs o ((lqF t (qs o) (60 * o) (60 * o) qu).2 - 60 * o)) ((lqF t (qs o) (60 * o) (60 * o) qu).1) v5 v6 v7) := by
  refine aq_enter pl_r_dequeue (Nat.le_of_ble_eq_true rfl) ?_
  refine aq_gn (n := 8) (c1 := (11, [some (.ref 0), some (.int (nI t)), some (.int (nI o)), some (.int ((nI 60) * (nI o))), some (.int ((nI 60) * (nI o)))], [], mL cd n pr st he wt wn cv qs qu v5 v6 v7)) ok_r_dequeue rfl ?_
  rw [ix6z]
  exact lp_deq ht ho hs (qs o) (60 * o) rfl (60 * o) qu (Nat.le_refl _) (Nat.le_refl _) hq
