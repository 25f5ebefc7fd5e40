/-! THE CLASS: modes, who holds what -/
set_option maxHeartbeats 4000000 in
theorem am_max {d : Nat} {w : List va_E} (x y : Int32) : AM j_max d (.inl (some (.int (mxI x y)))) [.int x, .int y] w w := by
  refine aq_enter pl_j_max (Nat.le_of_ble_eq_true rfl) ?_
  refine aq_gn (n := 2) (c1 := (2, [some (.int x), some (.int y)], [.int y, .int x], w)) ok_j_max rfl ?_
  refine aq_icmp_lt ok_j_max rfl (fun h0 => ?_) (fun h0 => ?_)
  · refine aq_gn (n := 1) (c1 := (10, [some (.int x), some (.int y)], [.int y], w)) ok_j_max rfl ?_
    exact aq_ei ok_j_max rfl rfl (by unfold mxI; first | rw [if_pos h0] | rw [if_neg h0]) rfl
  · refine aq_gn (n := 2) (c1 := (10, [some (.int x), some (.int y)], [.int x], w)) ok_j_max rfl ?_
    exact aq_ei ok_j_max rfl rfl (by unfold mxI; first | rw [if_pos h0] | rw [if_neg h0]) rfl
set_option maxHeartbeats 4000000 in
theorem am_goTogether {d : Nat} {w : List va_E} (x y : Int32) : AM m_goTogether d (.inl (some (.int (bI (gTI x y))))) [.int x, .int y] w w := by
  refine aq_enter pl_m_goTogether (Nat.le_of_ble_eq_true rfl) ?_
  refine aq_gn (n := 2) (c1 := (2, [some (.int x), some (.int y)], [.int 4, .int x], w)) ok_m_goTogether rfl ?_
  refine aq_icmp_eq ok_m_goTogether rfl (fun h0 => ?_) (fun h0 => ?_)
  · refine aq_gn (n := 1) (c1 := (11, [some (.int x), some (.int y)], [.int 0], w)) ok_m_goTogether rfl ?_
    exact aq_ez ok_m_goTogether rfl rfl (by simp_all [gTI, bI]) rfl
  · refine aq_gn (n := 2) (c1 := (7, [some (.int x), some (.int y)], [.int 4, .int y], w)) ok_m_goTogether rfl ?_
    refine aq_icmp_ne ok_m_goTogether rfl (fun h1 => ?_) (fun h1 => ?_)
    · refine aq_gn (n := 1) (c1 := (13, [some (.int x), some (.int y)], [.int x], w)) ok_m_goTogether rfl ?_
      refine aq_if_eq ok_m_goTogether rfl (fun h2 => ?_) (fun h2 => ?_)
      · refine aq_gn (n := 1) (c1 := (21, [some (.int x), some (.int y)], [.int 1], w)) ok_m_goTogether rfl ?_
        exact aq_ez ok_m_goTogether rfl rfl (by simp_all [gTI, bI]) rfl
      · refine aq_gn (n := 1) (c1 := (17, [some (.int x), some (.int y)], [.int y], w)) ok_m_goTogether rfl ?_
        refine aq_if_ne ok_m_goTogether rfl (fun h3 => ?_) (fun h3 => ?_)
        · refine aq_gn (n := 2) (c1 := (24, [some (.int x), some (.int y)], [.int y, .int x], w)) ok_m_goTogether rfl ?_
          refine aq_icmp_ne ok_m_goTogether rfl (fun h4 => ?_) (fun h4 => ?_)
          · refine aq_gn (n := 1) (c1 := (37, [some (.int x), some (.int y)], [.int 0], w)) ok_m_goTogether rfl ?_
            exact aq_ez ok_m_goTogether rfl rfl (by simp_all [gTI, bI]) rfl
          · refine aq_gn (n := 2) (c1 := (29, [some (.int x), some (.int y)], [.int 3, .int x], w)) ok_m_goTogether rfl ?_
            refine aq_icmp_eq ok_m_goTogether rfl (fun h5 => ?_) (fun h5 => ?_)
            · refine aq_gn (n := 1) (c1 := (37, [some (.int x), some (.int y)], [.int 0], w)) ok_m_goTogether rfl ?_
              exact aq_ez ok_m_goTogether rfl rfl (by simp_all [gTI, bI]) rfl
            · refine aq_gn (n := 2) (c1 := (37, [some (.int x), some (.int y)], [.int 1], w)) ok_m_goTogether rfl ?_
              exact aq_ez ok_m_goTogether rfl rfl (by simp_all [gTI, bI]) rfl
        · refine aq_gn (n := 1) (c1 := (21, [some (.int x), some (.int y)], [.int 1], w)) ok_m_goTogether rfl ?_
          exact aq_ez ok_m_goTogether rfl rfl (by simp_all [gTI, bI]) rfl
    · refine aq_gn (n := 1) (c1 := (11, [some (.int x), some (.int y)], [.int 0], w)) ok_m_goTogether rfl ?_
      exact aq_ez ok_m_goTogether rfl rfl (by simp_all [gTI, bI]) rfl
set_option maxHeartbeats 4000000 in
theorem am_isWriting {d : Nat} {w : List va_E} (x : Int32) : AM m_isWriting d (.inl (some (.int (bI (wrI x))))) [.int x] w w := by
  refine aq_enter pl_m_isWriting (Nat.le_of_ble_eq_true rfl) ?_
  refine aq_gn (n := 2) (c1 := (2, [some (.int x)], [.int 1, .int x], w)) ok_m_isWriting rfl ?_
  refine aq_icmp_eq ok_m_isWriting rfl (fun h0 => ?_) (fun h0 => ?_)
  · refine aq_gn (n := 2) (c1 := (20, [some (.int x)], [.int 1], w)) ok_m_isWriting rfl ?_
    exact aq_ez ok_m_isWriting rfl rfl (by simp_all [wrI, bI]) rfl
  · refine aq_gn (n := 2) (c1 := (7, [some (.int x)], [.int 3, .int x], w)) ok_m_isWriting rfl ?_
    refine aq_icmp_eq ok_m_isWriting rfl (fun h1 => ?_) (fun h1 => ?_)
    · refine aq_gn (n := 2) (c1 := (20, [some (.int x)], [.int 1], w)) ok_m_isWriting rfl ?_
      exact aq_ez ok_m_isWriting rfl rfl (by simp_all [wrI, bI]) rfl
    · refine aq_gn (n := 2) (c1 := (12, [some (.int x)], [.int 4, .int x], w)) ok_m_isWriting rfl ?_
      refine aq_icmp_ne ok_m_isWriting rfl (fun h2 => ?_) (fun h2 => ?_)
      · refine aq_gn (n := 1) (c1 := (20, [some (.int x)], [.int 0], w)) ok_m_isWriting rfl ?_
        exact aq_ez ok_m_isWriting rfl rfl (by simp_all [wrI, bI]) rfl
      · refine aq_gn (n := 2) (c1 := (20, [some (.int x)], [.int 1], w)) ok_m_isWriting rfl ?_
        exact aq_ez ok_m_isWriting rfl rfl (by simp_all [wrI, bI]) rfl
set_option maxHeartbeats 4000000 in
theorem am_leastAbove {d : Nat} {w : List va_E} (x y : Int32) : AM m_leastAbove (d + 1) (.inl (some (.int (laI x y)))) [.int x, .int y] w w := by
  refine aq_enter pl_m_leastAbove (Nat.le_of_ble_eq_true rfl) ?_
  refine aq_gn (n := 2) (c1 := (2, [some (.int x), some (.int y), none], [.int 1, .int x], w)) ok_m_leastAbove rfl ?_
  refine aq_icmp_ne ok_m_leastAbove rfl (fun h0 => ?_) (fun h0 => ?_)
  · refine aq_gn (n := 2) (c1 := (12, [some (.int x), some (.int y), none], [.int 2, .int x], w)) ok_m_leastAbove rfl ?_
    refine aq_icmp_ne ok_m_leastAbove rfl (fun h1 => ?_) (fun h1 => ?_)
    · refine aq_gn (n := 3) (c1 := (27, [some (.int x), some (.int y), some (.int 0)], [.int 0], w)) ok_m_leastAbove rfl ?_
      refine aq_if_eq ok_m_leastAbove rfl (fun h2 => ?_) (fun h2 => ?_)
      · refine aq_gn (n := 2) (c1 := (36, [some (.int x), some (.int y), some (.int 0)], [.int y, .int x], w)) ok_m_leastAbove rfl ?_
        refine aq_callS (as := [.int x, .int y]) (st := []) ok_m_leastAbove rfl c0_j_max (am_max x y) rfl (Nat.le_of_ble_eq_true rfl) ?_
        exact aq_ei ok_m_leastAbove rfl rfl (by simp_all [laI]) rfl
      · refine aq_gn (n := 2) (c1 := (39, [some (.int x), some (.int y), some (.int 0)], [.int 3], w)) ok_m_leastAbove rfl ?_
        exact aq_ei ok_m_leastAbove rfl rfl (by simp_all [laI]) rfl
    · refine aq_gn (n := 2) (c1 := (17, [some (.int x), some (.int y), none], [.int 1, .int y], w)) ok_m_leastAbove rfl ?_
      refine aq_icmp_ne ok_m_leastAbove rfl (fun h2 => ?_) (fun h2 => ?_)
      · refine aq_gn (n := 3) (c1 := (27, [some (.int x), some (.int y), some (.int 0)], [.int 0], w)) ok_m_leastAbove rfl ?_
        refine aq_if_eq ok_m_leastAbove rfl (fun h3 => ?_) (fun h3 => ?_)
        · refine aq_gn (n := 2) (c1 := (36, [some (.int x), some (.int y), some (.int 0)], [.int y, .int x], w)) ok_m_leastAbove rfl ?_
          refine aq_callS (as := [.int x, .int y]) (st := []) ok_m_leastAbove rfl c0_j_max (am_max x y) rfl (Nat.le_of_ble_eq_true rfl) ?_
          exact aq_ei ok_m_leastAbove rfl rfl (by simp_all [laI]) rfl
        · refine aq_gn (n := 2) (c1 := (39, [some (.int x), some (.int y), some (.int 0)], [.int 3], w)) ok_m_leastAbove rfl ?_
          exact aq_ei ok_m_leastAbove rfl rfl (by simp_all [laI]) rfl
      · refine aq_gn (n := 4) (c1 := (27, [some (.int x), some (.int y), some (.int 1)], [.int 1], w)) ok_m_leastAbove rfl ?_
        refine aq_if_eq ok_m_leastAbove rfl (fun h3 => ?_) (fun h3 => ?_)
        · refine aq_gn (n := 2) (c1 := (36, [some (.int x), some (.int y), some (.int 1)], [.int y, .int x], w)) ok_m_leastAbove rfl ?_
          refine aq_callS (as := [.int x, .int y]) (st := []) ok_m_leastAbove rfl c0_j_max (am_max x y) rfl (Nat.le_of_ble_eq_true rfl) ?_
          exact aq_ei ok_m_leastAbove rfl rfl (by simp_all [laI]) rfl
        · refine aq_gn (n := 2) (c1 := (39, [some (.int x), some (.int y), some (.int 1)], [.int 3], w)) ok_m_leastAbove rfl ?_
          exact aq_ei ok_m_leastAbove rfl rfl (by simp_all [laI]) rfl
  · refine aq_gn (n := 2) (c1 := (7, [some (.int x), some (.int y), none], [.int 2, .int y], w)) ok_m_leastAbove rfl ?_
    refine aq_icmp_eq ok_m_leastAbove rfl (fun h1 => ?_) (fun h1 => ?_)
    · refine aq_gn (n := 4) (c1 := (27, [some (.int x), some (.int y), some (.int 1)], [.int 1], w)) ok_m_leastAbove rfl ?_
      refine aq_if_eq ok_m_leastAbove rfl (fun h2 => ?_) (fun h2 => ?_)
      · refine aq_gn (n := 2) (c1 := (36, [some (.int x), some (.int y), some (.int 1)], [.int y, .int x], w)) ok_m_leastAbove rfl ?_
        refine aq_callS (as := [.int x, .int y]) (st := []) ok_m_leastAbove rfl c0_j_max (am_max x y) rfl (Nat.le_of_ble_eq_true rfl) ?_
        exact aq_ei ok_m_leastAbove rfl rfl (by simp_all [laI]) rfl
      · refine aq_gn (n := 2) (c1 := (39, [some (.int x), some (.int y), some (.int 1)], [.int 3], w)) ok_m_leastAbove rfl ?_
        exact aq_ei ok_m_leastAbove rfl rfl (by simp_all [laI]) rfl
    · refine aq_gn (n := 2) (c1 := (12, [some (.int x), some (.int y), none], [.int 2, .int x], w)) ok_m_leastAbove rfl ?_
      refine aq_icmp_ne ok_m_leastAbove rfl (fun h2 => ?_) (fun h2 => ?_)
      · refine aq_gn (n := 3) (c1 := (27, [some (.int x), some (.int y), some (.int 0)], [.int 0], w)) ok_m_leastAbove rfl ?_
        refine aq_if_eq ok_m_leastAbove rfl (fun h3 => ?_) (fun h3 => ?_)
        · refine aq_gn (n := 2) (c1 := (36, [some (.int x), some (.int y), some (.int 0)], [.int y, .int x], w)) ok_m_leastAbove rfl ?_
          refine aq_callS (as := [.int x, .int y]) (st := []) ok_m_leastAbove rfl c0_j_max (am_max x y) rfl (Nat.le_of_ble_eq_true rfl) ?_
          exact aq_ei ok_m_leastAbove rfl rfl (by simp_all [laI]) rfl
        · refine aq_gn (n := 2) (c1 := (39, [some (.int x), some (.int y), some (.int 0)], [.int 3], w)) ok_m_leastAbove rfl ?_
          exact aq_ei ok_m_leastAbove rfl rfl (by simp_all [laI]) rfl
      · refine aq_gn (n := 2) (c1 := (17, [some (.int x), some (.int y), none], [.int 1, .int y], w)) ok_m_leastAbove rfl ?_
        refine aq_icmp_ne ok_m_leastAbove rfl (fun h3 => ?_) (fun h3 => ?_)
        · refine aq_gn (n := 3) (c1 := (27, [some (.int x), some (.int y), some (.int 0)], [.int 0], w)) ok_m_leastAbove rfl ?_
          refine aq_if_eq ok_m_leastAbove rfl (fun h4 => ?_) (fun h4 => ?_)
          · refine aq_gn (n := 2) (c1 := (36, [some (.int x), some (.int y), some (.int 0)], [.int y, .int x], w)) ok_m_leastAbove rfl ?_
            refine aq_callS (as := [.int x, .int y]) (st := []) ok_m_leastAbove rfl c0_j_max (am_max x y) rfl (Nat.le_of_ble_eq_true rfl) ?_
            exact aq_ei ok_m_leastAbove rfl rfl (by simp_all [laI]) rfl
          · refine aq_gn (n := 2) (c1 := (39, [some (.int x), some (.int y), some (.int 0)], [.int 3], w)) ok_m_leastAbove rfl ?_
            exact aq_ei ok_m_leastAbove rfl rfl (by simp_all [laI]) rfl
        · refine aq_gn (n := 4) (c1 := (27, [some (.int x), some (.int y), some (.int 1)], [.int 1], w)) ok_m_leastAbove rfl ?_
          refine aq_if_eq ok_m_leastAbove rfl (fun h4 => ?_) (fun h4 => ?_)
          · refine aq_gn (n := 2) (c1 := (36, [some (.int x), some (.int y), some (.int 1)], [.int y, .int x], w)) ok_m_leastAbove rfl ?_
            refine aq_callS (as := [.int x, .int y]) (st := []) ok_m_leastAbove rfl c0_j_max (am_max x y) rfl (Nat.le_of_ble_eq_true rfl) ?_
            exact aq_ei ok_m_leastAbove rfl rfl (by simp_all [laI]) rfl
          · refine aq_gn (n := 2) (c1 := (39, [some (.int x), some (.int y), some (.int 1)], [.int 3], w)) ok_m_leastAbove rfl ?_
            exact aq_ei ok_m_leastAbove rfl rfl (by simp_all [laI]) rfl
