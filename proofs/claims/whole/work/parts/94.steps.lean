/-! EACH CALL KEEPS THE RELATION, AND BOTH ANSWER ALIKE -/
theorem Rel_cd {S : LSt} {M : MSt} (h : Rel S M) (c : Nat) : Rel S (m_cd M c) := h
theorem sti_v {R : LSt → MSt → Prop} {h r : aq_M} {hh : List (Nat × Nat × Nat × Nat)} {as : List Value} {S S' : LSt} {M M' : MSt} {f : Nat → Int64} {d d2 : Nat} {x b : Int32} (hH : HM h hh d (.inl (some (.int x))) (.ref 0 :: (as ++ [.ref 8])) (wS S ++ [oL f]) (wS S' ++ [oL (vp_updL f 0 x.toInt64)]) 0) (hr : AM r d2 (.inl (some (.int b))) (.ref 0 :: as) (wM M) (wM M')) (hx : x = b) (hc : g_cd M' = 0) (hd : d ≤ 9) (hd2 : d2 ≤ 10) (hR : R S' M') : StI R h hh r as S M f := by
  refine ⟨d, _, 0, S', _, d2, b, M', hH, hr, ?_, fun _ => ?_, ?_, ?_, hd2, hR⟩
  · rw [hc]; rfl
  · rw [← hx]; unfold vp_updL; rw [if_pos rfl]
  · show d + 2 + 0 ≤ 11; omega
  · show 28 * d + 56 + 0 ≤ 392; omega
theorem sti_x {R : LSt → MSt → Prop} {h r : aq_M} {hh : List (Nat × Nat × Nat × Nat)} {as : List Value} {S : LSt} {M M' : MSt} {f : Nat → Int64} {d d2 z : Nat} {k b : Int32} (hH : HM h hh d (.inr z) (.ref 0 :: (as ++ [.ref 8])) (wS S ++ [oL f]) (wS S ++ [oL f]) k) (hr : AM r d2 (.inl (some (.int b))) (.ref 0 :: as) (wM M) (wM M')) (hc : nI (g_cd M') = k) (hk : ¬ k = 0) (hd : d ≤ 3) (hd2 : d2 ≤ 10) (hR : R S M') : StI R h hh r as S M f := by
  refine ⟨d, _, k, S, f, d2, b, M', hH, hr, hc, fun q => absurd q hk, ?_, ?_, hd2, hR⟩
  · show d + 2 + 6 ≤ 11; omega
  · show 28 * d + 56 + 96 ≤ 392; omega
theorem k_1 : ¬ (1 : Int32) = 0 := by decide
theorem k_2 : ¬ (2 : Int32) = 0 := by decide
theorem k_3 : ¬ (3 : Int32) = 0 := by decide
theorem c_1 (M : MSt) : nI (g_cd (m_cd M 1)) = 1 := by show nI 1 = 1; decide
theorem c_2 (M : MSt) : nI (g_cd (m_cd M 2)) = 2 := by show nI 2 = 2; decide
theorem c_3 (M : MSt) : nI (g_cd (m_cd M 3)) = 3 := by show nI 3 = 3; decide
theorem arg {x : Int32} {n : Nat} (hn : n < 2 ^ 31) (h : ¬ (x < 0 ∨ nI n ≤ x)) : ∃ j, x = nI j ∧ j < n := I_nat (fun q => h (Or.inl q)) hn (fun q => h (Or.inr q))
theorem argi {x : Int32} {n : Nat} (hn : n < 2 ^ 31) (h : ¬ (x.toInt < 0 ∨ (n : Int) < x.toInt)) : ∃ j, x = nI j ∧ j ≤ n := by
  refine ⟨x.toInt.toNat, Int32.toInt_inj.mp ?_, by omega⟩
  rw [nI_toInt (by omega)]
  omega
section ST
variable {S : LSt} {M : MSt} {f : Nat → Int64}
set_option maxHeartbeats 1000000 in
theorem st_begin (h : Rel S M) (x : Int32) : StI Rel h_begin hh_begin r_begin [.int x] S M f := by
  by_cases hx : x < 0 ∨ nI 99 < x
  · exact sti_x (z := 1) (d := 0) (hx_begin_1 (am_begin_x hx)) (rm_begin_x (d := 0) hx) (c_1 M) k_1 (by omega) (by omega) (Rel_cd h 1)
  · obtain ⟨j, hj, rfl⟩ := nI_of (fun q => hx (Or.inl q))
    have hj9 : j ≤ 99 := Nat.not_lt.mp (fun q => hx (Or.inr ((nI_ltI (by omega) hj).mpr q)))
    by_cases hn : g_n M = 60
    · exact sti_x (z := 2) (d := 0) (hx_begin_2 (am_begin_f hj9 (h.1.1.trans hn))) (rm_begin_f (d := 0) hj9 hn) (c_2 M) k_2 (by omega) (by omega) (Rel_cd h 2)
    · have hn6 : g_n M < 60 := by have := h.1.2.2.2.2.2.2.1.1; omega
      have hs6 : s_n S < 60 := by rw [h.1.1]; exact hn6
      exact sti_v (d := 0) (S' := s_bg S j) (M' := m_bg M j) (hv_begin (S := S) (S' := s_bg S j) (am_begin (d := 0) (st := s_st S) (pr := s_pr S) (aw := s_aw S) (wa := s_wa S) (ha := s_ha S) (la := s_la S) (wr := s_wr S) (n := s_n S) (k := s_k S) (c5 := s_c5 S) (c6 := s_c6 S) (c7 := s_c7 S) hj9 hs6)) (rm_begin (d := 0) hj9 hn6) (by rw [h.1.1]) rfl (by omega) (by omega) (Rel_begin h hj9 hn6)
set_option maxHeartbeats 1000000 in
theorem st_lock (h : Rel S M) (x y z : Int32) : StI Rel h_lock hh_lock r_lock [.int x, .int y, .int z] S M f := by
  have hF := h.1.2.2.2.2.2.1
  have hM := h.1.2.2.2.2.2.2.1
  have hn := h.1.1
  have hn6 := hM.1
  by_cases hx : x < 0 ∨ nI (g_n M) ≤ x
  · exact sti_x (z := 0) (d := 1) (hx_lock_0 (am_lock_t (d := 0) (by rw [hn]; exact hx))) (rm_lock_t (d := 0) hx) (c_1 M) k_1 (by omega) (by omega) (Rel_cd h 1)
  · obtain ⟨t, rfl, ht⟩ := arg (by omega) hx
    have ht' : t < s_n S := by rw [hn]; exact ht
    by_cases hy : y < 0 ∨ nI 85 ≤ y
    · exact sti_x (z := 0) (d := 1) (hx_lock_0 (am_lock_o (d := 0) hF ht' hy)) (rm_lock_o (d := 0) hM ht hy) (c_1 M) k_1 (by omega) (by omega) (Rel_cd h 1)
    · obtain ⟨o, rfl, ho⟩ := arg (by omega) hy
      by_cases hz : z < 0 ∨ nI 5 ≤ z
      · exact sti_x (z := 1) (d := 1) (hx_lock_1 (am_lock_m (d := 0) hF ht' ho hz)) (rm_lock_m (d := 0) hM ht ho hz) (c_2 M) k_2 (by omega) (by omega) (Rel_cd h 2)
      · obtain ⟨m, rfl, hm5⟩ := arg (by omega) hz
        have hst := h.2.2.1 t
        by_cases hs : g_st M t = 0
        · have hs' : s_st S t = 0 := hst.trans hs
          cases hma : upM M t o m with
          | false => exact sti_x (z := 2) (d := 3) (hx_lock_2 (am_lock_n (d := 0) hF ht' ho hm5 hs' ((a_ma h ht ho hm5).trans hma))) (rm_lock_n (d := 0) hM ht ho hm5 hs hma) (c_3 M) k_3 (by omega) (by omega) (Rel_cd h 3)
          | true =>
            have hwt : g_wt M t = none := Classical.byContradiction (fun q => by have := (h.2.2.2.1 t ht).mp q; omega)
            obtain ⟨k1, k2⟩ := Rel_k h.1 ht hwt
            obtain ⟨L1, L2, L3, L4⟩ := Rel_lock (Rel_cd h 0) (t := t) (o := o) (m := m) ht ho hm5 hs
            exact sti_v (d := 6) (hv_lock (am_lock (d := 0) hF ht' ho hm5 hs' ((a_ma h ht ho hm5).trans hma) k1)) (rm_lock (d := 0) hM ht ho hm5 h.2.2.2.2.2.2.2.2 hs hma (k2 o ho) L4) L2 L3 (by omega) (by omega) L1
        · exact sti_x (z := 2) (d := 1) (hx_lock_2 (am_lock_a (d := 0) hF ht' ho hm5 (fun q => hs (hst.symm.trans q)))) (rm_lock_a (d := 0) hM ht ho hm5 hs) (c_3 M) k_3 (by omega) (by omega) (Rel_cd h 3)
set_option maxHeartbeats 1000000 in
theorem st_commit (h : Rel S M) (x : Int32) : StI Rel h_commit hh_commit r_commit [.int x] S M f := by
  have hF := h.1.2.2.2.2.2.1
  have hM := h.1.2.2.2.2.2.2.1
  have hn := h.1.1
  have hn6 := hM.1
  by_cases hx : x < 0 ∨ nI (g_n M) ≤ x
  · exact sti_x (z := 0) (d := 1) (hx_commit_0 (am_commit_t (d := 0) (by rw [hn]; exact hx))) (rm_commit_t (d := 0) hx) (c_1 M) k_1 (by omega) (by omega) (Rel_cd h 1)
  · obtain ⟨t, rfl, ht⟩ := arg (by omega) hx
    have ht' : t < s_n S := by rw [hn]; exact ht
    have hst := h.2.2.1 t
    by_cases hs : g_st M t = 0
    · obtain ⟨L1, L2, L3, L4, L5⟩ := Rel_end (Rel_cd h 0) (t := t) (x := 2) ht (by omega) (by omega)
      exact sti_v (d := 5) (hv_commit (am_commit (d := 0) hF ht' (hst.trans hs))) (rm_commit (d := 0) hM ht hs) (congrArg nI L2) L4 (by omega) (by omega) L1
    · exact sti_x (z := 2) (d := 1) (hx_commit_2 (am_commit_a (d := 0) hF ht' (fun q => hs (hst.symm.trans q)))) (rm_commit_a (d := 0) hM ht hs) (c_2 M) k_2 (by omega) (by omega) (Rel_cd h 2)
set_option maxHeartbeats 1000000 in
theorem st_abort (h : Rel S M) (x : Int32) : StI Rel h_abort hh_abort r_abort [.int x] S M f := by
  have hF := h.1.2.2.2.2.2.1
  have hM := h.1.2.2.2.2.2.2.1
  have hn := h.1.1
  have hn6 := hM.1
  by_cases hx : x < 0 ∨ nI (g_n M) ≤ x
  · exact sti_x (z := 0) (d := 1) (hx_abort_0 (am_abort_t (d := 0) (by rw [hn]; exact hx))) (rm_abort_t (d := 0) hx) (c_1 M) k_1 (by omega) (by omega) (Rel_cd h 1)
  · obtain ⟨t, rfl, ht⟩ := arg (by omega) hx
    have ht' : t < s_n S := by rw [hn]; exact ht
    have hst := h.2.2.1 t
    by_cases hs : g_st M t < 2
    · obtain ⟨L1, L2, L3, L4, L5⟩ := Rel_end (Rel_cd h 0) (t := t) (x := 3) ht (by omega) (by omega)
      exact sti_v (d := 5) (hv_abort (am_abort (d := 0) hF ht' (by rw [hst]; exact hs))) (rm_abort (d := 0) hM ht hs) (congrArg nI L2) L4 (by omega) (by omega) L1
    · exact sti_x (z := 2) (d := 1) (hx_abort_2 (am_abort_a (d := 0) hF ht' (by rw [hst]; exact hs))) (rm_abort_a (d := 0) hM ht hs) (c_2 M) k_2 (by omega) (by omega) (Rel_cd h 2)
theorem md_nn (hM : WM M) {t o : Nat} : 0 ≤ mdI (g_he M) t o ↔ ¬ Kh M o t = none := by
  rw [← (md_K hM o t).1, Int32.le_iff_toInt_le, Int32.lt_iff_toInt_lt]
  omega
set_option maxHeartbeats 1000000 in
theorem st_escalate (h : Rel S M) (x y : Int32) : StI Rel h_escalate hh_escalate r_escalate [.int x, .int y] S M f := by
  have hF := h.1.2.2.2.2.2.1
  have hM := h.1.2.2.2.2.2.2.1
  have hn := h.1.1
  have hn6 := hM.1
  by_cases hx : x < 0 ∨ nI (g_n M) ≤ x
  · exact sti_x (z := 0) (d := 1) (hx_escalate_0 (am_escalate_t (d := 0) (by rw [hn]; exact hx))) (rm_escalate_t (d := 0) hx) (c_1 M) k_1 (by omega) (by omega) (Rel_cd h 1)
  · obtain ⟨t, rfl, ht⟩ := arg (by omega) hx
    have ht' : t < s_n S := by rw [hn]; exact ht
    have hst := h.2.2.1 t
    by_cases hy : y < 0 ∨ nI 85 ≤ y
    · exact sti_x (z := 0) (d := 1) (hx_escalate_0 (am_escalate_o (d := 0) hF ht' hy)) (rm_escalate_o (d := 0) hM ht hy) (c_1 M) k_1 (by omega) (by omega) (Rel_cd h 1)
    · obtain ⟨o, rfl, ho⟩ := arg (by omega) hy
      by_cases hs : g_st M t = 0
      · have hK := hm_K (h.2.2.2.2.2.2.1 o ho) hM ht
        by_cases hh : Kh M o t = none
        · exact sti_x (z := 2) (d := 2) (hx_escalate_2 (am_escalate_h (d := 0) hF ht' ho (hst.trans hs) (hK.trans hh))) (rm_escalate_h (d := 0) hM ht ho hs (fun q => (md_nn hM).mp q hh)) (c_2 M) k_2 (by omega) (by omega) (Rel_cd h 2)
        · obtain ⟨L1, L2, L3⟩ := Rel_esc (Rel_cd h 0) (t := t) (o := o) ht ho hs
          exact sti_v (d := 6) (hv_escalate (am_escalate (d := 0) hF ht' ho (hst.trans hs) (fun q => hh (hK.symm.trans q)))) (rm_escalate (d := 0) hM h.2.2.2.2.2.2.2.2 ht ho hs ((md_nn hM).mpr hh)) L2 L3 (by omega) (by omega) L1
      · exact sti_x (z := 2) (d := 1) (hx_escalate_2 (am_escalate_a (d := 0) hF ht' ho (fun q => hs (hst.symm.trans q)))) (rm_escalate_a (d := 0) hM ht ho hs) (c_2 M) k_2 (by omega) (by omega) (Rel_cd h 2)
set_option maxHeartbeats 1000000 in
theorem st_mode (h : Rel S M) (x y : Int32) : StI Rel h_mode hh_mode r_mode [.int x, .int y] S M f := by
  have hF := h.1.2.2.2.2.2.1
  have hM := h.1.2.2.2.2.2.2.1
  have hn := h.1.1
  have hn6 := hM.1
  by_cases hx : x < 0 ∨ nI (g_n M) ≤ x
  · exact sti_x (z := 0) (d := 1) (hx_mode_0 (am_mode_t (d := 0) (by rw [hn]; exact hx))) (rm_mode_t (d := 0) hx) (c_1 M) k_1 (by omega) (by omega) (Rel_cd h 1)
  · obtain ⟨t, rfl, ht⟩ := arg (by omega) hx
    have ht' : t < s_n S := by rw [hn]; exact ht
    by_cases hy : y < 0 ∨ nI 85 ≤ y
    · exact sti_x (z := 0) (d := 1) (hx_mode_0 (am_mode_o (d := 0) hF ht' hy)) (rm_mode_o (d := 0) hM ht hy) (c_1 M) k_1 (by omega) (by omega) (Rel_cd h 1)
    · obtain ⟨o, rfl, ho⟩ := arg (by omega) hy
      exact sti_v (d := 2) (hv_mode (am_mode (d := 0) hF ht' ho)) (rm_mode (d := 0) hM ht ho) (a_mode h ht ho) rfl (by omega) (by omega) (Rel_cd h 0)
set_option maxHeartbeats 1000000 in
theorem st_told (h : Rel S M) (x y : Int32) : StI Rel h_told hh_told r_told [.int x, .int y] S M f := by
  have hF := h.1.2.2.2.2.2.1
  have hM := h.1.2.2.2.2.2.2.1
  have hn := h.1.1
  have hn6 := hM.1
  by_cases hx : x < 0 ∨ nI (g_n M) ≤ x
  · exact sti_x (z := 0) (d := 1) (hx_told_0 (am_told_t (d := 0) (by rw [hn]; exact hx))) (rm_told_t (d := 0) hx) (c_1 M) k_1 (by omega) (by omega) (Rel_cd h 1)
  · obtain ⟨t, rfl, ht⟩ := arg (by omega) hx
    have ht' : t < s_n S := by rw [hn]; exact ht
    by_cases hy : y.toInt < 0 ∨ 4 < y.toInt
    · exact sti_x (z := 1) (d := 1) (hx_told_1 (am_told_w (d := 0) hF ht' hy)) (rm_told_w (d := 0) hM ht hy) (c_2 M) k_2 (by omega) (by omega) (Rel_cd h 2)
    · obtain ⟨j, rfl, hj⟩ := argi (n := 4) (by omega) hy
      match j, hj with
      | 0, _ => exact sti_v (d := 3) (hv_told (am_told0 (d := 0) hF ht')) (rm_told0 (d := 0) hM ht) (by rw [h.2.2.1 t]) rfl (by omega) (by omega) (Rel_cd h 0)
      | 1, _ => exact sti_v (d := 3) (hv_told (am_told1 (d := 0) hF ht')) (rm_told1 (d := 0) hM ht) (by rw [h.1.2.1]) rfl (by omega) (by omega) (Rel_cd h 0)
      | 2, _ => exact sti_v (d := 3) (hv_told (am_told2 (d := 0) hF ht')) (rm_told2 (d := 0) hM ht) (congrArg nI (a_told2 h ht)) rfl (by omega) (by omega) (Rel_cd h 0)
      | 3, _ => exact sti_v (d := 3) (hv_told (am_told3 (d := 0) hF ht')) (rm_told3 (d := 0) hM ht) (by rw [h.1.2.2.1]) rfl (by omega) (by omega) (Rel_cd h 0)
      | 4, _ => exact sti_v (d := 3) (hv_told (am_told4 (d := 0) hF ht')) (rm_told4 (d := 0) hM ht) (a_told4 h t) rfl (by omega) (by omega) (Rel_cd h 0)
      | j + 5, q => exact absurd q (by omega)
set_option maxHeartbeats 1000000 in
theorem st_many (h : Rel S M) (x : Int32) (c : Bool) : StI Rel h_many hh_many r_many [.int x, .int (bI c)] S M f := by
  have hF := h.1.2.2.2.2.2.1
  have hM := h.1.2.2.2.2.2.2.1
  by_cases hy : x < 0 ∨ nI 85 ≤ x
  · exact sti_x (z := 0) (d := 1) (hx_many_0 (am_many_o (d := 0) hy)) (rm_many_o (d := 0) hy) (c_1 M) k_1 (by omega) (by omega) (Rel_cd h 1)
  · obtain ⟨o, rfl, ho⟩ := arg (by omega) hy
    refine sti_v (d := 1) (hv_many (am_many (d := 0) (b := c) hF ho)) (rm_many (d := 0) (b := c) hM ho) ?_ rfl (by omega) (by omega) (Rel_cd h 0)
    cases c with
    | true => exact congrArg nI (a_many1 h ho)
    | false => exact a_many0 h ho
set_option maxHeartbeats 1000000 in
theorem st_at (h : Rel S M) (x y : Int32) (c : Bool) : StI Rel h_at hh_at r_at [.int x, .int y, .int (bI c)] S M f := by
  have hF := h.1.2.2.2.2.2.1
  have hM := h.1.2.2.2.2.2.2.1
  by_cases hy : x < 0 ∨ nI 85 ≤ x
  · exact sti_x (z := 0) (d := 1) (hx_at_0 (am_at_o (d := 0) hy)) (rm_at_o (d := 0) hy) (c_1 M) k_1 (by omega) (by omega) (Rel_cd h 1)
  · obtain ⟨o, rfl, ho⟩ := arg (by omega) hy
    have e := a_at h ho y c
    have R := rm_at (d := 0) (M := M) (x := y) (b := c) hM ho
    cases hq : maq M o y c with
    | none =>
      rw [hq] at R e
      exact sti_x (z := 0) (d := 2) (hx_at_0 (am_at_n (d := 0) hF ho e)) R (c_1 M) k_1 (by omega) (by omega) (Rel_cd h 1)
    | some t =>
      rw [hq] at R e
      exact sti_v (d := 2) (hv_at (am_at (d := 0) hF ho e)) R rfl rfl (by omega) (by omega) (Rel_cd h 0)
set_option maxHeartbeats 1000000 in
theorem st_waits (h : Rel S M) (x : Int32) : StL Rel h_waitsFor hh_waitsFor r_waitsFor [.int x] S M f := by
  have hF := h.1.2.2.2.2.2.1
  have hM := h.1.2.2.2.2.2.2.1
  have hn := h.1.1
  have hn6 := hM.1
  by_cases hx : x < 0 ∨ nI (g_n M) ≤ x
  · refine ⟨1, .inr 0, 1, S, f, 1, 0, m_cd M 1, hx_waitsFor_0 (am_waitsFor_t (d := 0) (by rw [hn]; exact hx)), rm_waitsFor_t (d := 0) hx, c_1 M, fun q => absurd q k_1, ?_, ?_, by omega, Rel_cd h 1⟩
    · show 1 + 2 + 6 ≤ 11; omega
    · show 28 * 1 + 56 + 96 ≤ 392; omega
  · obtain ⟨t, rfl, ht⟩ := arg (by omega) hx
    have ht' : t < s_n S := by rw [hn]; exact ht
    refine ⟨3, .inl (some (.long (mwb M t))), 0, S, vp_updL f 0 (mwb M t), 2, mwb M t, m_cd M 0, hv_waitsFor (by rw [← a_waits h ht]; exact am_waitsFor (d := 0) hF ht'), rm_waitsFor (d := 0) hM (Rel_WQ h.1) ht, rfl, fun _ => ?_, ?_, ?_, by omega, Rel_cd h 0⟩
    · unfold vp_updL; rw [if_pos rfl]
    · show 3 + 2 + 0 ≤ 11; omega
    · show 28 * 3 + 56 + 0 ≤ 392; omega
theorem stc {m r : aq_M} {as : List Value} {d d2 : Nat} {x b : Int32} {M' : MSt} (h1 : AM m d (.inl (some (.int x))) (.ref 0 :: as) (wS S) (wS S)) (h2 : AM r d2 (.inl (some (.int b))) (.ref 0 :: as) (wM M) (wM M')) (hx : x = b) (hd : d ≤ 10) (hd2 : d2 ≤ 10) (hR : Rel S M') : StC Rel m r as S M := by
  subst hx
  exact ⟨d, d2, x, M', h1, h2, hd, hd2, hR⟩
set_option maxHeartbeats 1000000 in
theorem st_count (h : Rel S M) (x : Int32) : StC Rel m_count r_count [.int x] S M := by
  have hF := h.1.2.2.2.2.2.1
  have hM := h.1.2.2.2.2.2.2.1
  by_cases hy : x.toInt < 0 ∨ 7 < x.toInt
  · exact stc (am_count_w (d := 0) hy) (rm_countw (d := 0) hM hy) rfl (by omega) (by omega) (Rel_cd h 0)
  · obtain ⟨j, rfl, hj⟩ := argi (n := 7) (by omega) hy
    match j, hj with
    | 0, _ => exact stc (am_count0 (d := 0) hF) (rm_count0 (d := 0) hM) (by rw [h.1.1]) (by omega) (by omega) (Rel_cd h 0)
    | 1, _ => exact stc (am_count1 (d := 0) hF) (rm_count1 (d := 0) hM) (congrArg nI (a_st h (by decide))) (by omega) (by omega) (Rel_cd h 0)
    | 2, _ => exact stc (am_count2 (d := 0) hF) (rm_count2 (d := 0) hM) (congrArg nI (a_st h (by decide))) (by omega) (by omega) (Rel_cd h 0)
    | 3, _ => exact stc (am_count3 (d := 0) hF) (rm_count3 (d := 0) hM) (congrArg nI (a_st h (by decide))) (by omega) (by omega) (Rel_cd h 0)
    | 4, _ => exact stc (am_count4 (d := 0) hF) (rm_count4 (d := 0) hM) (congrArg nI (a_st h (by decide))) (by omega) (by omega) (Rel_cd h 0)
    | 5, _ => exact stc (am_count5 (d := 0) hF) (rm_count5 (d := 0) hM) (by rw [h.1.2.2.2.2.2.2.2]) (by omega) (by omega) (Rel_cd h 0)
    | 6, _ => exact stc (am_count6 (d := 0) hF) (rm_count6 (d := 0) hM) (by rw [h.2.2.2.2.1]) (by omega) (by omega) (Rel_cd h 0)
    | 7, _ => exact stc (am_count7 (d := 0) hF) (rm_count7 (d := 0) hM) (by rw [h.2.2.2.2.2.1]) (by omega) (by omega) (Rel_cd h 0)
    | j + 8, q => exact absurd q (by omega)
set_option maxHeartbeats 1000000 in
theorem st_astray (h : Rel S M) : StC Rel m_astray r_astray [] S M :=
  stc (am_astray (d := 0) h.1.2.2.2.2.2.1) (rm_astray (d := 0)) (congrArg nI (a_astray h 85 0 (by omega))) (by omega) (by omega) (Rel_cd h 0)
end ST
theorem steps_rel : Steps12 Rel := fun _ _ _ h => ⟨st_begin h, st_lock h, st_commit h, st_abort h, st_escalate h, st_mode h, st_told h, st_many h, st_at h, st_waits h, st_count h, st_astray h⟩
