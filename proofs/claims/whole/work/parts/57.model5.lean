/-! THE REFERENCE: begin, commit, abort, and what is told -/
theorem isT_in {n t : Nat} (h : t < n) (hn : n < 2 ^ 31) : isT n (nI t) = true := by
  unfold isT
  have h1 : ¬ nI t < 0 := nI_pos (by omega)
  have h2 : ¬ nI n ≤ nI t := fun q => absurd (q_le q hn (by omega)) (by omega)
  simp [h1, h2]
theorem isT_out {n : Nat} {x : Int32} (h : x < 0 ∨ nI n ≤ x) : isT n x = false := by
  unfold isT
  rcases h with h | h <;> simp [h]
def m_bg (M : MSt) (x : Nat) : MSt := (0, g_n M + 1, va_up (g_pr M) (g_n M) x, va_up (g_st M) (g_n M) 0, g_he M, va_up (g_wt M) (g_n M) none, g_wn M, g_cv M, g_qs M, g_qu M, g_v5 M, g_v6 M, g_v7 M)
theorem bI_t : ¬ bI true = 0 := by decide
theorem I_gt {x y : Int32} (h : x < y) : ¬ y ≤ x := fun q => absurd (Int32.lt_of_lt_of_le h q) (Int32.lt_irrefl)
theorem c_le1 : ¬ nI 1 ≤ 0 := by decide
theorem c_le2 : ¬ nI 2 ≤ 0 := by decide
theorem c_le3 : ¬ nI 3 ≤ 0 := by decide
theorem c_le0 : nI 0 ≤ 0 := by decide
set_option maxHeartbeats 4000000 in
theorem rm_begin_x {d : Nat} {M : MSt} {x : Int32} (hx : x < 0 ∨ nI 99 < x) : AM r_begin (d) (.inl (some (.int (nI 0)))) [.ref 0, .int x] (wM M) (wM (m_cd M 1)) := by
  refine aq_enter pl_r_begin (Nat.le_of_ble_eq_true rfl) ?_
  show AW r_begin _ _ _ (0, [some (.ref 0), some (.int x)], [], mL (g_cd M) (g_n M) (g_pr M) (g_st M) (g_he M) (g_wt M) (g_wn M) (g_cv M) (g_qs M) (g_qu M) (g_v5 M) (g_v6 M) (g_v7 M))
  refine aq_gn (n := 2) (c1 := (2, [some (.ref 0), some (.int x)], [.int x, .ref 0], mL (g_cd M) (g_n M) (g_pr M) (g_st M) (g_he M) (g_wt M) (g_wn M) (g_cv M) (g_qs M) (g_qu M) (g_v5 M) (g_v6 M) (g_v7 M))) ok_r_begin rfl ?_
  refine aq_if_lt ok_r_begin rfl (fun h => ?_) (fun h => ?_)
  · refine aq_go (n := 5) (c1 := (36, [some (.ref 0), some (.int x)], [.int (nI 1)], mR (nI 1) (nI (g_n M)) (fun ι => nI ((g_pr M) ι)) (fun ι => nI ((g_st M) ι)) (fun ι => oI ((g_he M) ι)) (fun ι => oI ((g_wt M) ι)) (fun ι => nI ((g_wn M) ι)) (fun ι => bI ((g_cv M) ι)) (fun ι => nI ((g_qs M) ι)) (fun ι => nI ((g_qu M) ι)) (nI (g_v5 M)) (nI (g_v6 M)) (nI (g_v7 M)))) (P := aq_fi 1 0 = true) ok_r_begin rfl fi1_0 ?_
    show AW r_begin _ _ _ (36, [some (.ref 0), some (.int x)], [.int (nI 1)], wM (m_cd M 1))
    refine aq_if_le ok_r_begin rfl (fun hz => ?_) (fun hz => ?_)
    · exact absurd hz c_le1
    · refine aq_gn (n := 1) (c1 := (40, [some (.ref 0), some (.int x)], [.int (nI 0)], wM (m_cd M 1))) ok_r_begin rfl ?_
      exact aq_ei ok_r_begin rfl rfl rfl rfl
  · refine aq_gn (n := 2) (c1 := (8, [some (.ref 0), some (.int x)], [.int (nI 99), .int x, .ref 0], mL (g_cd M) (g_n M) (g_pr M) (g_st M) (g_he M) (g_wt M) (g_wn M) (g_cv M) (g_qs M) (g_qu M) (g_v5 M) (g_v6 M) (g_v7 M))) ok_r_begin rfl ?_
    refine aq_icmp_le ok_r_begin rfl (fun h2 => ?_) (fun h2 => ?_)
    · exact absurd hx (fun q => q.elim h (fun q => I_gt q h2))
    · refine aq_go (n := 5) (c1 := (36, [some (.ref 0), some (.int x)], [.int (nI 1)], mR (nI 1) (nI (g_n M)) (fun ι => nI ((g_pr M) ι)) (fun ι => nI ((g_st M) ι)) (fun ι => oI ((g_he M) ι)) (fun ι => oI ((g_wt M) ι)) (fun ι => nI ((g_wn M) ι)) (fun ι => bI ((g_cv M) ι)) (fun ι => nI ((g_qs M) ι)) (fun ι => nI ((g_qu M) ι)) (nI (g_v5 M)) (nI (g_v6 M)) (nI (g_v7 M)))) (P := aq_fi 1 0 = true) ok_r_begin rfl fi1_0 ?_
      show AW r_begin _ _ _ (36, [some (.ref 0), some (.int x)], [.int (nI 1)], wM (m_cd M 1))
      refine aq_if_le ok_r_begin rfl (fun hz => ?_) (fun hz => ?_)
      · exact absurd hz c_le1
      · refine aq_gn (n := 1) (c1 := (40, [some (.ref 0), some (.int x)], [.int (nI 0)], wM (m_cd M 1))) ok_r_begin rfl ?_
        exact aq_ei ok_r_begin rfl rfl rfl rfl
set_option maxHeartbeats 4000000 in
theorem rm_begin_f {d : Nat} {M : MSt} {x : Nat} (hx : x ≤ 99) (hn : g_n M = 60) : AM r_begin (d) (.inl (some (.int (nI 0)))) [.ref 0, .int (nI x)] (wM M) (wM (m_cd M 2)) := by
  refine aq_enter pl_r_begin (Nat.le_of_ble_eq_true rfl) ?_
  show AW r_begin _ _ _ (0, [some (.ref 0), some (.int (nI x))], [], mL (g_cd M) (g_n M) (g_pr M) (g_st M) (g_he M) (g_wt M) (g_wn M) (g_cv M) (g_qs M) (g_qu M) (g_v5 M) (g_v6 M) (g_v7 M))
  refine aq_gn (n := 2) (c1 := (2, [some (.ref 0), some (.int (nI x))], [.int (nI x), .ref 0], mL (g_cd M) (g_n M) (g_pr M) (g_st M) (g_he M) (g_wt M) (g_wn M) (g_cv M) (g_qs M) (g_qu M) (g_v5 M) (g_v6 M) (g_v7 M))) ok_r_begin rfl ?_
  refine aq_if_lt ok_r_begin rfl (fun h => ?_) (fun h => ?_)
  · exact absurd h (nI_pos (by omega))
  · refine aq_gn (n := 2) (c1 := (8, [some (.ref 0), some (.int (nI x))], [.int (nI 99), .int (nI x), .ref 0], mL (g_cd M) (g_n M) (g_pr M) (g_st M) (g_he M) (g_wt M) (g_wn M) (g_cv M) (g_qs M) (g_qu M) (g_v5 M) (g_v6 M) (g_v7 M))) ok_r_begin rfl ?_
    refine aq_icmp_le ok_r_begin rfl (fun h2 => ?_) (fun h2 => ?_)
    · refine aq_gn (n := 3) (c1 := (21, [some (.ref 0), some (.int (nI x))], [.int (nI 60), .int (nI (g_n M)), .ref 0], mL (g_cd M) (g_n M) (g_pr M) (g_st M) (g_he M) (g_wt M) (g_wn M) (g_cv M) (g_qs M) (g_qu M) (g_v5 M) (g_v6 M) (g_v7 M))) ok_r_begin rfl ?_
      refine aq_icmp_ne ok_r_begin rfl (fun h3 => ?_) (fun h3 => ?_)
      · exact absurd (by rw [hn]) h3
      · refine aq_go (n := 5) (c1 := (36, [some (.ref 0), some (.int (nI x))], [.int (nI 2)], mR (nI 2) (nI (g_n M)) (fun ι => nI ((g_pr M) ι)) (fun ι => nI ((g_st M) ι)) (fun ι => oI ((g_he M) ι)) (fun ι => oI ((g_wt M) ι)) (fun ι => nI ((g_wn M) ι)) (fun ι => bI ((g_cv M) ι)) (fun ι => nI ((g_qs M) ι)) (fun ι => nI ((g_qu M) ι)) (nI (g_v5 M)) (nI (g_v6 M)) (nI (g_v7 M)))) (P := aq_fi 1 0 = true) ok_r_begin rfl fi1_0 ?_
        show AW r_begin _ _ _ (36, [some (.ref 0), some (.int (nI x))], [.int (nI 2)], wM (m_cd M 2))
        refine aq_if_le ok_r_begin rfl (fun hz => ?_) (fun hz => ?_)
        · exact absurd hz c_le2
        · refine aq_gn (n := 1) (c1 := (40, [some (.ref 0), some (.int (nI x))], [.int (nI 0)], wM (m_cd M 2))) ok_r_begin rfl ?_
          exact aq_ei ok_r_begin rfl rfl rfl rfl
    · exact absurd (nI_le hx (by omega)) h2
set_option maxHeartbeats 4000000 in
theorem rm_begin {d : Nat} {M : MSt} {x : Nat} (hx : x ≤ 99) (hn : g_n M < 60) : AM r_begin (d) (.inl (some (.int (nI (g_n M))))) [.ref 0, .int (nI x)] (wM M) (wM (m_bg M x)) := by
  refine aq_enter pl_r_begin (Nat.le_of_ble_eq_true rfl) ?_
  show AW r_begin _ _ _ (0, [some (.ref 0), some (.int (nI x))], [], mL (g_cd M) (g_n M) (g_pr M) (g_st M) (g_he M) (g_wt M) (g_wn M) (g_cv M) (g_qs M) (g_qu M) (g_v5 M) (g_v6 M) (g_v7 M))
  refine aq_gn (n := 2) (c1 := (2, [some (.ref 0), some (.int (nI x))], [.int (nI x), .ref 0], mL (g_cd M) (g_n M) (g_pr M) (g_st M) (g_he M) (g_wt M) (g_wn M) (g_cv M) (g_qs M) (g_qu M) (g_v5 M) (g_v6 M) (g_v7 M))) ok_r_begin rfl ?_
  refine aq_if_lt ok_r_begin rfl (fun h => ?_) (fun h => ?_)
  · exact absurd h (nI_pos (by omega))
  · refine aq_gn (n := 2) (c1 := (8, [some (.ref 0), some (.int (nI x))], [.int (nI 99), .int (nI x), .ref 0], mL (g_cd M) (g_n M) (g_pr M) (g_st M) (g_he M) (g_wt M) (g_wn M) (g_cv M) (g_qs M) (g_qu M) (g_v5 M) (g_v6 M) (g_v7 M))) ok_r_begin rfl ?_
    refine aq_icmp_le ok_r_begin rfl (fun h2 => ?_) (fun h2 => ?_)
    · refine aq_gn (n := 3) (c1 := (21, [some (.ref 0), some (.int (nI x))], [.int (nI 60), .int (nI (g_n M)), .ref 0], mL (g_cd M) (g_n M) (g_pr M) (g_st M) (g_he M) (g_wt M) (g_wn M) (g_cv M) (g_qs M) (g_qu M) (g_v5 M) (g_v6 M) (g_v7 M))) ok_r_begin rfl ?_
      refine aq_icmp_ne ok_r_begin rfl (fun h3 => ?_) (fun h3 => ?_)
      · refine aq_go (n := 4) (c1 := (36, [some (.ref 0), some (.int (nI x))], [.int (nI 0)], mR (nI 0) (nI (g_n M)) (fun ι => nI ((g_pr M) ι)) (fun ι => nI ((g_st M) ι)) (fun ι => oI ((g_he M) ι)) (fun ι => oI ((g_wt M) ι)) (fun ι => nI ((g_wn M) ι)) (fun ι => bI ((g_cv M) ι)) (fun ι => nI ((g_qs M) ι)) (fun ι => nI ((g_qu M) ι)) (nI (g_v5 M)) (nI (g_v6 M)) (nI (g_v7 M)))) (P := aq_fi 1 0 = true) ok_r_begin rfl fi1_0 ?_
        show AW r_begin _ _ _ (36, [some (.ref 0), some (.int (nI x))], [.int (nI 0)], wM (m_cd M 0))
        refine aq_if_le ok_r_begin rfl (fun h4 => ?_) (fun h4 => ?_)
        · show AW r_begin _ _ _ (41, [some (.ref 0), some (.int (nI x))], [], mL (g_cd (m_cd M 0)) (g_n (m_cd M 0)) (g_pr (m_cd M 0)) (g_st (m_cd M 0)) (g_he (m_cd M 0)) (g_wt (m_cd M 0)) (g_wn (m_cd M 0)) (g_cv (m_cd M 0)) (g_qs (m_cd M 0)) (g_qu (m_cd M 0)) (g_v5 (m_cd M 0)) (g_v6 (m_cd M 0)) (g_v7 (m_cd M 0)))
          refine aq_go (n := 28) (c1 := (87, [some (.ref 0), some (.int (nI x))], [.int (((nI (g_n (m_cd M 0))) + (nI 1)) - (nI 1))], mR (nI (g_cd (m_cd M 0))) ((nI (g_n (m_cd M 0))) + (nI 1)) (upd (fun ι => nI ((g_pr (m_cd M 0)) ι)) (nI (g_n (m_cd M 0))).toNatClampNeg (nI x)) (upd (fun ι => nI ((g_st (m_cd M 0)) ι)) (nI (g_n (m_cd M 0))).toNatClampNeg (nI 0)) (fun ι => oI ((g_he (m_cd M 0)) ι)) (upd (fun ι => oI ((g_wt (m_cd M 0)) ι)) (nI (g_n (m_cd M 0))).toNatClampNeg (-1)) (fun ι => nI ((g_wn (m_cd M 0)) ι)) (fun ι => bI ((g_cv (m_cd M 0)) ι)) (fun ι => nI ((g_qs (m_cd M 0)) ι)) (fun ι => nI ((g_qu (m_cd M 0)) ι)) (nI (g_v5 (m_cd M 0))) (nI (g_v6 (m_cd M 0))) (nI (g_v7 (m_cd M 0))))) (P := vp_in (nI (g_n (m_cd M 0))) 60 ∧ vp_in (nI (g_n (m_cd M 0))) 60 ∧ vp_in (nI (g_n (m_cd M 0))) 60 ∧ aq_fi 1 1 = true) ok_r_begin rfl ⟨(in60 hn), (in60 hn), (in60 hn), fi1_1⟩ ?_
          rw [cl60 (show g_n (m_cd M 0) < 60 from hn), upd_n, upd_n, upd_m, nI_m1, nI_add]
          show AW r_begin _ _ _ (87, [some (.ref 0), some (.int (nI x))], [.int (nI (g_n M))], wM (m_bg M x))
          exact aq_ei ok_r_begin rfl rfl rfl rfl
        · exact absurd c_le0 h4
      · exact absurd (q_eq h3 (by omega) (by omega)) (by omega)
    · exact absurd (nI_le hx (by omega)) h2
set_option maxHeartbeats 4000000 in
theorem rm_commit_t {d : Nat} {M : MSt} {x : Int32} (hx : x < 0 ∨ nI (g_n M) ≤ x) : AM r_commit (d + 1) (.inl (some (.int (nI 0)))) [.ref 0, .int x] (wM M) (wM (m_cd M 1)) := by
  refine aq_enter pl_r_commit (Nat.le_of_ble_eq_true rfl) ?_
  refine aq_gn (n := 3) (c1 := (3, [some (.ref 0), some (.int x)], [.int x, .ref 0, .ref 0], wM M)) ok_r_commit rfl ?_
  refine aq_callV (as := [.int x]) (st := [.ref 0]) ok_r_commit rfl c1_r_isTransaction (rm_isTransactionM x) rfl (Nat.le_of_ble_eq_true rfl) rfl rfl rfl ?_
  rw [isT_out hx]
  refine aq_if_ne ok_r_commit rfl (fun h => ?_) (fun h => ?_)
  · exact absurd rfl h
  · show AW r_commit _ _ _ (9, [some (.ref 0), some (.int x)], [.ref 0], mL (g_cd M) (g_n M) (g_pr M) (g_st M) (g_he M) (g_wt M) (g_wn M) (g_cv M) (g_qs M) (g_qu M) (g_v5 M) (g_v6 M) (g_v7 M))
    refine aq_go (n := 5) (c1 := (34, [some (.ref 0), some (.int x)], [.int (nI 1)], mR (nI 1) (nI (g_n M)) (fun ι => nI ((g_pr M) ι)) (fun ι => nI ((g_st M) ι)) (fun ι => oI ((g_he M) ι)) (fun ι => oI ((g_wt M) ι)) (fun ι => nI ((g_wn M) ι)) (fun ι => bI ((g_cv M) ι)) (fun ι => nI ((g_qs M) ι)) (fun ι => nI ((g_qu M) ι)) (nI (g_v5 M)) (nI (g_v6 M)) (nI (g_v7 M)))) (P := aq_fi 1 0 = true) ok_r_commit rfl fi1_0 ?_
    show AW r_commit _ _ _ (34, [some (.ref 0), some (.int x)], [.int (nI 1)], wM (m_cd M 1))
    refine aq_if_le ok_r_commit rfl (fun hz => ?_) (fun hz => ?_)
    · exact absurd hz c_le1
    · refine aq_gn (n := 2) (c1 := (47, [some (.ref 0), some (.int x)], [.int (nI 0)], wM (m_cd M 1))) ok_r_commit rfl ?_
      exact aq_ei ok_r_commit rfl rfl rfl rfl
set_option maxHeartbeats 4000000 in
theorem rm_commit_a {d : Nat} {M : MSt} {t : Nat} (hM : WM M) (ht : t < g_n M) (hs : ¬ g_st M t = 0) : AM r_commit (d + 1) (.inl (some (.int (nI 0)))) [.ref 0, .int (nI t)] (wM M) (wM (m_cd M 2)) := by
  refine aq_enter pl_r_commit (Nat.le_of_ble_eq_true rfl) ?_
  have ht6 : t < 60 := Nat.lt_of_lt_of_le ht hM.1
  refine aq_gn (n := 3) (c1 := (3, [some (.ref 0), some (.int (nI t))], [.int (nI t), .ref 0, .ref 0], wM M)) ok_r_commit rfl ?_
  refine aq_callV (as := [.int (nI t)]) (st := [.ref 0]) ok_r_commit rfl c1_r_isTransaction (rm_isTransactionM (nI t)) rfl (Nat.le_of_ble_eq_true rfl) rfl rfl rfl ?_
  rw [isT_in ht (show g_n M < 2 ^ 31 by have := hM.1; omega)]
  refine aq_if_ne ok_r_commit rfl (fun h => ?_) (fun h => ?_)
  · show AW r_commit _ _ _ (13, [some (.ref 0), some (.int (nI t))], [.ref 0], mL (g_cd M) (g_n M) (g_pr M) (g_st M) (g_he M) (g_wt M) (g_wn M) (g_cv M) (g_qs M) (g_qu M) (g_v5 M) (g_v6 M) (g_v7 M))
    refine aq_go (n := 4) (c1 := (19, [some (.ref 0), some (.int (nI t))], [.int (nI ((g_st M) (nI t).toNatClampNeg)), .ref 0], mL (g_cd M) (g_n M) (g_pr M) (g_st M) (g_he M) (g_wt M) (g_wn M) (g_cv M) (g_qs M) (g_qu M) (g_v5 M) (g_v6 M) (g_v7 M))) (P := vp_in (nI t) 60) ok_r_commit rfl (in60 ht6) ?_
    rw [cl60 ht6]
    refine aq_if_eq ok_r_commit rfl (fun h2 => ?_) (fun h2 => ?_)
    · exact absurd (q_eq (b := 0) h2 (by have := hM.2.2.2.2.1 t; omega) (by omega)) hs
    · refine aq_go (n := 5) (c1 := (34, [some (.ref 0), some (.int (nI t))], [.int (nI 2)], mR (nI 2) (nI (g_n M)) (fun ι => nI ((g_pr M) ι)) (fun ι => nI ((g_st M) ι)) (fun ι => oI ((g_he M) ι)) (fun ι => oI ((g_wt M) ι)) (fun ι => nI ((g_wn M) ι)) (fun ι => bI ((g_cv M) ι)) (fun ι => nI ((g_qs M) ι)) (fun ι => nI ((g_qu M) ι)) (nI (g_v5 M)) (nI (g_v6 M)) (nI (g_v7 M)))) (P := aq_fi 1 0 = true) ok_r_commit rfl fi1_0 ?_
      show AW r_commit _ _ _ (34, [some (.ref 0), some (.int (nI t))], [.int (nI 2)], wM (m_cd M 2))
      refine aq_if_le ok_r_commit rfl (fun hz => ?_) (fun hz => ?_)
      · exact absurd hz c_le2
      · refine aq_gn (n := 2) (c1 := (47, [some (.ref 0), some (.int (nI t))], [.int (nI 0)], wM (m_cd M 2))) ok_r_commit rfl ?_
        exact aq_ei ok_r_commit rfl rfl rfl rfl
  · exact absurd h bI_t
set_option maxHeartbeats 4000000 in
theorem rm_commit {d : Nat} {M : MSt} {t : Nat} (hM : WM M) (ht : t < g_n M) (hs : g_st M t = 0) : AM r_commit (d + 4) (.inl (some (.int (nI (mend (m_cd M 0) t 2).2)))) [.ref 0, .int (nI t)] (wM M) (wM (mend (m_cd M 0) t 2).1) := by
  refine aq_enter pl_r_commit (Nat.le_of_ble_eq_true rfl) ?_
  have ht6 : t < 60 := Nat.lt_of_lt_of_le ht hM.1
  refine aq_gn (n := 3) (c1 := (3, [some (.ref 0), some (.int (nI t))], [.int (nI t), .ref 0, .ref 0], wM M)) ok_r_commit rfl ?_
  refine aq_callV (as := [.int (nI t)]) (st := [.ref 0]) ok_r_commit rfl c1_r_isTransaction (rm_isTransactionM (nI t)) rfl (Nat.le_of_ble_eq_true rfl) rfl rfl rfl ?_
  rw [isT_in ht (show g_n M < 2 ^ 31 by have := hM.1; omega)]
  refine aq_if_ne ok_r_commit rfl (fun h => ?_) (fun h => ?_)
  · show AW r_commit _ _ _ (13, [some (.ref 0), some (.int (nI t))], [.ref 0], mL (g_cd M) (g_n M) (g_pr M) (g_st M) (g_he M) (g_wt M) (g_wn M) (g_cv M) (g_qs M) (g_qu M) (g_v5 M) (g_v6 M) (g_v7 M))
    refine aq_go (n := 4) (c1 := (19, [some (.ref 0), some (.int (nI t))], [.int (nI ((g_st M) (nI t).toNatClampNeg)), .ref 0], mL (g_cd M) (g_n M) (g_pr M) (g_st M) (g_he M) (g_wt M) (g_wn M) (g_cv M) (g_qs M) (g_qu M) (g_v5 M) (g_v6 M) (g_v7 M))) (P := vp_in (nI t) 60) ok_r_commit rfl (in60 ht6) ?_
    rw [cl60 ht6]
    refine aq_if_eq ok_r_commit rfl (fun h2 => ?_) (fun h2 => ?_)
    · refine aq_go (n := 4) (c1 := (34, [some (.ref 0), some (.int (nI t))], [.int (nI 0)], mR (nI 0) (nI (g_n M)) (fun ι => nI ((g_pr M) ι)) (fun ι => nI ((g_st M) ι)) (fun ι => oI ((g_he M) ι)) (fun ι => oI ((g_wt M) ι)) (fun ι => nI ((g_wn M) ι)) (fun ι => bI ((g_cv M) ι)) (fun ι => nI ((g_qs M) ι)) (fun ι => nI ((g_qu M) ι)) (nI (g_v5 M)) (nI (g_v6 M)) (nI (g_v7 M)))) (P := aq_fi 1 0 = true) ok_r_commit rfl fi1_0 ?_
      show AW r_commit _ _ _ (34, [some (.ref 0), some (.int (nI t))], [.int (nI 0)], wM (m_cd M 0))
      refine aq_if_le ok_r_commit rfl (fun hz => ?_) (fun hz => ?_)
      · refine aq_gn (n := 3) (c1 := (44, [some (.ref 0), some (.int (nI t))], [.int (nI 2), .int (nI t), .ref 0], wM (m_cd M 0))) ok_r_commit rfl ?_
        refine aq_callV (as := [.int (nI t), .int (nI 2)]) (st := []) ok_r_commit rfl c1_r_endIt (rm_endIt (d := d) (M := m_cd M 0) hM ht6 (by omega)) rfl (Nat.le_of_ble_eq_true rfl) rfl rfl rfl ?_
        exact aq_ei ok_r_commit rfl rfl rfl rfl
      · exact absurd c_le0 hz
    · exact absurd (by rw [hs]; rfl) h2
  · exact absurd h bI_t
set_option maxHeartbeats 4000000 in
theorem rm_abort_t {d : Nat} {M : MSt} {x : Int32} (hx : x < 0 ∨ nI (g_n M) ≤ x) : AM r_abort (d + 1) (.inl (some (.int (nI 0)))) [.ref 0, .int x] (wM M) (wM (m_cd M 1)) := by
  refine aq_enter pl_r_abort (Nat.le_of_ble_eq_true rfl) ?_
  refine aq_gn (n := 3) (c1 := (3, [some (.ref 0), some (.int x)], [.int x, .ref 0, .ref 0], wM M)) ok_r_abort rfl ?_
  refine aq_callV (as := [.int x]) (st := [.ref 0]) ok_r_abort rfl c1_r_isTransaction (rm_isTransactionM x) rfl (Nat.le_of_ble_eq_true rfl) rfl rfl rfl ?_
  rw [isT_out hx]
  refine aq_if_ne ok_r_abort rfl (fun h => ?_) (fun h => ?_)
  · exact absurd rfl h
  · show AW r_abort _ _ _ (9, [some (.ref 0), some (.int x)], [.ref 0], mL (g_cd M) (g_n M) (g_pr M) (g_st M) (g_he M) (g_wt M) (g_wn M) (g_cv M) (g_qs M) (g_qu M) (g_v5 M) (g_v6 M) (g_v7 M))
    refine aq_go (n := 5) (c1 := (35, [some (.ref 0), some (.int x)], [.int (nI 1)], mR (nI 1) (nI (g_n M)) (fun ι => nI ((g_pr M) ι)) (fun ι => nI ((g_st M) ι)) (fun ι => oI ((g_he M) ι)) (fun ι => oI ((g_wt M) ι)) (fun ι => nI ((g_wn M) ι)) (fun ι => bI ((g_cv M) ι)) (fun ι => nI ((g_qs M) ι)) (fun ι => nI ((g_qu M) ι)) (nI (g_v5 M)) (nI (g_v6 M)) (nI (g_v7 M)))) (P := aq_fi 1 0 = true) ok_r_abort rfl fi1_0 ?_
    show AW r_abort _ _ _ (35, [some (.ref 0), some (.int x)], [.int (nI 1)], wM (m_cd M 1))
    refine aq_if_le ok_r_abort rfl (fun hz => ?_) (fun hz => ?_)
    · exact absurd hz c_le1
    · refine aq_gn (n := 2) (c1 := (48, [some (.ref 0), some (.int x)], [.int (nI 0)], wM (m_cd M 1))) ok_r_abort rfl ?_
      exact aq_ei ok_r_abort rfl rfl rfl rfl
set_option maxHeartbeats 4000000 in
theorem rm_abort_a {d : Nat} {M : MSt} {t : Nat} (hM : WM M) (ht : t < g_n M) (hs : ¬ g_st M t < 2) : AM r_abort (d + 1) (.inl (some (.int (nI 0)))) [.ref 0, .int (nI t)] (wM M) (wM (m_cd M 2)) := by
  refine aq_enter pl_r_abort (Nat.le_of_ble_eq_true rfl) ?_
  have ht6 : t < 60 := Nat.lt_of_lt_of_le ht hM.1
  refine aq_gn (n := 3) (c1 := (3, [some (.ref 0), some (.int (nI t))], [.int (nI t), .ref 0, .ref 0], wM M)) ok_r_abort rfl ?_
  refine aq_callV (as := [.int (nI t)]) (st := [.ref 0]) ok_r_abort rfl c1_r_isTransaction (rm_isTransactionM (nI t)) rfl (Nat.le_of_ble_eq_true rfl) rfl rfl rfl ?_
  rw [isT_in ht (show g_n M < 2 ^ 31 by have := hM.1; omega)]
  refine aq_if_ne ok_r_abort rfl (fun h => ?_) (fun h => ?_)
  · show AW r_abort _ _ _ (13, [some (.ref 0), some (.int (nI t))], [.ref 0], mL (g_cd M) (g_n M) (g_pr M) (g_st M) (g_he M) (g_wt M) (g_wn M) (g_cv M) (g_qs M) (g_qu M) (g_v5 M) (g_v6 M) (g_v7 M))
    refine aq_go (n := 5) (c1 := (20, [some (.ref 0), some (.int (nI t))], [.int (nI 2), .int (nI ((g_st M) (nI t).toNatClampNeg)), .ref 0], mL (g_cd M) (g_n M) (g_pr M) (g_st M) (g_he M) (g_wt M) (g_wn M) (g_cv M) (g_qs M) (g_qu M) (g_v5 M) (g_v6 M) (g_v7 M))) (P := vp_in (nI t) 60) ok_r_abort rfl (in60 ht6) ?_
    rw [cl60 ht6]
    refine aq_icmp_lt ok_r_abort rfl (fun h2 => ?_) (fun h2 => ?_)
    · exact absurd (q_lt h2 (by have := hM.2.2.2.2.1 t; omega) (by omega)) hs
    · refine aq_go (n := 5) (c1 := (35, [some (.ref 0), some (.int (nI t))], [.int (nI 2)], mR (nI 2) (nI (g_n M)) (fun ι => nI ((g_pr M) ι)) (fun ι => nI ((g_st M) ι)) (fun ι => oI ((g_he M) ι)) (fun ι => oI ((g_wt M) ι)) (fun ι => nI ((g_wn M) ι)) (fun ι => bI ((g_cv M) ι)) (fun ι => nI ((g_qs M) ι)) (fun ι => nI ((g_qu M) ι)) (nI (g_v5 M)) (nI (g_v6 M)) (nI (g_v7 M)))) (P := aq_fi 1 0 = true) ok_r_abort rfl fi1_0 ?_
      show AW r_abort _ _ _ (35, [some (.ref 0), some (.int (nI t))], [.int (nI 2)], wM (m_cd M 2))
      refine aq_if_le ok_r_abort rfl (fun hz => ?_) (fun hz => ?_)
      · exact absurd hz c_le2
      · refine aq_gn (n := 2) (c1 := (48, [some (.ref 0), some (.int (nI t))], [.int (nI 0)], wM (m_cd M 2))) ok_r_abort rfl ?_
        exact aq_ei ok_r_abort rfl rfl rfl rfl
  · exact absurd h bI_t
set_option maxHeartbeats 4000000 in
theorem rm_abort {d : Nat} {M : MSt} {t : Nat} (hM : WM M) (ht : t < g_n M) (hs : g_st M t < 2) : AM r_abort (d + 4) (.inl (some (.int (nI (mend (m_cd M 0) t 3).2)))) [.ref 0, .int (nI t)] (wM M) (wM (mend (m_cd M 0) t 3).1) := by
  refine aq_enter pl_r_abort (Nat.le_of_ble_eq_true rfl) ?_
  have ht6 : t < 60 := Nat.lt_of_lt_of_le ht hM.1
  refine aq_gn (n := 3) (c1 := (3, [some (.ref 0), some (.int (nI t))], [.int (nI t), .ref 0, .ref 0], wM M)) ok_r_abort rfl ?_
  refine aq_callV (as := [.int (nI t)]) (st := [.ref 0]) ok_r_abort rfl c1_r_isTransaction (rm_isTransactionM (nI t)) rfl (Nat.le_of_ble_eq_true rfl) rfl rfl rfl ?_
  rw [isT_in ht (show g_n M < 2 ^ 31 by have := hM.1; omega)]
  refine aq_if_ne ok_r_abort rfl (fun h => ?_) (fun h => ?_)
  · show AW r_abort _ _ _ (13, [some (.ref 0), some (.int (nI t))], [.ref 0], mL (g_cd M) (g_n M) (g_pr M) (g_st M) (g_he M) (g_wt M) (g_wn M) (g_cv M) (g_qs M) (g_qu M) (g_v5 M) (g_v6 M) (g_v7 M))
    refine aq_go (n := 5) (c1 := (20, [some (.ref 0), some (.int (nI t))], [.int (nI 2), .int (nI ((g_st M) (nI t).toNatClampNeg)), .ref 0], mL (g_cd M) (g_n M) (g_pr M) (g_st M) (g_he M) (g_wt M) (g_wn M) (g_cv M) (g_qs M) (g_qu M) (g_v5 M) (g_v6 M) (g_v7 M))) (P := vp_in (nI t) 60) ok_r_abort rfl (in60 ht6) ?_
    rw [cl60 ht6]
    refine aq_icmp_lt ok_r_abort rfl (fun h2 => ?_) (fun h2 => ?_)
    · refine aq_go (n := 4) (c1 := (35, [some (.ref 0), some (.int (nI t))], [.int (nI 0)], mR (nI 0) (nI (g_n M)) (fun ι => nI ((g_pr M) ι)) (fun ι => nI ((g_st M) ι)) (fun ι => oI ((g_he M) ι)) (fun ι => oI ((g_wt M) ι)) (fun ι => nI ((g_wn M) ι)) (fun ι => bI ((g_cv M) ι)) (fun ι => nI ((g_qs M) ι)) (fun ι => nI ((g_qu M) ι)) (nI (g_v5 M)) (nI (g_v6 M)) (nI (g_v7 M)))) (P := aq_fi 1 0 = true) ok_r_abort rfl fi1_0 ?_
      show AW r_abort _ _ _ (35, [some (.ref 0), some (.int (nI t))], [.int (nI 0)], wM (m_cd M 0))
      refine aq_if_le ok_r_abort rfl (fun hz => ?_) (fun hz => ?_)
      · refine aq_gn (n := 3) (c1 := (45, [some (.ref 0), some (.int (nI t))], [.int (nI 3), .int (nI t), .ref 0], wM (m_cd M 0))) ok_r_abort rfl ?_
        refine aq_callV (as := [.int (nI t), .int (nI 3)]) (st := []) ok_r_abort rfl c1_r_endIt (rm_endIt (d := d) (M := m_cd M 0) hM ht6 (by omega)) rfl (Nat.le_of_ble_eq_true rfl) rfl rfl rfl ?_
        exact aq_ei ok_r_abort rfl rfl rfl rfl
      · exact absurd c_le0 hz
    · exact absurd (nI_lt hs (by omega)) h2
  · exact absurd h bI_t
set_option maxHeartbeats 4000000 in
theorem rm_mode_t {d : Nat} {M : MSt} {x y : Int32} (hx : x < 0 ∨ nI (g_n M) ≤ x) : AM r_mode (d + 1) (.inl (some (.int (nI 0)))) [.ref 0, .int x, .int y] (wM M) (wM (m_cd M 1)) := by
  refine aq_enter pl_r_mode (Nat.le_of_ble_eq_true rfl) ?_
  refine aq_gn (n := 3) (c1 := (3, [some (.ref 0), some (.int x), some (.int y)], [.int x, .ref 0, .ref 0], wM M)) ok_r_mode rfl ?_
  refine aq_callV (as := [.int x]) (st := [.ref 0]) ok_r_mode rfl c1_r_isTransaction (rm_isTransactionM x) rfl (Nat.le_of_ble_eq_true rfl) rfl rfl rfl ?_
  rw [isT_out hx]
  refine aq_if_eq ok_r_mode rfl (fun h => ?_) (fun h => ?_)
  · show AW r_mode _ _ _ (20, [some (.ref 0), some (.int x), some (.int y)], [.ref 0], mL (g_cd M) (g_n M) (g_pr M) (g_st M) (g_he M) (g_wt M) (g_wn M) (g_cv M) (g_qs M) (g_qu M) (g_v5 M) (g_v6 M) (g_v7 M))
    refine aq_go (n := 4) (c1 := (28, [some (.ref 0), some (.int x), some (.int y)], [.int (nI 1)], mR (nI 1) (nI (g_n M)) (fun ι => nI ((g_pr M) ι)) (fun ι => nI ((g_st M) ι)) (fun ι => oI ((g_he M) ι)) (fun ι => oI ((g_wt M) ι)) (fun ι => nI ((g_wn M) ι)) (fun ι => bI ((g_cv M) ι)) (fun ι => nI ((g_qs M) ι)) (fun ι => nI ((g_qu M) ι)) (nI (g_v5 M)) (nI (g_v6 M)) (nI (g_v7 M)))) (P := aq_fi 1 0 = true) ok_r_mode rfl fi1_0 ?_
    show AW r_mode _ _ _ (28, [some (.ref 0), some (.int x), some (.int y)], [.int (nI 1)], wM (m_cd M 1))
    refine aq_if_le ok_r_mode rfl (fun hz => ?_) (fun hz => ?_)
    · exact absurd hz c_le1
    · refine aq_gn (n := 2) (c1 := (41, [some (.ref 0), some (.int x), some (.int y)], [.int (nI 0)], wM (m_cd M 1))) ok_r_mode rfl ?_
      exact aq_ei ok_r_mode rfl rfl rfl rfl
  · exact absurd rfl h
set_option maxHeartbeats 4000000 in
theorem rm_mode_o {d : Nat} {M : MSt} {t : Nat} {y : Int32} (hM : WM M) (ht : t < g_n M) (hy : y < 0 ∨ nI 85 ≤ y) : AM r_mode (d + 1) (.inl (some (.int (nI 0)))) [.ref 0, .int (nI t), .int y] (wM M) (wM (m_cd M 1)) := by
  refine aq_enter pl_r_mode (Nat.le_of_ble_eq_true rfl) ?_
  refine aq_gn (n := 3) (c1 := (3, [some (.ref 0), some (.int (nI t)), some (.int y)], [.int (nI t), .ref 0, .ref 0], wM M)) ok_r_mode rfl ?_
  refine aq_callV (as := [.int (nI t)]) (st := [.ref 0]) ok_r_mode rfl c1_r_isTransaction (rm_isTransactionM (nI t)) rfl (Nat.le_of_ble_eq_true rfl) rfl rfl rfl ?_
  rw [isT_in ht (show g_n M < 2 ^ 31 by have := hM.1; omega)]
  refine aq_if_eq ok_r_mode rfl (fun h => ?_) (fun h => ?_)
  · exact absurd h bI_t
  · refine aq_gn (n := 1) (c1 := (10, [some (.ref 0), some (.int (nI t)), some (.int y)], [.int y, .ref 0], wM M)) ok_r_mode rfl ?_
    refine aq_callS (as := [.int y]) (st := [.ref 0]) ok_r_mode rfl c1_r_isObject (rm_isObject y) rfl (Nat.le_of_ble_eq_true rfl) ?_
    rw [isT_out hy]
    refine aq_if_eq ok_r_mode rfl (fun h2 => ?_) (fun h2 => ?_)
    · show AW r_mode _ _ _ (20, [some (.ref 0), some (.int (nI t)), some (.int y)], [.ref 0], mL (g_cd M) (g_n M) (g_pr M) (g_st M) (g_he M) (g_wt M) (g_wn M) (g_cv M) (g_qs M) (g_qu M) (g_v5 M) (g_v6 M) (g_v7 M))
      refine aq_go (n := 4) (c1 := (28, [some (.ref 0), some (.int (nI t)), some (.int y)], [.int (nI 1)], mR (nI 1) (nI (g_n M)) (fun ι => nI ((g_pr M) ι)) (fun ι => nI ((g_st M) ι)) (fun ι => oI ((g_he M) ι)) (fun ι => oI ((g_wt M) ι)) (fun ι => nI ((g_wn M) ι)) (fun ι => bI ((g_cv M) ι)) (fun ι => nI ((g_qs M) ι)) (fun ι => nI ((g_qu M) ι)) (nI (g_v5 M)) (nI (g_v6 M)) (nI (g_v7 M)))) (P := aq_fi 1 0 = true) ok_r_mode rfl fi1_0 ?_
      show AW r_mode _ _ _ (28, [some (.ref 0), some (.int (nI t)), some (.int y)], [.int (nI 1)], wM (m_cd M 1))
      refine aq_if_le ok_r_mode rfl (fun hz => ?_) (fun hz => ?_)
      · exact absurd hz c_le1
      · refine aq_gn (n := 2) (c1 := (41, [some (.ref 0), some (.int (nI t)), some (.int y)], [.int (nI 0)], wM (m_cd M 1))) ok_r_mode rfl ?_
        exact aq_ei ok_r_mode rfl rfl rfl rfl
    · exact absurd rfl h2
set_option maxHeartbeats 4000000 in
theorem rm_mode {d : Nat} {M : MSt} {t o : Nat} (hM : WM M) (ht : t < g_n M) (ho : o < 85) : AM r_mode (d + 1) (.inl (some (.int (mdI (g_he M) t o)))) [.ref 0, .int (nI t), .int (nI o)] (wM M) (wM (m_cd M 0)) := by
  refine aq_enter pl_r_mode (Nat.le_of_ble_eq_true rfl) ?_
  refine aq_gn (n := 3) (c1 := (3, [some (.ref 0), some (.int (nI t)), some (.int (nI o))], [.int (nI t), .ref 0, .ref 0], wM M)) ok_r_mode rfl ?_
  refine aq_callV (as := [.int (nI t)]) (st := [.ref 0]) ok_r_mode rfl c1_r_isTransaction (rm_isTransactionM (nI t)) rfl (Nat.le_of_ble_eq_true rfl) rfl rfl rfl ?_
  rw [isT_in ht (show g_n M < 2 ^ 31 by have := hM.1; omega)]
  refine aq_if_eq ok_r_mode rfl (fun h => ?_) (fun h => ?_)
  · exact absurd h bI_t
  · refine aq_gn (n := 1) (c1 := (10, [some (.ref 0), some (.int (nI t)), some (.int (nI o))], [.int (nI o), .ref 0], wM M)) ok_r_mode rfl ?_
    refine aq_callS (as := [.int (nI o)]) (st := [.ref 0]) ok_r_mode rfl c1_r_isObject (rm_isObject (nI o)) rfl (Nat.le_of_ble_eq_true rfl) ?_
    rw [isT_in ho (by omega)]
    refine aq_if_eq ok_r_mode rfl (fun h2 => ?_) (fun h2 => ?_)
    · exact absurd h2 bI_t
    · show AW r_mode _ _ _ (16, [some (.ref 0), some (.int (nI t)), some (.int (nI o))], [.ref 0], mL (g_cd M) (g_n M) (g_pr M) (g_st M) (g_he M) (g_wt M) (g_wn M) (g_cv M) (g_qs M) (g_qu M) (g_v5 M) (g_v6 M) (g_v7 M))
      refine aq_go (n := 5) (c1 := (28, [some (.ref 0), some (.int (nI t)), some (.int (nI o))], [.int (nI 0)], mR (nI 0) (nI (g_n M)) (fun ι => nI ((g_pr M) ι)) (fun ι => nI ((g_st M) ι)) (fun ι => oI ((g_he M) ι)) (fun ι => oI ((g_wt M) ι)) (fun ι => nI ((g_wn M) ι)) (fun ι => bI ((g_cv M) ι)) (fun ι => nI ((g_qs M) ι)) (fun ι => nI ((g_qu M) ι)) (nI (g_v5 M)) (nI (g_v6 M)) (nI (g_v7 M)))) (P := aq_fi 1 0 = true) ok_r_mode rfl fi1_0 ?_
      show AW r_mode _ _ _ (28, [some (.ref 0), some (.int (nI t)), some (.int (nI o))], [.int (nI 0)], wM (m_cd M 0))
      refine aq_if_le ok_r_mode rfl (fun hz => ?_) (fun hz => ?_)
      · refine aq_gn (n := 3) (c1 := (38, [some (.ref 0), some (.int (nI t)), some (.int (nI o))], [.int (nI o), .int (nI t), .ref 0], wM (m_cd M 0))) ok_r_mode rfl ?_
        refine aq_callV (as := [.int (nI t), .int (nI o)]) (st := []) ok_r_mode rfl c1_r_modeOf (rm_modeOfM (M := m_cd M 0) (Nat.lt_of_lt_of_le ht hM.1) ho) rfl (Nat.le_of_ble_eq_true rfl) rfl rfl rfl ?_
        exact aq_ei ok_r_mode rfl rfl rfl rfl
      · exact absurd c_le0 hz
set_option maxHeartbeats 4000000 in
theorem rm_waitsFor_t {d : Nat} {M : MSt} {x : Int32} (hx : x < 0 ∨ nI (g_n M) ≤ x) : AM r_waitsFor (d + 1) (.inl (some (.long (0)))) [.ref 0, .int x] (wM M) (wM (m_cd M 1)) := by
  refine aq_enter pl_r_waitsFor (Nat.le_of_ble_eq_true rfl) ?_
  refine aq_gn (n := 3) (c1 := (3, [some (.ref 0), some (.int x)], [.int x, .ref 0, .ref 0], wM M)) ok_r_waitsFor rfl ?_
  refine aq_callV (as := [.int x]) (st := [.ref 0]) ok_r_waitsFor rfl c1_r_isTransaction (rm_isTransactionM x) rfl (Nat.le_of_ble_eq_true rfl) rfl rfl rfl ?_
  rw [isT_out hx]
  refine aq_if_eq ok_r_waitsFor rfl (fun h => ?_) (fun h => ?_)
  · show AW r_waitsFor _ _ _ (13, [some (.ref 0), some (.int x)], [.ref 0], mL (g_cd M) (g_n M) (g_pr M) (g_st M) (g_he M) (g_wt M) (g_wn M) (g_cv M) (g_qs M) (g_qu M) (g_v5 M) (g_v6 M) (g_v7 M))
    refine aq_go (n := 4) (c1 := (21, [some (.ref 0), some (.int x)], [.int (nI 1)], mR (nI 1) (nI (g_n M)) (fun ι => nI ((g_pr M) ι)) (fun ι => nI ((g_st M) ι)) (fun ι => oI ((g_he M) ι)) (fun ι => oI ((g_wt M) ι)) (fun ι => nI ((g_wn M) ι)) (fun ι => bI ((g_cv M) ι)) (fun ι => nI ((g_qs M) ι)) (fun ι => nI ((g_qu M) ι)) (nI (g_v5 M)) (nI (g_v6 M)) (nI (g_v7 M)))) (P := aq_fi 1 0 = true) ok_r_waitsFor rfl fi1_0 ?_
    show AW r_waitsFor _ _ _ (21, [some (.ref 0), some (.int x)], [.int (nI 1)], wM (m_cd M 1))
    refine aq_if_le ok_r_waitsFor rfl (fun hz => ?_) (fun hz => ?_)
    · exact absurd hz c_le1
    · refine aq_gn (n := 2) (c1 := (33, [some (.ref 0), some (.int x)], [.long 0], wM (m_cd M 1))) ok_r_waitsFor rfl ?_
      exact aq_el ok_r_waitsFor rfl rfl rfl rfl
  · exact absurd rfl h
set_option maxHeartbeats 4000000 in
theorem rm_waitsFor {d : Nat} {M : MSt} {t : Nat} (hM : WM M) (hQ : WQ M) (ht : t < g_n M) : AM r_waitsFor (d + 2) (.inl (some (.long (mwb M t)))) [.ref 0, .int (nI t)] (wM M) (wM (m_cd M 0)) := by
  refine aq_enter pl_r_waitsFor (Nat.le_of_ble_eq_true rfl) ?_
  refine aq_gn (n := 3) (c1 := (3, [some (.ref 0), some (.int (nI t))], [.int (nI t), .ref 0, .ref 0], wM M)) ok_r_waitsFor rfl ?_
  refine aq_callV (as := [.int (nI t)]) (st := [.ref 0]) ok_r_waitsFor rfl c1_r_isTransaction (rm_isTransactionM (nI t)) rfl (Nat.le_of_ble_eq_true rfl) rfl rfl rfl ?_
  rw [isT_in ht (show g_n M < 2 ^ 31 by have := hM.1; omega)]
  refine aq_if_eq ok_r_waitsFor rfl (fun h => ?_) (fun h => ?_)
  · exact absurd h bI_t
  · show AW r_waitsFor _ _ _ (9, [some (.ref 0), some (.int (nI t))], [.ref 0], mL (g_cd M) (g_n M) (g_pr M) (g_st M) (g_he M) (g_wt M) (g_wn M) (g_cv M) (g_qs M) (g_qu M) (g_v5 M) (g_v6 M) (g_v7 M))
    refine aq_go (n := 5) (c1 := (21, [some (.ref 0), some (.int (nI t))], [.int (nI 0)], mR (nI 0) (nI (g_n M)) (fun ι => nI ((g_pr M) ι)) (fun ι => nI ((g_st M) ι)) (fun ι => oI ((g_he M) ι)) (fun ι => oI ((g_wt M) ι)) (fun ι => nI ((g_wn M) ι)) (fun ι => bI ((g_cv M) ι)) (fun ι => nI ((g_qs M) ι)) (fun ι => nI ((g_qu M) ι)) (nI (g_v5 M)) (nI (g_v6 M)) (nI (g_v7 M)))) (P := aq_fi 1 0 = true) ok_r_waitsFor rfl fi1_0 ?_
    show AW r_waitsFor _ _ _ (21, [some (.ref 0), some (.int (nI t))], [.int (nI 0)], wM (m_cd M 0))
    refine aq_if_le ok_r_waitsFor rfl (fun hz => ?_) (fun hz => ?_)
    · refine aq_gn (n := 2) (c1 := (30, [some (.ref 0), some (.int (nI t))], [.int (nI t), .ref 0], wM (m_cd M 0))) ok_r_waitsFor rfl ?_
      refine aq_callV (as := [.int (nI t)]) (st := []) ok_r_waitsFor rfl c1_r_waitBits (rm_waitBits (M := m_cd M 0) hM hQ (Nat.lt_of_lt_of_le ht hM.1) ht) rfl (Nat.le_of_ble_eq_true rfl) rfl rfl rfl ?_
      exact aq_el ok_r_waitsFor rfl rfl rfl rfl
    · exact absurd c_le0 hz
set_option maxHeartbeats 4000000 in
theorem rm_astray {d : Nat} {M : MSt}  : AM r_astray (d) (.inl (some (.int (nI 0)))) [.ref 0] (wM M) (wM (m_cd M 0)) := by
  refine aq_enter pl_r_astray (Nat.le_of_ble_eq_true rfl) ?_
  show AW r_astray _ _ _ (0, [some (.ref 0)], [], mL (g_cd M) (g_n M) (g_pr M) (g_st M) (g_he M) (g_wt M) (g_wn M) (g_cv M) (g_qs M) (g_qu M) (g_v5 M) (g_v6 M) (g_v7 M))
  refine aq_go (n := 4) (c1 := (6, [some (.ref 0)], [.int (nI 0)], mR (nI 0) (nI (g_n M)) (fun ι => nI ((g_pr M) ι)) (fun ι => nI ((g_st M) ι)) (fun ι => oI ((g_he M) ι)) (fun ι => oI ((g_wt M) ι)) (fun ι => nI ((g_wn M) ι)) (fun ι => bI ((g_cv M) ι)) (fun ι => nI ((g_qs M) ι)) (fun ι => nI ((g_qu M) ι)) (nI (g_v5 M)) (nI (g_v6 M)) (nI (g_v7 M)))) (P := aq_fi 1 0 = true) ok_r_astray rfl fi1_0 ?_
  exact aq_ei ok_r_astray rfl rfl rfl rfl
set_option maxHeartbeats 4000000 in
theorem lp_told0 {d : Nat} {M : MSt} {t : Nat} (hM : WM M) (ht6 : t < 60) : ∀ (f i : Nat), i + f = 85 → ∀ c : Nat,  AW r_told (d + 1) (.inl (some (.int (nI (g_st M t))))) (wM M) (44, [some (.ref 0), some (.int (nI t)), some (.int (nI 0)), some (.int (nI c)), some (.int (nI i))], [], mL (g_cd M) (g_n M) (g_pr M) (g_st M) (g_he M) (g_wt M) (g_wn M) (g_cv M) (g_qs M) (g_qu M) (g_v5 M) (g_v6 M) (g_v7 M)) := by
  intro f
  induction f with
  | zero =>
    intro i hif c
    refine aq_gn (n := 2) (c1 := (48, [some (.ref 0), some (.int (nI t)), some (.int (nI 0)), some (.int (nI c)), some (.int (nI i))], [.int (nI 85), .int (nI i)], mL (g_cd M) (g_n M) (g_pr M) (g_st M) (g_he M) (g_wt M) (g_wn M) (g_cv M) (g_qs M) (g_qu M) (g_v5 M) (g_v6 M) (g_v7 M))) ok_r_told rfl ?_
    refine aq_icmp_ge ok_r_told rfl (fun h => ?_) (fun h => ?_)
    · refine aq_gn (n := 1) (c1 := (76, [some (.ref 0), some (.int (nI t)), some (.int (nI 0)), some (.int (nI c)), some (.int (nI i))], [.int (nI 0)], mL (g_cd M) (g_n M) (g_pr M) (g_st M) (g_he M) (g_wt M) (g_wn M) (g_cv M) (g_qs M) (g_qu M) (g_v5 M) (g_v6 M) (g_v7 M))) ok_r_told rfl ?_
      refine aq_tabI (tgt := 108) ok_r_told rfl (by decide) (by decide) rfl (by decide) ?_
      refine aq_go (n := 4) (c1 := (114, [some (.ref 0), some (.int (nI t)), some (.int (nI 0)), some (.int (nI c)), some (.int (nI i))], [.int (nI ((g_st M) (nI t).toNatClampNeg))], mL (g_cd M) (g_n M) (g_pr M) (g_st M) (g_he M) (g_wt M) (g_wn M) (g_cv M) (g_qs M) (g_qu M) (g_v5 M) (g_v6 M) (g_v7 M))) (P := vp_in (nI t) 60) ok_r_told rfl (in60 ht6) ?_
      rw [cl60 ht6]
      exact aq_ei ok_r_told rfl rfl rfl rfl
    · exact absurd (nI_le (show 85 ≤ i by omega) (by omega)) h
  | succ f ih =>
    intro i hif c
    refine aq_gn (n := 2) (c1 := (48, [some (.ref 0), some (.int (nI t)), some (.int (nI 0)), some (.int (nI c)), some (.int (nI i))], [.int (nI 85), .int (nI i)], mL (g_cd M) (g_n M) (g_pr M) (g_st M) (g_he M) (g_wt M) (g_wn M) (g_cv M) (g_qs M) (g_qu M) (g_v5 M) (g_v6 M) (g_v7 M))) ok_r_told rfl ?_
    refine aq_icmp_ge ok_r_told rfl (fun h => ?_) (fun h => ?_)
    · exact absurd (q_le h (by omega) (by omega)) (by omega)
    · refine aq_gn (n := 4) (c1 := (56, [some (.ref 0), some (.int (nI t)), some (.int (nI 0)), some (.int (nI c)), some (.int (nI i))], [.int (nI i), .int (nI t), .ref 0, .int (nI c)], wM M)) ok_r_told rfl ?_
      refine aq_callV (as := [.int (nI t), .int (nI i)]) (st := [.int (nI c)]) ok_r_told rfl c1_r_modeOf (rm_modeOfM ht6 (show i < 85 by omega)) rfl (Nat.le_of_ble_eq_true rfl) rfl rfl rfl ?_
      refine aq_if_lt ok_r_told rfl (fun h2 => ?_) (fun h2 => ?_)
      · refine aq_gn (n := 5) (c1 := (44, [some (.ref 0), some (.int (nI t)), some (.int (nI 0)), some (.int ((nI c) + (nI 0))), some (.int ((nI i) + 1))], [], mL (g_cd M) (g_n M) (g_pr M) (g_st M) (g_he M) (g_wt M) (g_wn M) (g_cv M) (g_qs M) (g_qu M) (g_v5 M) (g_v6 M) (g_v7 M))) ok_r_told rfl ?_
        rw [nI_add, nI_1]
        have e : cnt (fun i => !decide (mdI (g_he M) t i < 0)) (f + 1) i c = cnt (fun i => !decide (mdI (g_he M) t i < 0)) f (i + 1) (c + 0) := by rw [cnt]; simp [h2]
        try rw [e]
        exact ih (i + 1) (by omega) _
      · refine aq_gn (n := 6) (c1 := (44, [some (.ref 0), some (.int (nI t)), some (.int (nI 0)), some (.int ((nI c) + (nI 1))), some (.int ((nI i) + 1))], [], mL (g_cd M) (g_n M) (g_pr M) (g_st M) (g_he M) (g_wt M) (g_wn M) (g_cv M) (g_qs M) (g_qu M) (g_v5 M) (g_v6 M) (g_v7 M))) ok_r_told rfl ?_
        rw [nI_add, nI_1]
        have e : cnt (fun i => !decide (mdI (g_he M) t i < 0)) (f + 1) i c = cnt (fun i => !decide (mdI (g_he M) t i < 0)) f (i + 1) (c + 1) := by rw [cnt]; simp [h2]
        try rw [e]
        exact ih (i + 1) (by omega) _
set_option maxHeartbeats 4000000 in
theorem rm_told0 {d : Nat} {M : MSt} {t : Nat} (hM : WM M) (ht : t < g_n M) : AM r_told (d + 1) (.inl (some (.int (nI (g_st M t))))) [.ref 0, .int (nI t), .int (nI 0)] (wM M) (wM (m_cd M 0)) := by
  refine aq_enter pl_r_told (Nat.le_of_ble_eq_true rfl) ?_
  refine aq_gn (n := 3) (c1 := (3, [some (.ref 0), some (.int (nI t)), some (.int (nI 0)), none, none], [.int (nI t), .ref 0, .ref 0], wM M)) ok_r_told rfl ?_
  refine aq_callV (as := [.int (nI t)]) (st := [.ref 0]) ok_r_told rfl c1_r_isTransaction (rm_isTransactionM (nI t)) rfl (Nat.le_of_ble_eq_true rfl) rfl rfl rfl ?_
  rw [isT_in ht (show g_n M < 2 ^ 31 by have := hM.1; omega)]
  refine aq_if_ne ok_r_told rfl (fun h => ?_) (fun h => ?_)
  · show AW r_told _ _ _ (13, [some (.ref 0), some (.int (nI t)), some (.int (nI 0)), none, none], [.ref 0], mL (g_cd M) (g_n M) (g_pr M) (g_st M) (g_he M) (g_wt M) (g_wn M) (g_cv M) (g_qs M) (g_qu M) (g_v5 M) (g_v6 M) (g_v7 M))
    refine aq_gn (n := 1) (c1 := (14, [some (.ref 0), some (.int (nI t)), some (.int (nI 0)), none, none], [.int (nI 0), .ref 0], mL (g_cd M) (g_n M) (g_pr M) (g_st M) (g_he M) (g_wt M) (g_wn M) (g_cv M) (g_qs M) (g_qu M) (g_v5 M) (g_v6 M) (g_v7 M))) ok_r_told rfl ?_
    refine aq_if_lt ok_r_told rfl (fun h2 => ?_) (fun h2 => ?_)
    · exact absurd h2 (by decide)
    · refine aq_gn (n := 2) (c1 := (19, [some (.ref 0), some (.int (nI t)), some (.int (nI 0)), none, none], [.int (nI 4), .int (nI 0), .ref 0], mL (g_cd M) (g_n M) (g_pr M) (g_st M) (g_he M) (g_wt M) (g_wn M) (g_cv M) (g_qs M) (g_qu M) (g_v5 M) (g_v6 M) (g_v7 M))) ok_r_told rfl ?_
      refine aq_icmp_le ok_r_told rfl (fun h3 => ?_) (fun h3 => ?_)
      · refine aq_go (n := 4) (c1 := (34, [some (.ref 0), some (.int (nI t)), some (.int (nI 0)), none, none], [.int (nI 0)], mR (nI 0) (nI (g_n M)) (fun ι => nI ((g_pr M) ι)) (fun ι => nI ((g_st M) ι)) (fun ι => oI ((g_he M) ι)) (fun ι => oI ((g_wt M) ι)) (fun ι => nI ((g_wn M) ι)) (fun ι => bI ((g_cv M) ι)) (fun ι => nI ((g_qs M) ι)) (fun ι => nI ((g_qu M) ι)) (nI (g_v5 M)) (nI (g_v6 M)) (nI (g_v7 M)))) (P := aq_fi 1 0 = true) ok_r_told rfl fi1_0 ?_
        show AW r_told _ _ _ (34, [some (.ref 0), some (.int (nI t)), some (.int (nI 0)), none, none], [.int (nI 0)], wM (m_cd M 0))
        refine aq_if_le ok_r_told rfl (fun hz => ?_) (fun hz => ?_)
        · refine aq_gn (n := 4) (c1 := (44, [some (.ref 0), some (.int (nI t)), some (.int (nI 0)), some (.int (nI 0)), some (.int (nI 0))], [], wM (m_cd M 0))) ok_r_told rfl ?_
          exact lp_told0 (M := m_cd M 0) hM (Nat.lt_of_lt_of_le ht hM.1) 85 0 (by omega) 0
        · exact absurd c_le0 hz
      · exact absurd (by decide) h3
  · exact absurd h bI_t
set_option maxHeartbeats 4000000 in
theorem lp_told1 {d : Nat} {M : MSt} {t : Nat} (hM : WM M) (ht6 : t < 60) : ∀ (f i : Nat), i + f = 85 → ∀ c : Nat,  AW r_told (d + 1) (.inl (some (.int (nI (g_pr M t))))) (wM M) (44, [some (.ref 0), some (.int (nI t)), some (.int (nI 1)), some (.int (nI c)), some (.int (nI i))], [], mL (g_cd M) (g_n M) (g_pr M) (g_st M) (g_he M) (g_wt M) (g_wn M) (g_cv M) (g_qs M) (g_qu M) (g_v5 M) (g_v6 M) (g_v7 M)) := by
  intro f
  induction f with
  | zero =>
    intro i hif c
    refine aq_gn (n := 2) (c1 := (48, [some (.ref 0), some (.int (nI t)), some (.int (nI 1)), some (.int (nI c)), some (.int (nI i))], [.int (nI 85), .int (nI i)], mL (g_cd M) (g_n M) (g_pr M) (g_st M) (g_he M) (g_wt M) (g_wn M) (g_cv M) (g_qs M) (g_qu M) (g_v5 M) (g_v6 M) (g_v7 M))) ok_r_told rfl ?_
    refine aq_icmp_ge ok_r_told rfl (fun h => ?_) (fun h => ?_)
    · refine aq_gn (n := 1) (c1 := (76, [some (.ref 0), some (.int (nI t)), some (.int (nI 1)), some (.int (nI c)), some (.int (nI i))], [.int (nI 1)], mL (g_cd M) (g_n M) (g_pr M) (g_st M) (g_he M) (g_wt M) (g_wn M) (g_cv M) (g_qs M) (g_qu M) (g_v5 M) (g_v6 M) (g_v7 M))) ok_r_told rfl ?_
      refine aq_tabI (tgt := 115) ok_r_told rfl (by decide) (by decide) rfl (by decide) ?_
      refine aq_go (n := 4) (c1 := (121, [some (.ref 0), some (.int (nI t)), some (.int (nI 1)), some (.int (nI c)), some (.int (nI i))], [.int (nI ((g_pr M) (nI t).toNatClampNeg))], mL (g_cd M) (g_n M) (g_pr M) (g_st M) (g_he M) (g_wt M) (g_wn M) (g_cv M) (g_qs M) (g_qu M) (g_v5 M) (g_v6 M) (g_v7 M))) (P := vp_in (nI t) 60) ok_r_told rfl (in60 ht6) ?_
      rw [cl60 ht6]
      exact aq_ei ok_r_told rfl rfl rfl rfl
    · exact absurd (nI_le (show 85 ≤ i by omega) (by omega)) h
  | succ f ih =>
    intro i hif c
    refine aq_gn (n := 2) (c1 := (48, [some (.ref 0), some (.int (nI t)), some (.int (nI 1)), some (.int (nI c)), some (.int (nI i))], [.int (nI 85), .int (nI i)], mL (g_cd M) (g_n M) (g_pr M) (g_st M) (g_he M) (g_wt M) (g_wn M) (g_cv M) (g_qs M) (g_qu M) (g_v5 M) (g_v6 M) (g_v7 M))) ok_r_told rfl ?_
    refine aq_icmp_ge ok_r_told rfl (fun h => ?_) (fun h => ?_)
    · exact absurd (q_le h (by omega) (by omega)) (by omega)
    · refine aq_gn (n := 4) (c1 := (56, [some (.ref 0), some (.int (nI t)), some (.int (nI 1)), some (.int (nI c)), some (.int (nI i))], [.int (nI i), .int (nI t), .ref 0, .int (nI c)], wM M)) ok_r_told rfl ?_
      refine aq_callV (as := [.int (nI t), .int (nI i)]) (st := [.int (nI c)]) ok_r_told rfl c1_r_modeOf (rm_modeOfM ht6 (show i < 85 by omega)) rfl (Nat.le_of_ble_eq_true rfl) rfl rfl rfl ?_
      refine aq_if_lt ok_r_told rfl (fun h2 => ?_) (fun h2 => ?_)
      · refine aq_gn (n := 5) (c1 := (44, [some (.ref 0), some (.int (nI t)), some (.int (nI 1)), some (.int ((nI c) + (nI 0))), some (.int ((nI i) + 1))], [], mL (g_cd M) (g_n M) (g_pr M) (g_st M) (g_he M) (g_wt M) (g_wn M) (g_cv M) (g_qs M) (g_qu M) (g_v5 M) (g_v6 M) (g_v7 M))) ok_r_told rfl ?_
        rw [nI_add, nI_1]
        have e : cnt (fun i => !decide (mdI (g_he M) t i < 0)) (f + 1) i c = cnt (fun i => !decide (mdI (g_he M) t i < 0)) f (i + 1) (c + 0) := by rw [cnt]; simp [h2]
        try rw [e]
        exact ih (i + 1) (by omega) _
      · refine aq_gn (n := 6) (c1 := (44, [some (.ref 0), some (.int (nI t)), some (.int (nI 1)), some (.int ((nI c) + (nI 1))), some (.int ((nI i) + 1))], [], mL (g_cd M) (g_n M) (g_pr M) (g_st M) (g_he M) (g_wt M) (g_wn M) (g_cv M) (g_qs M) (g_qu M) (g_v5 M) (g_v6 M) (g_v7 M))) ok_r_told rfl ?_
        rw [nI_add, nI_1]
        have e : cnt (fun i => !decide (mdI (g_he M) t i < 0)) (f + 1) i c = cnt (fun i => !decide (mdI (g_he M) t i < 0)) f (i + 1) (c + 1) := by rw [cnt]; simp [h2]
        try rw [e]
        exact ih (i + 1) (by omega) _
set_option maxHeartbeats 4000000 in
theorem rm_told1 {d : Nat} {M : MSt} {t : Nat} (hM : WM M) (ht : t < g_n M) : AM r_told (d + 1) (.inl (some (.int (nI (g_pr M t))))) [.ref 0, .int (nI t), .int (nI 1)] (wM M) (wM (m_cd M 0)) := by
  refine aq_enter pl_r_told (Nat.le_of_ble_eq_true rfl) ?_
  refine aq_gn (n := 3) (c1 := (3, [some (.ref 0), some (.int (nI t)), some (.int (nI 1)), none, none], [.int (nI t), .ref 0, .ref 0], wM M)) ok_r_told rfl ?_
  refine aq_callV (as := [.int (nI t)]) (st := [.ref 0]) ok_r_told rfl c1_r_isTransaction (rm_isTransactionM (nI t)) rfl (Nat.le_of_ble_eq_true rfl) rfl rfl rfl ?_
  rw [isT_in ht (show g_n M < 2 ^ 31 by have := hM.1; omega)]
  refine aq_if_ne ok_r_told rfl (fun h => ?_) (fun h => ?_)
  · show AW r_told _ _ _ (13, [some (.ref 0), some (.int (nI t)), some (.int (nI 1)), none, none], [.ref 0], mL (g_cd M) (g_n M) (g_pr M) (g_st M) (g_he M) (g_wt M) (g_wn M) (g_cv M) (g_qs M) (g_qu M) (g_v5 M) (g_v6 M) (g_v7 M))
    refine aq_gn (n := 1) (c1 := (14, [some (.ref 0), some (.int (nI t)), some (.int (nI 1)), none, none], [.int (nI 1), .ref 0], mL (g_cd M) (g_n M) (g_pr M) (g_st M) (g_he M) (g_wt M) (g_wn M) (g_cv M) (g_qs M) (g_qu M) (g_v5 M) (g_v6 M) (g_v7 M))) ok_r_told rfl ?_
    refine aq_if_lt ok_r_told rfl (fun h2 => ?_) (fun h2 => ?_)
    · exact absurd h2 (by decide)
    · refine aq_gn (n := 2) (c1 := (19, [some (.ref 0), some (.int (nI t)), some (.int (nI 1)), none, none], [.int (nI 4), .int (nI 1), .ref 0], mL (g_cd M) (g_n M) (g_pr M) (g_st M) (g_he M) (g_wt M) (g_wn M) (g_cv M) (g_qs M) (g_qu M) (g_v5 M) (g_v6 M) (g_v7 M))) ok_r_told rfl ?_
      refine aq_icmp_le ok_r_told rfl (fun h3 => ?_) (fun h3 => ?_)
      · refine aq_go (n := 4) (c1 := (34, [some (.ref 0), some (.int (nI t)), some (.int (nI 1)), none, none], [.int (nI 0)], mR (nI 0) (nI (g_n M)) (fun ι => nI ((g_pr M) ι)) (fun ι => nI ((g_st M) ι)) (fun ι => oI ((g_he M) ι)) (fun ι => oI ((g_wt M) ι)) (fun ι => nI ((g_wn M) ι)) (fun ι => bI ((g_cv M) ι)) (fun ι => nI ((g_qs M) ι)) (fun ι => nI ((g_qu M) ι)) (nI (g_v5 M)) (nI (g_v6 M)) (nI (g_v7 M)))) (P := aq_fi 1 0 = true) ok_r_told rfl fi1_0 ?_
        show AW r_told _ _ _ (34, [some (.ref 0), some (.int (nI t)), some (.int (nI 1)), none, none], [.int (nI 0)], wM (m_cd M 0))
        refine aq_if_le ok_r_told rfl (fun hz => ?_) (fun hz => ?_)
        · refine aq_gn (n := 4) (c1 := (44, [some (.ref 0), some (.int (nI t)), some (.int (nI 1)), some (.int (nI 0)), some (.int (nI 0))], [], wM (m_cd M 0))) ok_r_told rfl ?_
          exact lp_told1 (M := m_cd M 0) hM (Nat.lt_of_lt_of_le ht hM.1) 85 0 (by omega) 0
        · exact absurd c_le0 hz
      · exact absurd (by decide) h3
  · exact absurd h bI_t
set_option maxHeartbeats 4000000 in
theorem lp_told2 {d : Nat} {M : MSt} {t : Nat} (hM : WM M) (ht6 : t < 60) : ∀ (f i : Nat), i + f = 85 → ∀ c : Nat,  AW r_told (d + 1) (.inl (some (.int (nI (cnt (fun i => !decide (mdI (g_he M) t i < 0)) f i c))))) (wM M) (44, [some (.ref 0), some (.int (nI t)), some (.int (nI 2)), some (.int (nI c)), some (.int (nI i))], [], mL (g_cd M) (g_n M) (g_pr M) (g_st M) (g_he M) (g_wt M) (g_wn M) (g_cv M) (g_qs M) (g_qu M) (g_v5 M) (g_v6 M) (g_v7 M)) := by
  intro f
  induction f with
  | zero =>
    intro i hif c
    refine aq_gn (n := 2) (c1 := (48, [some (.ref 0), some (.int (nI t)), some (.int (nI 2)), some (.int (nI c)), some (.int (nI i))], [.int (nI 85), .int (nI i)], mL (g_cd M) (g_n M) (g_pr M) (g_st M) (g_he M) (g_wt M) (g_wn M) (g_cv M) (g_qs M) (g_qu M) (g_v5 M) (g_v6 M) (g_v7 M))) ok_r_told rfl ?_
    refine aq_icmp_ge ok_r_told rfl (fun h => ?_) (fun h => ?_)
    · refine aq_gn (n := 1) (c1 := (76, [some (.ref 0), some (.int (nI t)), some (.int (nI 2)), some (.int (nI c)), some (.int (nI i))], [.int (nI 2)], mL (g_cd M) (g_n M) (g_pr M) (g_st M) (g_he M) (g_wt M) (g_wn M) (g_cv M) (g_qs M) (g_qu M) (g_v5 M) (g_v6 M) (g_v7 M))) ok_r_told rfl ?_
      refine aq_tabI (tgt := 122) ok_r_told rfl (by decide) (by decide) rfl (by decide) ?_
      refine aq_gn (n := 1) (c1 := (123, [some (.ref 0), some (.int (nI t)), some (.int (nI 2)), some (.int (nI c)), some (.int (nI i))], [.int (nI c)], mL (g_cd M) (g_n M) (g_pr M) (g_st M) (g_he M) (g_wt M) (g_wn M) (g_cv M) (g_qs M) (g_qu M) (g_v5 M) (g_v6 M) (g_v7 M))) ok_r_told rfl ?_
      exact aq_ei ok_r_told rfl rfl rfl rfl
    · exact absurd (nI_le (show 85 ≤ i by omega) (by omega)) h
  | succ f ih =>
    intro i hif c
    refine aq_gn (n := 2) (c1 := (48, [some (.ref 0), some (.int (nI t)), some (.int (nI 2)), some (.int (nI c)), some (.int (nI i))], [.int (nI 85), .int (nI i)], mL (g_cd M) (g_n M) (g_pr M) (g_st M) (g_he M) (g_wt M) (g_wn M) (g_cv M) (g_qs M) (g_qu M) (g_v5 M) (g_v6 M) (g_v7 M))) ok_r_told rfl ?_
    refine aq_icmp_ge ok_r_told rfl (fun h => ?_) (fun h => ?_)
    · exact absurd (q_le h (by omega) (by omega)) (by omega)
    · refine aq_gn (n := 4) (c1 := (56, [some (.ref 0), some (.int (nI t)), some (.int (nI 2)), some (.int (nI c)), some (.int (nI i))], [.int (nI i), .int (nI t), .ref 0, .int (nI c)], wM M)) ok_r_told rfl ?_
      refine aq_callV (as := [.int (nI t), .int (nI i)]) (st := [.int (nI c)]) ok_r_told rfl c1_r_modeOf (rm_modeOfM ht6 (show i < 85 by omega)) rfl (Nat.le_of_ble_eq_true rfl) rfl rfl rfl ?_
      refine aq_if_lt ok_r_told rfl (fun h2 => ?_) (fun h2 => ?_)
      · refine aq_gn (n := 5) (c1 := (44, [some (.ref 0), some (.int (nI t)), some (.int (nI 2)), some (.int ((nI c) + (nI 0))), some (.int ((nI i) + 1))], [], mL (g_cd M) (g_n M) (g_pr M) (g_st M) (g_he M) (g_wt M) (g_wn M) (g_cv M) (g_qs M) (g_qu M) (g_v5 M) (g_v6 M) (g_v7 M))) ok_r_told rfl ?_
        rw [nI_add, nI_1]
        have e : cnt (fun i => !decide (mdI (g_he M) t i < 0)) (f + 1) i c = cnt (fun i => !decide (mdI (g_he M) t i < 0)) f (i + 1) (c + 0) := by rw [cnt]; simp [h2]
        try rw [e]
        exact ih (i + 1) (by omega) _
      · refine aq_gn (n := 6) (c1 := (44, [some (.ref 0), some (.int (nI t)), some (.int (nI 2)), some (.int ((nI c) + (nI 1))), some (.int ((nI i) + 1))], [], mL (g_cd M) (g_n M) (g_pr M) (g_st M) (g_he M) (g_wt M) (g_wn M) (g_cv M) (g_qs M) (g_qu M) (g_v5 M) (g_v6 M) (g_v7 M))) ok_r_told rfl ?_
        rw [nI_add, nI_1]
        have e : cnt (fun i => !decide (mdI (g_he M) t i < 0)) (f + 1) i c = cnt (fun i => !decide (mdI (g_he M) t i < 0)) f (i + 1) (c + 1) := by rw [cnt]; simp [h2]
        try rw [e]
        exact ih (i + 1) (by omega) _
set_option maxHeartbeats 4000000 in
theorem rm_told2 {d : Nat} {M : MSt} {t : Nat} (hM : WM M) (ht : t < g_n M) : AM r_told (d + 1) (.inl (some (.int (nI (cnt (fun i => !decide (mdI (g_he M) t i < 0)) 85 0 0))))) [.ref 0, .int (nI t), .int (nI 2)] (wM M) (wM (m_cd M 0)) := by
  refine aq_enter pl_r_told (Nat.le_of_ble_eq_true rfl) ?_
  refine aq_gn (n := 3) (c1 := (3, [some (.ref 0), some (.int (nI t)), some (.int (nI 2)), none, none], [.int (nI t), .ref 0, .ref 0], wM M)) ok_r_told rfl ?_
  refine aq_callV (as := [.int (nI t)]) (st := [.ref 0]) ok_r_told rfl c1_r_isTransaction (rm_isTransactionM (nI t)) rfl (Nat.le_of_ble_eq_true rfl) rfl rfl rfl ?_
  rw [isT_in ht (show g_n M < 2 ^ 31 by have := hM.1; omega)]
  refine aq_if_ne ok_r_told rfl (fun h => ?_) (fun h => ?_)
  · show AW r_told _ _ _ (13, [some (.ref 0), some (.int (nI t)), some (.int (nI 2)), none, none], [.ref 0], mL (g_cd M) (g_n M) (g_pr M) (g_st M) (g_he M) (g_wt M) (g_wn M) (g_cv M) (g_qs M) (g_qu M) (g_v5 M) (g_v6 M) (g_v7 M))
    refine aq_gn (n := 1) (c1 := (14, [some (.ref 0), some (.int (nI t)), some (.int (nI 2)), none, none], [.int (nI 2), .ref 0], mL (g_cd M) (g_n M) (g_pr M) (g_st M) (g_he M) (g_wt M) (g_wn M) (g_cv M) (g_qs M) (g_qu M) (g_v5 M) (g_v6 M) (g_v7 M))) ok_r_told rfl ?_
    refine aq_if_lt ok_r_told rfl (fun h2 => ?_) (fun h2 => ?_)
    · exact absurd h2 (by decide)
    · refine aq_gn (n := 2) (c1 := (19, [some (.ref 0), some (.int (nI t)), some (.int (nI 2)), none, none], [.int (nI 4), .int (nI 2), .ref 0], mL (g_cd M) (g_n M) (g_pr M) (g_st M) (g_he M) (g_wt M) (g_wn M) (g_cv M) (g_qs M) (g_qu M) (g_v5 M) (g_v6 M) (g_v7 M))) ok_r_told rfl ?_
      refine aq_icmp_le ok_r_told rfl (fun h3 => ?_) (fun h3 => ?_)
      · refine aq_go (n := 4) (c1 := (34, [some (.ref 0), some (.int (nI t)), some (.int (nI 2)), none, none], [.int (nI 0)], mR (nI 0) (nI (g_n M)) (fun ι => nI ((g_pr M) ι)) (fun ι => nI ((g_st M) ι)) (fun ι => oI ((g_he M) ι)) (fun ι => oI ((g_wt M) ι)) (fun ι => nI ((g_wn M) ι)) (fun ι => bI ((g_cv M) ι)) (fun ι => nI ((g_qs M) ι)) (fun ι => nI ((g_qu M) ι)) (nI (g_v5 M)) (nI (g_v6 M)) (nI (g_v7 M)))) (P := aq_fi 1 0 = true) ok_r_told rfl fi1_0 ?_
        show AW r_told _ _ _ (34, [some (.ref 0), some (.int (nI t)), some (.int (nI 2)), none, none], [.int (nI 0)], wM (m_cd M 0))
        refine aq_if_le ok_r_told rfl (fun hz => ?_) (fun hz => ?_)
        · refine aq_gn (n := 4) (c1 := (44, [some (.ref 0), some (.int (nI t)), some (.int (nI 2)), some (.int (nI 0)), some (.int (nI 0))], [], wM (m_cd M 0))) ok_r_told rfl ?_
          exact lp_told2 (M := m_cd M 0) hM (Nat.lt_of_lt_of_le ht hM.1) 85 0 (by omega) 0
        · exact absurd c_le0 hz
      · exact absurd (by decide) h3
  · exact absurd h bI_t
set_option maxHeartbeats 4000000 in
theorem lp_told3 {d : Nat} {M : MSt} {t : Nat} (hM : WM M) (ht6 : t < 60) : ∀ (f i : Nat), i + f = 85 → ∀ c : Nat,  AW r_told (d + 1) (.inl (some (.int (oI (g_wt M t))))) (wM M) (44, [some (.ref 0), some (.int (nI t)), some (.int (nI 3)), some (.int (nI c)), some (.int (nI i))], [], mL (g_cd M) (g_n M) (g_pr M) (g_st M) (g_he M) (g_wt M) (g_wn M) (g_cv M) (g_qs M) (g_qu M) (g_v5 M) (g_v6 M) (g_v7 M)) := by
  intro f
  induction f with
  | zero =>
    intro i hif c
    refine aq_gn (n := 2) (c1 := (48, [some (.ref 0), some (.int (nI t)), some (.int (nI 3)), some (.int (nI c)), some (.int (nI i))], [.int (nI 85), .int (nI i)], mL (g_cd M) (g_n M) (g_pr M) (g_st M) (g_he M) (g_wt M) (g_wn M) (g_cv M) (g_qs M) (g_qu M) (g_v5 M) (g_v6 M) (g_v7 M))) ok_r_told rfl ?_
    refine aq_icmp_ge ok_r_told rfl (fun h => ?_) (fun h => ?_)
    · refine aq_gn (n := 1) (c1 := (76, [some (.ref 0), some (.int (nI t)), some (.int (nI 3)), some (.int (nI c)), some (.int (nI i))], [.int (nI 3)], mL (g_cd M) (g_n M) (g_pr M) (g_st M) (g_he M) (g_wt M) (g_wn M) (g_cv M) (g_qs M) (g_qu M) (g_v5 M) (g_v6 M) (g_v7 M))) ok_r_told rfl ?_
      refine aq_tabI (tgt := 124) ok_r_told rfl (by decide) (by decide) rfl (by decide) ?_
      refine aq_go (n := 4) (c1 := (130, [some (.ref 0), some (.int (nI t)), some (.int (nI 3)), some (.int (nI c)), some (.int (nI i))], [.int (oI ((g_wt M) (nI t).toNatClampNeg))], mL (g_cd M) (g_n M) (g_pr M) (g_st M) (g_he M) (g_wt M) (g_wn M) (g_cv M) (g_qs M) (g_qu M) (g_v5 M) (g_v6 M) (g_v7 M))) (P := vp_in (nI t) 60) ok_r_told rfl (in60 ht6) ?_
      rw [cl60 ht6]
      exact aq_ei ok_r_told rfl rfl rfl rfl
    · exact absurd (nI_le (show 85 ≤ i by omega) (by omega)) h
  | succ f ih =>
    intro i hif c
    refine aq_gn (n := 2) (c1 := (48, [some (.ref 0), some (.int (nI t)), some (.int (nI 3)), some (.int (nI c)), some (.int (nI i))], [.int (nI 85), .int (nI i)], mL (g_cd M) (g_n M) (g_pr M) (g_st M) (g_he M) (g_wt M) (g_wn M) (g_cv M) (g_qs M) (g_qu M) (g_v5 M) (g_v6 M) (g_v7 M))) ok_r_told rfl ?_
    refine aq_icmp_ge ok_r_told rfl (fun h => ?_) (fun h => ?_)
    · exact absurd (q_le h (by omega) (by omega)) (by omega)
    · refine aq_gn (n := 4) (c1 := (56, [some (.ref 0), some (.int (nI t)), some (.int (nI 3)), some (.int (nI c)), some (.int (nI i))], [.int (nI i), .int (nI t), .ref 0, .int (nI c)], wM M)) ok_r_told rfl ?_
      refine aq_callV (as := [.int (nI t), .int (nI i)]) (st := [.int (nI c)]) ok_r_told rfl c1_r_modeOf (rm_modeOfM ht6 (show i < 85 by omega)) rfl (Nat.le_of_ble_eq_true rfl) rfl rfl rfl ?_
      refine aq_if_lt ok_r_told rfl (fun h2 => ?_) (fun h2 => ?_)
      · refine aq_gn (n := 5) (c1 := (44, [some (.ref 0), some (.int (nI t)), some (.int (nI 3)), some (.int ((nI c) + (nI 0))), some (.int ((nI i) + 1))], [], mL (g_cd M) (g_n M) (g_pr M) (g_st M) (g_he M) (g_wt M) (g_wn M) (g_cv M) (g_qs M) (g_qu M) (g_v5 M) (g_v6 M) (g_v7 M))) ok_r_told rfl ?_
        rw [nI_add, nI_1]
        have e : cnt (fun i => !decide (mdI (g_he M) t i < 0)) (f + 1) i c = cnt (fun i => !decide (mdI (g_he M) t i < 0)) f (i + 1) (c + 0) := by rw [cnt]; simp [h2]
        try rw [e]
        exact ih (i + 1) (by omega) _
      · refine aq_gn (n := 6) (c1 := (44, [some (.ref 0), some (.int (nI t)), some (.int (nI 3)), some (.int ((nI c) + (nI 1))), some (.int ((nI i) + 1))], [], mL (g_cd M) (g_n M) (g_pr M) (g_st M) (g_he M) (g_wt M) (g_wn M) (g_cv M) (g_qs M) (g_qu M) (g_v5 M) (g_v6 M) (g_v7 M))) ok_r_told rfl ?_
        rw [nI_add, nI_1]
        have e : cnt (fun i => !decide (mdI (g_he M) t i < 0)) (f + 1) i c = cnt (fun i => !decide (mdI (g_he M) t i < 0)) f (i + 1) (c + 1) := by rw [cnt]; simp [h2]
        try rw [e]
        exact ih (i + 1) (by omega) _
set_option maxHeartbeats 4000000 in
theorem rm_told3 {d : Nat} {M : MSt} {t : Nat} (hM : WM M) (ht : t < g_n M) : AM r_told (d + 1) (.inl (some (.int (oI (g_wt M t))))) [.ref 0, .int (nI t), .int (nI 3)] (wM M) (wM (m_cd M 0)) := by
  refine aq_enter pl_r_told (Nat.le_of_ble_eq_true rfl) ?_
  refine aq_gn (n := 3) (c1 := (3, [some (.ref 0), some (.int (nI t)), some (.int (nI 3)), none, none], [.int (nI t), .ref 0, .ref 0], wM M)) ok_r_told rfl ?_
  refine aq_callV (as := [.int (nI t)]) (st := [.ref 0]) ok_r_told rfl c1_r_isTransaction (rm_isTransactionM (nI t)) rfl (Nat.le_of_ble_eq_true rfl) rfl rfl rfl ?_
  rw [isT_in ht (show g_n M < 2 ^ 31 by have := hM.1; omega)]
  refine aq_if_ne ok_r_told rfl (fun h => ?_) (fun h => ?_)
  · show AW r_told _ _ _ (13, [some (.ref 0), some (.int (nI t)), some (.int (nI 3)), none, none], [.ref 0], mL (g_cd M) (g_n M) (g_pr M) (g_st M) (g_he M) (g_wt M) (g_wn M) (g_cv M) (g_qs M) (g_qu M) (g_v5 M) (g_v6 M) (g_v7 M))
    refine aq_gn (n := 1) (c1 := (14, [some (.ref 0), some (.int (nI t)), some (.int (nI 3)), none, none], [.int (nI 3), .ref 0], mL (g_cd M) (g_n M) (g_pr M) (g_st M) (g_he M) (g_wt M) (g_wn M) (g_cv M) (g_qs M) (g_qu M) (g_v5 M) (g_v6 M) (g_v7 M))) ok_r_told rfl ?_
    refine aq_if_lt ok_r_told rfl (fun h2 => ?_) (fun h2 => ?_)
    · exact absurd h2 (by decide)
    · refine aq_gn (n := 2) (c1 := (19, [some (.ref 0), some (.int (nI t)), some (.int (nI 3)), none, none], [.int (nI 4), .int (nI 3), .ref 0], mL (g_cd M) (g_n M) (g_pr M) (g_st M) (g_he M) (g_wt M) (g_wn M) (g_cv M) (g_qs M) (g_qu M) (g_v5 M) (g_v6 M) (g_v7 M))) ok_r_told rfl ?_
      refine aq_icmp_le ok_r_told rfl (fun h3 => ?_) (fun h3 => ?_)
      · refine aq_go (n := 4) (c1 := (34, [some (.ref 0), some (.int (nI t)), some (.int (nI 3)), none, none], [.int (nI 0)], mR (nI 0) (nI (g_n M)) (fun ι => nI ((g_pr M) ι)) (fun ι => nI ((g_st M) ι)) (fun ι => oI ((g_he M) ι)) (fun ι => oI ((g_wt M) ι)) (fun ι => nI ((g_wn M) ι)) (fun ι => bI ((g_cv M) ι)) (fun ι => nI ((g_qs M) ι)) (fun ι => nI ((g_qu M) ι)) (nI (g_v5 M)) (nI (g_v6 M)) (nI (g_v7 M)))) (P := aq_fi 1 0 = true) ok_r_told rfl fi1_0 ?_
        show AW r_told _ _ _ (34, [some (.ref 0), some (.int (nI t)), some (.int (nI 3)), none, none], [.int (nI 0)], wM (m_cd M 0))
        refine aq_if_le ok_r_told rfl (fun hz => ?_) (fun hz => ?_)
        · refine aq_gn (n := 4) (c1 := (44, [some (.ref 0), some (.int (nI t)), some (.int (nI 3)), some (.int (nI 0)), some (.int (nI 0))], [], wM (m_cd M 0))) ok_r_told rfl ?_
          exact lp_told3 (M := m_cd M 0) hM (Nat.lt_of_lt_of_le ht hM.1) 85 0 (by omega) 0
        · exact absurd c_le0 hz
      · exact absurd (by decide) h3
  · exact absurd h bI_t
set_option maxHeartbeats 4000000 in
theorem lp_told4 {d : Nat} {M : MSt} {t : Nat} (hM : WM M) (ht6 : t < 60) : ∀ (f i : Nat), i + f = 85 → ∀ c : Nat,  AW r_told (d + 1) (.inl (some (.int (if g_wt M t = none then -1 else nI (g_wn M t))))) (wM M) (44, [some (.ref 0), some (.int (nI t)), some (.int (nI 4)), some (.int (nI c)), some (.int (nI i))], [], mL (g_cd M) (g_n M) (g_pr M) (g_st M) (g_he M) (g_wt M) (g_wn M) (g_cv M) (g_qs M) (g_qu M) (g_v5 M) (g_v6 M) (g_v7 M)) := by
  intro f
  induction f with
  | zero =>
    intro i hif c
    refine aq_gn (n := 2) (c1 := (48, [some (.ref 0), some (.int (nI t)), some (.int (nI 4)), some (.int (nI c)), some (.int (nI i))], [.int (nI 85), .int (nI i)], mL (g_cd M) (g_n M) (g_pr M) (g_st M) (g_he M) (g_wt M) (g_wn M) (g_cv M) (g_qs M) (g_qu M) (g_v5 M) (g_v6 M) (g_v7 M))) ok_r_told rfl ?_
    refine aq_icmp_ge ok_r_told rfl (fun h => ?_) (fun h => ?_)
    · refine aq_gn (n := 1) (c1 := (76, [some (.ref 0), some (.int (nI t)), some (.int (nI 4)), some (.int (nI c)), some (.int (nI i))], [.int (nI 4)], mL (g_cd M) (g_n M) (g_pr M) (g_st M) (g_he M) (g_wt M) (g_wn M) (g_cv M) (g_qs M) (g_qu M) (g_v5 M) (g_v6 M) (g_v7 M))) ok_r_told rfl ?_
      refine aq_tabO (tgt := 131) ok_r_told rfl (Or.inr (by decide)) (by decide) ?_
      refine aq_go (n := 4) (c1 := (137, [some (.ref 0), some (.int (nI t)), some (.int (nI 4)), some (.int (nI c)), some (.int (nI i))], [.int (oI ((g_wt M) (nI t).toNatClampNeg))], mL (g_cd M) (g_n M) (g_pr M) (g_st M) (g_he M) (g_wt M) (g_wn M) (g_cv M) (g_qs M) (g_qu M) (g_v5 M) (g_v6 M) (g_v7 M))) (P := vp_in (nI t) 60) ok_r_told rfl (in60 ht6) ?_
      rw [cl60 ht6]
      refine aq_if_ge ok_r_told rfl (fun h2 => ?_) (fun h2 => ?_)
      · obtain ⟨q, hq⟩ := oI_ge h2
        refine aq_go (n := 4) (c1 := (150, [some (.ref 0), some (.int (nI t)), some (.int (nI 4)), some (.int (nI c)), some (.int (nI i))], [.int (nI ((g_wn M) (nI t).toNatClampNeg))], mL (g_cd M) (g_n M) (g_pr M) (g_st M) (g_he M) (g_wt M) (g_wn M) (g_cv M) (g_qs M) (g_qu M) (g_v5 M) (g_v6 M) (g_v7 M))) (P := vp_in (nI t) 60) ok_r_told rfl (in60 ht6) ?_
        rw [cl60 ht6]
        exact aq_ei ok_r_told rfl rfl (by rw [if_neg (by rw [hq]; intro q; cases q)]) rfl
      · have hq := oI_nge h2 (fun x q => by have := hM.2.2.2.1 t x q; omega)
        refine aq_gn (n := 2) (c1 := (150, [some (.ref 0), some (.int (nI t)), some (.int (nI 4)), some (.int (nI c)), some (.int (nI i))], [.int (-1)], mL (g_cd M) (g_n M) (g_pr M) (g_st M) (g_he M) (g_wt M) (g_wn M) (g_cv M) (g_qs M) (g_qu M) (g_v5 M) (g_v6 M) (g_v7 M))) ok_r_told rfl ?_
        exact aq_ei ok_r_told rfl rfl (by rw [if_pos hq]) rfl
    · exact absurd (nI_le (show 85 ≤ i by omega) (by omega)) h
  | succ f ih =>
    intro i hif c
    refine aq_gn (n := 2) (c1 := (48, [some (.ref 0), some (.int (nI t)), some (.int (nI 4)), some (.int (nI c)), some (.int (nI i))], [.int (nI 85), .int (nI i)], mL (g_cd M) (g_n M) (g_pr M) (g_st M) (g_he M) (g_wt M) (g_wn M) (g_cv M) (g_qs M) (g_qu M) (g_v5 M) (g_v6 M) (g_v7 M))) ok_r_told rfl ?_
    refine aq_icmp_ge ok_r_told rfl (fun h => ?_) (fun h => ?_)
    · exact absurd (q_le h (by omega) (by omega)) (by omega)
    · refine aq_gn (n := 4) (c1 := (56, [some (.ref 0), some (.int (nI t)), some (.int (nI 4)), some (.int (nI c)), some (.int (nI i))], [.int (nI i), .int (nI t), .ref 0, .int (nI c)], wM M)) ok_r_told rfl ?_
      refine aq_callV (as := [.int (nI t), .int (nI i)]) (st := [.int (nI c)]) ok_r_told rfl c1_r_modeOf (rm_modeOfM ht6 (show i < 85 by omega)) rfl (Nat.le_of_ble_eq_true rfl) rfl rfl rfl ?_
      refine aq_if_lt ok_r_told rfl (fun h2 => ?_) (fun h2 => ?_)
      · refine aq_gn (n := 5) (c1 := (44, [some (.ref 0), some (.int (nI t)), some (.int (nI 4)), some (.int ((nI c) + (nI 0))), some (.int ((nI i) + 1))], [], mL (g_cd M) (g_n M) (g_pr M) (g_st M) (g_he M) (g_wt M) (g_wn M) (g_cv M) (g_qs M) (g_qu M) (g_v5 M) (g_v6 M) (g_v7 M))) ok_r_told rfl ?_
        rw [nI_add, nI_1]
        have e : cnt (fun i => !decide (mdI (g_he M) t i < 0)) (f + 1) i c = cnt (fun i => !decide (mdI (g_he M) t i < 0)) f (i + 1) (c + 0) := by rw [cnt]; simp [h2]
        try rw [e]
        exact ih (i + 1) (by omega) _
      · refine aq_gn (n := 6) (c1 := (44, [some (.ref 0), some (.int (nI t)), some (.int (nI 4)), some (.int ((nI c) + (nI 1))), some (.int ((nI i) + 1))], [], mL (g_cd M) (g_n M) (g_pr M) (g_st M) (g_he M) (g_wt M) (g_wn M) (g_cv M) (g_qs M) (g_qu M) (g_v5 M) (g_v6 M) (g_v7 M))) ok_r_told rfl ?_
        rw [nI_add, nI_1]
        have e : cnt (fun i => !decide (mdI (g_he M) t i < 0)) (f + 1) i c = cnt (fun i => !decide (mdI (g_he M) t i < 0)) f (i + 1) (c + 1) := by rw [cnt]; simp [h2]
        try rw [e]
        exact ih (i + 1) (by omega) _
set_option maxHeartbeats 4000000 in
theorem rm_told4 {d : Nat} {M : MSt} {t : Nat} (hM : WM M) (ht : t < g_n M) : AM r_told (d + 1) (.inl (some (.int (if g_wt M t = none then -1 else nI (g_wn M t))))) [.ref 0, .int (nI t), .int (nI 4)] (wM M) (wM (m_cd M 0)) := by
  refine aq_enter pl_r_told (Nat.le_of_ble_eq_true rfl) ?_
  refine aq_gn (n := 3) (c1 := (3, [some (.ref 0), some (.int (nI t)), some (.int (nI 4)), none, none], [.int (nI t), .ref 0, .ref 0], wM M)) ok_r_told rfl ?_
  refine aq_callV (as := [.int (nI t)]) (st := [.ref 0]) ok_r_told rfl c1_r_isTransaction (rm_isTransactionM (nI t)) rfl (Nat.le_of_ble_eq_true rfl) rfl rfl rfl ?_
  rw [isT_in ht (show g_n M < 2 ^ 31 by have := hM.1; omega)]
  refine aq_if_ne ok_r_told rfl (fun h => ?_) (fun h => ?_)
  · show AW r_told _ _ _ (13, [some (.ref 0), some (.int (nI t)), some (.int (nI 4)), none, none], [.ref 0], mL (g_cd M) (g_n M) (g_pr M) (g_st M) (g_he M) (g_wt M) (g_wn M) (g_cv M) (g_qs M) (g_qu M) (g_v5 M) (g_v6 M) (g_v7 M))
    refine aq_gn (n := 1) (c1 := (14, [some (.ref 0), some (.int (nI t)), some (.int (nI 4)), none, none], [.int (nI 4), .ref 0], mL (g_cd M) (g_n M) (g_pr M) (g_st M) (g_he M) (g_wt M) (g_wn M) (g_cv M) (g_qs M) (g_qu M) (g_v5 M) (g_v6 M) (g_v7 M))) ok_r_told rfl ?_
    refine aq_if_lt ok_r_told rfl (fun h2 => ?_) (fun h2 => ?_)
    · exact absurd h2 (by decide)
    · refine aq_gn (n := 2) (c1 := (19, [some (.ref 0), some (.int (nI t)), some (.int (nI 4)), none, none], [.int (nI 4), .int (nI 4), .ref 0], mL (g_cd M) (g_n M) (g_pr M) (g_st M) (g_he M) (g_wt M) (g_wn M) (g_cv M) (g_qs M) (g_qu M) (g_v5 M) (g_v6 M) (g_v7 M))) ok_r_told rfl ?_
      refine aq_icmp_le ok_r_told rfl (fun h3 => ?_) (fun h3 => ?_)
      · refine aq_go (n := 4) (c1 := (34, [some (.ref 0), some (.int (nI t)), some (.int (nI 4)), none, none], [.int (nI 0)], mR (nI 0) (nI (g_n M)) (fun ι => nI ((g_pr M) ι)) (fun ι => nI ((g_st M) ι)) (fun ι => oI ((g_he M) ι)) (fun ι => oI ((g_wt M) ι)) (fun ι => nI ((g_wn M) ι)) (fun ι => bI ((g_cv M) ι)) (fun ι => nI ((g_qs M) ι)) (fun ι => nI ((g_qu M) ι)) (nI (g_v5 M)) (nI (g_v6 M)) (nI (g_v7 M)))) (P := aq_fi 1 0 = true) ok_r_told rfl fi1_0 ?_
        show AW r_told _ _ _ (34, [some (.ref 0), some (.int (nI t)), some (.int (nI 4)), none, none], [.int (nI 0)], wM (m_cd M 0))
        refine aq_if_le ok_r_told rfl (fun hz => ?_) (fun hz => ?_)
        · refine aq_gn (n := 4) (c1 := (44, [some (.ref 0), some (.int (nI t)), some (.int (nI 4)), some (.int (nI 0)), some (.int (nI 0))], [], wM (m_cd M 0))) ok_r_told rfl ?_
          exact lp_told4 (M := m_cd M 0) hM (Nat.lt_of_lt_of_le ht hM.1) 85 0 (by omega) 0
        · exact absurd c_le0 hz
      · exact absurd (by decide) h3
  · exact absurd h bI_t
set_option maxHeartbeats 4000000 in
theorem rm_told_t {d : Nat} {M : MSt} {x y : Int32} (hx : x < 0 ∨ nI (g_n M) ≤ x) : AM r_told (d + 1) (.inl (some (.int (nI 0)))) [.ref 0, .int x, .int y] (wM M) (wM (m_cd M 1)) := by
  refine aq_enter pl_r_told (Nat.le_of_ble_eq_true rfl) ?_
  refine aq_gn (n := 3) (c1 := (3, [some (.ref 0), some (.int x), some (.int y), none, none], [.int x, .ref 0, .ref 0], wM M)) ok_r_told rfl ?_
  refine aq_callV (as := [.int x]) (st := [.ref 0]) ok_r_told rfl c1_r_isTransaction (rm_isTransactionM x) rfl (Nat.le_of_ble_eq_true rfl) rfl rfl rfl ?_
  rw [isT_out hx]
  refine aq_if_ne ok_r_told rfl (fun h => ?_) (fun h => ?_)
  · exact absurd rfl h
  · show AW r_told _ _ _ (9, [some (.ref 0), some (.int x), some (.int y), none, none], [.ref 0], mL (g_cd M) (g_n M) (g_pr M) (g_st M) (g_he M) (g_wt M) (g_wn M) (g_cv M) (g_qs M) (g_qu M) (g_v5 M) (g_v6 M) (g_v7 M))
    refine aq_go (n := 5) (c1 := (34, [some (.ref 0), some (.int x), some (.int y), none, none], [.int (nI 1)], mR (nI 1) (nI (g_n M)) (fun ι => nI ((g_pr M) ι)) (fun ι => nI ((g_st M) ι)) (fun ι => oI ((g_he M) ι)) (fun ι => oI ((g_wt M) ι)) (fun ι => nI ((g_wn M) ι)) (fun ι => bI ((g_cv M) ι)) (fun ι => nI ((g_qs M) ι)) (fun ι => nI ((g_qu M) ι)) (nI (g_v5 M)) (nI (g_v6 M)) (nI (g_v7 M)))) (P := aq_fi 1 0 = true) ok_r_told rfl fi1_0 ?_
    show AW r_told _ _ _ (34, [some (.ref 0), some (.int x), some (.int y), none, none], [.int (nI 1)], wM (m_cd M 1))
    refine aq_if_le ok_r_told rfl (fun hz => ?_) (fun hz => ?_)
    · exact absurd hz c_le1
    · refine aq_gn (n := 1) (c1 := (38, [some (.ref 0), some (.int x), some (.int y), none, none], [.int (nI 0)], wM (m_cd M 1))) ok_r_told rfl ?_
      exact aq_ei ok_r_told rfl rfl rfl rfl
set_option maxHeartbeats 4000000 in
theorem rm_told_w {d : Nat} {M : MSt} {t : Nat} {y : Int32} (hM : WM M) (ht : t < g_n M) (hy : y.toInt < 0 ∨ 4 < y.toInt) : AM r_told (d + 1) (.inl (some (.int (nI 0)))) [.ref 0, .int (nI t), .int y] (wM M) (wM (m_cd M 2)) := by
  refine aq_enter pl_r_told (Nat.le_of_ble_eq_true rfl) ?_
  refine aq_gn (n := 3) (c1 := (3, [some (.ref 0), some (.int (nI t)), some (.int y), none, none], [.int (nI t), .ref 0, .ref 0], wM M)) ok_r_told rfl ?_
  refine aq_callV (as := [.int (nI t)]) (st := [.ref 0]) ok_r_told rfl c1_r_isTransaction (rm_isTransactionM (nI t)) rfl (Nat.le_of_ble_eq_true rfl) rfl rfl rfl ?_
  rw [isT_in ht (show g_n M < 2 ^ 31 by have := hM.1; omega)]
  refine aq_if_ne ok_r_told rfl (fun h => ?_) (fun h => ?_)
  · show AW r_told _ _ _ (13, [some (.ref 0), some (.int (nI t)), some (.int y), none, none], [.ref 0], mL (g_cd M) (g_n M) (g_pr M) (g_st M) (g_he M) (g_wt M) (g_wn M) (g_cv M) (g_qs M) (g_qu M) (g_v5 M) (g_v6 M) (g_v7 M))
    refine aq_gn (n := 1) (c1 := (14, [some (.ref 0), some (.int (nI t)), some (.int y), none, none], [.int y, .ref 0], mL (g_cd M) (g_n M) (g_pr M) (g_st M) (g_he M) (g_wt M) (g_wn M) (g_cv M) (g_qs M) (g_qu M) (g_v5 M) (g_v6 M) (g_v7 M))) ok_r_told rfl ?_
    refine aq_if_lt ok_r_told rfl (fun h2 => ?_) (fun h2 => ?_)
    · refine aq_go (n := 5) (c1 := (34, [some (.ref 0), some (.int (nI t)), some (.int y), none, none], [.int (nI 2)], mR (nI 2) (nI (g_n M)) (fun ι => nI ((g_pr M) ι)) (fun ι => nI ((g_st M) ι)) (fun ι => oI ((g_he M) ι)) (fun ι => oI ((g_wt M) ι)) (fun ι => nI ((g_wn M) ι)) (fun ι => bI ((g_cv M) ι)) (fun ι => nI ((g_qs M) ι)) (fun ι => nI ((g_qu M) ι)) (nI (g_v5 M)) (nI (g_v6 M)) (nI (g_v7 M)))) (P := aq_fi 1 0 = true) ok_r_told rfl fi1_0 ?_
      show AW r_told _ _ _ (34, [some (.ref 0), some (.int (nI t)), some (.int y), none, none], [.int (nI 2)], wM (m_cd M 2))
      refine aq_if_le ok_r_told rfl (fun hz => ?_) (fun hz => ?_)
      · exact absurd hz c_le2
      · refine aq_gn (n := 1) (c1 := (38, [some (.ref 0), some (.int (nI t)), some (.int y), none, none], [.int (nI 0)], wM (m_cd M 2))) ok_r_told rfl ?_
        exact aq_ei ok_r_told rfl rfl rfl rfl
    · refine aq_gn (n := 2) (c1 := (19, [some (.ref 0), some (.int (nI t)), some (.int y), none, none], [.int (nI 4), .int y, .ref 0], mL (g_cd M) (g_n M) (g_pr M) (g_st M) (g_he M) (g_wt M) (g_wn M) (g_cv M) (g_qs M) (g_qu M) (g_v5 M) (g_v6 M) (g_v7 M))) ok_r_told rfl ?_
      refine aq_icmp_le ok_r_told rfl (fun h3 => ?_) (fun h3 => ?_)
      · exact absurd hy (fun q => q.elim (fun q => h2 (Int32.lt_iff_toInt_lt.mpr (by simpa using q))) (fun q => I_gt (Int32.lt_iff_toInt_lt.mpr (by rw [show (nI 4).toInt = 4 by decide]; exact q)) h3))
      · refine aq_go (n := 5) (c1 := (34, [some (.ref 0), some (.int (nI t)), some (.int y), none, none], [.int (nI 2)], mR (nI 2) (nI (g_n M)) (fun ι => nI ((g_pr M) ι)) (fun ι => nI ((g_st M) ι)) (fun ι => oI ((g_he M) ι)) (fun ι => oI ((g_wt M) ι)) (fun ι => nI ((g_wn M) ι)) (fun ι => bI ((g_cv M) ι)) (fun ι => nI ((g_qs M) ι)) (fun ι => nI ((g_qu M) ι)) (nI (g_v5 M)) (nI (g_v6 M)) (nI (g_v7 M)))) (P := aq_fi 1 0 = true) ok_r_told rfl fi1_0 ?_
        show AW r_told _ _ _ (34, [some (.ref 0), some (.int (nI t)), some (.int y), none, none], [.int (nI 2)], wM (m_cd M 2))
        refine aq_if_le ok_r_told rfl (fun hz => ?_) (fun hz => ?_)
        · exact absurd hz c_le2
        · refine aq_gn (n := 1) (c1 := (38, [some (.ref 0), some (.int (nI t)), some (.int y), none, none], [.int (nI 0)], wM (m_cd M 2))) ok_r_told rfl ?_
          exact aq_ei ok_r_told rfl rfl rfl rfl
  · exact absurd h bI_t
set_option maxHeartbeats 4000000 in
theorem rm_many_o {d : Nat} {M : MSt} {y z : Int32} (hy : y < 0 ∨ nI 85 ≤ y) : AM r_many (d + 1) (.inl (some (.int (nI 0)))) [.ref 0, .int y, .int z] (wM M) (wM (m_cd M 1)) := by
  refine aq_enter pl_r_many (Nat.le_of_ble_eq_true rfl) ?_
  refine aq_gn (n := 2) (c1 := (2, [some (.ref 0), some (.int y), some (.int z), none, none], [.int y, .ref 0], wM M)) ok_r_many rfl ?_
  refine aq_callS (as := [.int y]) (st := [.ref 0]) ok_r_many rfl c1_r_isObject (rm_isObject y) rfl (Nat.le_of_ble_eq_true rfl) ?_
  rw [isT_out hy]
  refine aq_if_eq ok_r_many rfl (fun h2 => ?_) (fun h2 => ?_)
  · show AW r_many _ _ _ (12, [some (.ref 0), some (.int y), some (.int z), none, none], [.ref 0], mL (g_cd M) (g_n M) (g_pr M) (g_st M) (g_he M) (g_wt M) (g_wn M) (g_cv M) (g_qs M) (g_qu M) (g_v5 M) (g_v6 M) (g_v7 M))
    refine aq_go (n := 4) (c1 := (20, [some (.ref 0), some (.int y), some (.int z), none, none], [.int (nI 1)], mR (nI 1) (nI (g_n M)) (fun ι => nI ((g_pr M) ι)) (fun ι => nI ((g_st M) ι)) (fun ι => oI ((g_he M) ι)) (fun ι => oI ((g_wt M) ι)) (fun ι => nI ((g_wn M) ι)) (fun ι => bI ((g_cv M) ι)) (fun ι => nI ((g_qs M) ι)) (fun ι => nI ((g_qu M) ι)) (nI (g_v5 M)) (nI (g_v6 M)) (nI (g_v7 M)))) (P := aq_fi 1 0 = true) ok_r_many rfl fi1_0 ?_
    show AW r_many _ _ _ (20, [some (.ref 0), some (.int y), some (.int z), none, none], [.int (nI 1)], wM (m_cd M 1))
    refine aq_if_le ok_r_many rfl (fun hz => ?_) (fun hz => ?_)
    · exact absurd hz c_le1
    · refine aq_gn (n := 1) (c1 := (24, [some (.ref 0), some (.int y), some (.int z), none, none], [.int (nI 0)], wM (m_cd M 1))) ok_r_many rfl ?_
      exact aq_ei ok_r_many rfl rfl rfl rfl
  · exact absurd rfl h2
set_option maxHeartbeats 4000000 in
theorem lp_many {d : Nat} {M : MSt} {o : Nat} {b : Bool} (hM : WM M) (hn : g_n M ≤ 60) (ho : o < 85) : ∀ (f i : Nat), i + f = g_n M → ∀ c : Nat,  AW r_many (d + 1) (.inl (some (.int (if b then nI (g_qs M o) else nI (cnt (fun i => !decide (mdI (g_he M) i o < 0)) f i c))))) (wM M) (30, [some (.ref 0), some (.int (nI o)), some (.int (bI b)), some (.int (nI c)), some (.int (nI i))], [], mL (g_cd M) (g_n M) (g_pr M) (g_st M) (g_he M) (g_wt M) (g_wn M) (g_cv M) (g_qs M) (g_qu M) (g_v5 M) (g_v6 M) (g_v7 M)) := by
  intro f
  induction f with
  | zero =>
    intro i hif c
    refine aq_gn (n := 3) (c1 := (36, [some (.ref 0), some (.int (nI o)), some (.int (bI b)), some (.int (nI c)), some (.int (nI i))], [.int (nI (g_n M)), .int (nI i)], mL (g_cd M) (g_n M) (g_pr M) (g_st M) (g_he M) (g_wt M) (g_wn M) (g_cv M) (g_qs M) (g_qu M) (g_v5 M) (g_v6 M) (g_v7 M))) ok_r_many rfl ?_
    refine aq_icmp_ge ok_r_many rfl (fun h => ?_) (fun h => ?_)
    · refine aq_gn (n := 1) (c1 := (64, [some (.ref 0), some (.int (nI o)), some (.int (bI b)), some (.int (nI c)), some (.int (nI i))], [.int (bI b)], mL (g_cd M) (g_n M) (g_pr M) (g_st M) (g_he M) (g_wt M) (g_wn M) (g_cv M) (g_qs M) (g_qu M) (g_v5 M) (g_v6 M) (g_v7 M))) ok_r_many rfl ?_
      refine aq_if_eq ok_r_many rfl (fun h2 => ?_) (fun h2 => ?_)
      · have hb := (bI_0 _).mp h2
        subst hb
        refine aq_gn (n := 1) (c1 := (77, [some (.ref 0), some (.int (nI o)), some (.int (bI false)), some (.int (nI c)), some (.int (nI i))], [.int (nI c)], mL (g_cd M) (g_n M) (g_pr M) (g_st M) (g_he M) (g_wt M) (g_wn M) (g_cv M) (g_qs M) (g_qu M) (g_v5 M) (g_v6 M) (g_v7 M))) ok_r_many rfl ?_
        exact aq_ei ok_r_many rfl rfl rfl rfl
      · have hb : b = true := by cases b with | true => rfl | false => exact absurd rfl h2
        subst hb
        refine aq_go (n := 5) (c1 := (77, [some (.ref 0), some (.int (nI o)), some (.int (bI true)), some (.int (nI c)), some (.int (nI i))], [.int (nI ((g_qs M) (nI o).toNatClampNeg))], mL (g_cd M) (g_n M) (g_pr M) (g_st M) (g_he M) (g_wt M) (g_wn M) (g_cv M) (g_qs M) (g_qu M) (g_v5 M) (g_v6 M) (g_v7 M))) (P := vp_in (nI o) 85) ok_r_many rfl (inN ho (by omega)) ?_
        rw [clN (show o < 6000 by omega)]
        exact aq_ei ok_r_many rfl rfl rfl rfl
    · exact absurd (nI_le (show g_n M ≤ i by omega) (by omega)) h
  | succ f ih =>
    intro i hif c
    refine aq_gn (n := 3) (c1 := (36, [some (.ref 0), some (.int (nI o)), some (.int (bI b)), some (.int (nI c)), some (.int (nI i))], [.int (nI (g_n M)), .int (nI i)], mL (g_cd M) (g_n M) (g_pr M) (g_st M) (g_he M) (g_wt M) (g_wn M) (g_cv M) (g_qs M) (g_qu M) (g_v5 M) (g_v6 M) (g_v7 M))) ok_r_many rfl ?_
    refine aq_icmp_ge ok_r_many rfl (fun h => ?_) (fun h => ?_)
    · exact absurd (q_le h (by omega) (by omega)) (by omega)
    · refine aq_gn (n := 4) (c1 := (44, [some (.ref 0), some (.int (nI o)), some (.int (bI b)), some (.int (nI c)), some (.int (nI i))], [.int (nI o), .int (nI i), .ref 0, .int (nI c)], wM M)) ok_r_many rfl ?_
      refine aq_callV (as := [.int (nI i), .int (nI o)]) (st := [.int (nI c)]) ok_r_many rfl c1_r_modeOf (rm_modeOfM (show i < 60 by omega) ho) rfl (Nat.le_of_ble_eq_true rfl) rfl rfl rfl ?_
      refine aq_if_lt ok_r_many rfl (fun h2 => ?_) (fun h2 => ?_)
      · refine aq_gn (n := 5) (c1 := (30, [some (.ref 0), some (.int (nI o)), some (.int (bI b)), some (.int ((nI c) + (nI 0))), some (.int ((nI i) + 1))], [], mL (g_cd M) (g_n M) (g_pr M) (g_st M) (g_he M) (g_wt M) (g_wn M) (g_cv M) (g_qs M) (g_qu M) (g_v5 M) (g_v6 M) (g_v7 M))) ok_r_many rfl ?_
        rw [nI_add, nI_1]
        have e : cnt (fun i => !decide (mdI (g_he M) i o < 0)) (f + 1) i c = cnt (fun i => !decide (mdI (g_he M) i o < 0)) f (i + 1) (c + 0) := by rw [cnt]; simp [h2]
        try rw [e]
        exact ih (i + 1) (by omega) _
      · refine aq_gn (n := 6) (c1 := (30, [some (.ref 0), some (.int (nI o)), some (.int (bI b)), some (.int ((nI c) + (nI 1))), some (.int ((nI i) + 1))], [], mL (g_cd M) (g_n M) (g_pr M) (g_st M) (g_he M) (g_wt M) (g_wn M) (g_cv M) (g_qs M) (g_qu M) (g_v5 M) (g_v6 M) (g_v7 M))) ok_r_many rfl ?_
        rw [nI_add, nI_1]
        have e : cnt (fun i => !decide (mdI (g_he M) i o < 0)) (f + 1) i c = cnt (fun i => !decide (mdI (g_he M) i o < 0)) f (i + 1) (c + 1) := by rw [cnt]; simp [h2]
        try rw [e]
        exact ih (i + 1) (by omega) _
set_option maxHeartbeats 4000000 in
theorem rm_many {d : Nat} {M : MSt} {o : Nat} {b : Bool} (hM : WM M) (ho : o < 85) : AM r_many (d + 1) (.inl (some (.int (if b then nI (g_qs M o) else nI (cnt (fun i => !decide (mdI (g_he M) i o < 0)) (g_n M) 0 0))))) [.ref 0, .int (nI o), .int (bI b)] (wM M) (wM (m_cd M 0)) := by
  refine aq_enter pl_r_many (Nat.le_of_ble_eq_true rfl) ?_
  refine aq_gn (n := 2) (c1 := (2, [some (.ref 0), some (.int (nI o)), some (.int (bI b)), none, none], [.int (nI o), .ref 0], wM M)) ok_r_many rfl ?_
  refine aq_callS (as := [.int (nI o)]) (st := [.ref 0]) ok_r_many rfl c1_r_isObject (rm_isObject (nI o)) rfl (Nat.le_of_ble_eq_true rfl) ?_
  rw [isT_in ho (by omega)]
  refine aq_if_eq ok_r_many rfl (fun h2 => ?_) (fun h2 => ?_)
  · exact absurd h2 bI_t
  · show AW r_many _ _ _ (8, [some (.ref 0), some (.int (nI o)), some (.int (bI b)), none, none], [.ref 0], mL (g_cd M) (g_n M) (g_pr M) (g_st M) (g_he M) (g_wt M) (g_wn M) (g_cv M) (g_qs M) (g_qu M) (g_v5 M) (g_v6 M) (g_v7 M))
    refine aq_go (n := 5) (c1 := (20, [some (.ref 0), some (.int (nI o)), some (.int (bI b)), none, none], [.int (nI 0)], mR (nI 0) (nI (g_n M)) (fun ι => nI ((g_pr M) ι)) (fun ι => nI ((g_st M) ι)) (fun ι => oI ((g_he M) ι)) (fun ι => oI ((g_wt M) ι)) (fun ι => nI ((g_wn M) ι)) (fun ι => bI ((g_cv M) ι)) (fun ι => nI ((g_qs M) ι)) (fun ι => nI ((g_qu M) ι)) (nI (g_v5 M)) (nI (g_v6 M)) (nI (g_v7 M)))) (P := aq_fi 1 0 = true) ok_r_many rfl fi1_0 ?_
    show AW r_many _ _ _ (20, [some (.ref 0), some (.int (nI o)), some (.int (bI b)), none, none], [.int (nI 0)], wM (m_cd M 0))
    refine aq_if_le ok_r_many rfl (fun hz => ?_) (fun hz => ?_)
    · refine aq_gn (n := 4) (c1 := (30, [some (.ref 0), some (.int (nI o)), some (.int (bI b)), some (.int (nI 0)), some (.int (nI 0))], [], wM (m_cd M 0))) ok_r_many rfl ?_
      exact lp_many (M := m_cd M 0) hM hM.1 ho (g_n M) 0 (Nat.zero_add _) 0
    · exact absurd c_le0 hz
set_option maxHeartbeats 4000000 in
theorem lp_count0 {d : Nat} {M : MSt} (hn : g_n M ≤ 60) : ∀ (f i : Nat), i + f = g_n M → ∀ c : Nat,  AW r_count (d) (.inl (some (.int (nI (g_n M))))) (wM M) (9, [some (.ref 0), some (.int (nI 0)), some (.int (nI c)), some (.int (nI i))], [], mL (g_cd M) (g_n M) (g_pr M) (g_st M) (g_he M) (g_wt M) (g_wn M) (g_cv M) (g_qs M) (g_qu M) (g_v5 M) (g_v6 M) (g_v7 M)) := by
  intro f
  induction f with
  | zero =>
    intro i hif c
    refine aq_gn (n := 3) (c1 := (14, [some (.ref 0), some (.int (nI 0)), some (.int (nI c)), some (.int (nI i))], [.int (nI (g_n M)), .int (nI i)], mL (g_cd M) (g_n M) (g_pr M) (g_st M) (g_he M) (g_wt M) (g_wn M) (g_cv M) (g_qs M) (g_qu M) (g_v5 M) (g_v6 M) (g_v7 M))) ok_r_count rfl ?_
    refine aq_icmp_ge ok_r_count rfl (fun h => ?_) (fun h => ?_)
    · refine aq_gn (n := 1) (c1 := (44, [some (.ref 0), some (.int (nI 0)), some (.int (nI c)), some (.int (nI i))], [.int (nI 0)], mL (g_cd M) (g_n M) (g_pr M) (g_st M) (g_he M) (g_wt M) (g_wn M) (g_cv M) (g_qs M) (g_qu M) (g_v5 M) (g_v6 M) (g_v7 M))) ok_r_count rfl ?_
      refine aq_tabI (tgt := 92) ok_r_count rfl (by decide) (by decide) rfl (by decide) ?_
      refine aq_gn (n := 2) (c1 := (96, [some (.ref 0), some (.int (nI 0)), some (.int (nI c)), some (.int (nI i))], [.int (nI (g_n M))], mL (g_cd M) (g_n M) (g_pr M) (g_st M) (g_he M) (g_wt M) (g_wn M) (g_cv M) (g_qs M) (g_qu M) (g_v5 M) (g_v6 M) (g_v7 M))) ok_r_count rfl ?_
      exact aq_ei ok_r_count rfl rfl rfl rfl
    · exact absurd (nI_le (show g_n M ≤ i by omega) (by omega)) h
  | succ f ih =>
    intro i hif c
    refine aq_gn (n := 3) (c1 := (14, [some (.ref 0), some (.int (nI 0)), some (.int (nI c)), some (.int (nI i))], [.int (nI (g_n M)), .int (nI i)], mL (g_cd M) (g_n M) (g_pr M) (g_st M) (g_he M) (g_wt M) (g_wn M) (g_cv M) (g_qs M) (g_qu M) (g_v5 M) (g_v6 M) (g_v7 M))) ok_r_count rfl ?_
    refine aq_icmp_ge ok_r_count rfl (fun h => ?_) (fun h => ?_)
    · exact absurd (q_le h (by omega) (by omega)) (by omega)
    · refine aq_go (n := 8) (c1 := (27, [some (.ref 0), some (.int (nI 0)), some (.int (nI c)), some (.int (nI i))], [.int ((nI 0) - (nI 1)), .int (nI ((g_st M) (nI i).toNatClampNeg)), .int (nI c)], mL (g_cd M) (g_n M) (g_pr M) (g_st M) (g_he M) (g_wt M) (g_wn M) (g_cv M) (g_qs M) (g_qu M) (g_v5 M) (g_v6 M) (g_v7 M))) (P := vp_in (nI i) 60) ok_r_count rfl (in60 (by omega)) ?_
      rw [cl60 (show i < 60 by omega)]
      refine aq_icmp_ne ok_r_count rfl (fun h2 => ?_) (fun h2 => ?_)
      · refine aq_gn (n := 5) (c1 := (9, [some (.ref 0), some (.int (nI 0)), some (.int ((nI c) + (nI 0))), some (.int ((nI i) + 1))], [], mL (g_cd M) (g_n M) (g_pr M) (g_st M) (g_he M) (g_wt M) (g_wn M) (g_cv M) (g_qs M) (g_qu M) (g_v5 M) (g_v6 M) (g_v7 M))) ok_r_count rfl ?_
        rw [nI_add, nI_1]
        have e : cnt (fun i => decide (nI (g_st M i) = (nI 0) - nI 1)) (f + 1) i c = cnt (fun i => decide (nI (g_st M i) = (nI 0) - nI 1)) f (i + 1) (c + 0) := by rw [cnt]; simp only [h2, decide_true, decide_false, Bool.false_eq_true, if_false, if_true, Nat.add_zero]
        try rw [e]
        exact ih (i + 1) (by omega) _
      · refine aq_gn (n := 6) (c1 := (9, [some (.ref 0), some (.int (nI 0)), some (.int ((nI c) + (nI 1))), some (.int ((nI i) + 1))], [], mL (g_cd M) (g_n M) (g_pr M) (g_st M) (g_he M) (g_wt M) (g_wn M) (g_cv M) (g_qs M) (g_qu M) (g_v5 M) (g_v6 M) (g_v7 M))) ok_r_count rfl ?_
        rw [nI_add, nI_1]
        have e : cnt (fun i => decide (nI (g_st M i) = (nI 0) - nI 1)) (f + 1) i c = cnt (fun i => decide (nI (g_st M i) = (nI 0) - nI 1)) f (i + 1) (c + 1) := by rw [cnt]; simp only [h2, decide_true, decide_false, Bool.false_eq_true, if_false, if_true, Nat.add_zero]
        try rw [e]
        exact ih (i + 1) (by omega) _
set_option maxHeartbeats 4000000 in
theorem rm_count0 {d : Nat} {M : MSt} (hM : WM M) : AM r_count (d) (.inl (some (.int (nI (g_n M))))) [.ref 0, .int (nI 0)] (wM M) (wM (m_cd M 0)) := by
  refine aq_enter pl_r_count (Nat.le_of_ble_eq_true rfl) ?_
  show AW r_count _ _ _ (0, [some (.ref 0), some (.int (nI 0)), none, none], [], mL (g_cd M) (g_n M) (g_pr M) (g_st M) (g_he M) (g_wt M) (g_wn M) (g_cv M) (g_qs M) (g_qu M) (g_v5 M) (g_v6 M) (g_v7 M))
  refine aq_go (n := 7) (c1 := (9, [some (.ref 0), some (.int (nI 0)), some (.int (nI 0)), some (.int (nI 0))], [], mR (nI 0) (nI (g_n M)) (fun ι => nI ((g_pr M) ι)) (fun ι => nI ((g_st M) ι)) (fun ι => oI ((g_he M) ι)) (fun ι => oI ((g_wt M) ι)) (fun ι => nI ((g_wn M) ι)) (fun ι => bI ((g_cv M) ι)) (fun ι => nI ((g_qs M) ι)) (fun ι => nI ((g_qu M) ι)) (nI (g_v5 M)) (nI (g_v6 M)) (nI (g_v7 M)))) (P := aq_fi 1 0 = true) ok_r_count rfl fi1_0 ?_
  exact lp_count0 (M := m_cd M 0) hM.1 (g_n M) 0 (Nat.zero_add _) 0
set_option maxHeartbeats 4000000 in
theorem lp_count1 {d : Nat} {M : MSt} (hn : g_n M ≤ 60) : ∀ (f i : Nat), i + f = g_n M → ∀ c : Nat,  AW r_count (d) (.inl (some (.int (nI (cnt (fun i => decide (nI (g_st M i) = (nI 1) - nI 1)) f i c))))) (wM M) (9, [some (.ref 0), some (.int (nI 1)), some (.int (nI c)), some (.int (nI i))], [], mL (g_cd M) (g_n M) (g_pr M) (g_st M) (g_he M) (g_wt M) (g_wn M) (g_cv M) (g_qs M) (g_qu M) (g_v5 M) (g_v6 M) (g_v7 M)) := by
  intro f
  induction f with
  | zero =>
    intro i hif c
    refine aq_gn (n := 3) (c1 := (14, [some (.ref 0), some (.int (nI 1)), some (.int (nI c)), some (.int (nI i))], [.int (nI (g_n M)), .int (nI i)], mL (g_cd M) (g_n M) (g_pr M) (g_st M) (g_he M) (g_wt M) (g_wn M) (g_cv M) (g_qs M) (g_qu M) (g_v5 M) (g_v6 M) (g_v7 M))) ok_r_count rfl ?_
    refine aq_icmp_ge ok_r_count rfl (fun h => ?_) (fun h => ?_)
    · refine aq_gn (n := 1) (c1 := (44, [some (.ref 0), some (.int (nI 1)), some (.int (nI c)), some (.int (nI i))], [.int (nI 1)], mL (g_cd M) (g_n M) (g_pr M) (g_st M) (g_he M) (g_wt M) (g_wn M) (g_cv M) (g_qs M) (g_qu M) (g_v5 M) (g_v6 M) (g_v7 M))) ok_r_count rfl ?_
      refine aq_tabI (tgt := 97) ok_r_count rfl (by decide) (by decide) rfl (by decide) ?_
      refine aq_gn (n := 1) (c1 := (98, [some (.ref 0), some (.int (nI 1)), some (.int (nI c)), some (.int (nI i))], [.int (nI c)], mL (g_cd M) (g_n M) (g_pr M) (g_st M) (g_he M) (g_wt M) (g_wn M) (g_cv M) (g_qs M) (g_qu M) (g_v5 M) (g_v6 M) (g_v7 M))) ok_r_count rfl ?_
      exact aq_ei ok_r_count rfl rfl rfl rfl
    · exact absurd (nI_le (show g_n M ≤ i by omega) (by omega)) h
  | succ f ih =>
    intro i hif c
    refine aq_gn (n := 3) (c1 := (14, [some (.ref 0), some (.int (nI 1)), some (.int (nI c)), some (.int (nI i))], [.int (nI (g_n M)), .int (nI i)], mL (g_cd M) (g_n M) (g_pr M) (g_st M) (g_he M) (g_wt M) (g_wn M) (g_cv M) (g_qs M) (g_qu M) (g_v5 M) (g_v6 M) (g_v7 M))) ok_r_count rfl ?_
    refine aq_icmp_ge ok_r_count rfl (fun h => ?_) (fun h => ?_)
    · exact absurd (q_le h (by omega) (by omega)) (by omega)
    · refine aq_go (n := 8) (c1 := (27, [some (.ref 0), some (.int (nI 1)), some (.int (nI c)), some (.int (nI i))], [.int ((nI 1) - (nI 1)), .int (nI ((g_st M) (nI i).toNatClampNeg)), .int (nI c)], mL (g_cd M) (g_n M) (g_pr M) (g_st M) (g_he M) (g_wt M) (g_wn M) (g_cv M) (g_qs M) (g_qu M) (g_v5 M) (g_v6 M) (g_v7 M))) (P := vp_in (nI i) 60) ok_r_count rfl (in60 (by omega)) ?_
      rw [cl60 (show i < 60 by omega)]
      refine aq_icmp_ne ok_r_count rfl (fun h2 => ?_) (fun h2 => ?_)
      · refine aq_gn (n := 5) (c1 := (9, [some (.ref 0), some (.int (nI 1)), some (.int ((nI c) + (nI 0))), some (.int ((nI i) + 1))], [], mL (g_cd M) (g_n M) (g_pr M) (g_st M) (g_he M) (g_wt M) (g_wn M) (g_cv M) (g_qs M) (g_qu M) (g_v5 M) (g_v6 M) (g_v7 M))) ok_r_count rfl ?_
        rw [nI_add, nI_1]
        have e : cnt (fun i => decide (nI (g_st M i) = (nI 1) - nI 1)) (f + 1) i c = cnt (fun i => decide (nI (g_st M i) = (nI 1) - nI 1)) f (i + 1) (c + 0) := by rw [cnt]; simp only [h2, decide_true, decide_false, Bool.false_eq_true, if_false, if_true, Nat.add_zero]
        try rw [e]
        exact ih (i + 1) (by omega) _
      · refine aq_gn (n := 6) (c1 := (9, [some (.ref 0), some (.int (nI 1)), some (.int ((nI c) + (nI 1))), some (.int ((nI i) + 1))], [], mL (g_cd M) (g_n M) (g_pr M) (g_st M) (g_he M) (g_wt M) (g_wn M) (g_cv M) (g_qs M) (g_qu M) (g_v5 M) (g_v6 M) (g_v7 M))) ok_r_count rfl ?_
        rw [nI_add, nI_1]
        have e : cnt (fun i => decide (nI (g_st M i) = (nI 1) - nI 1)) (f + 1) i c = cnt (fun i => decide (nI (g_st M i) = (nI 1) - nI 1)) f (i + 1) (c + 1) := by rw [cnt]; simp only [h2, decide_true, decide_false, Bool.false_eq_true, if_false, if_true, Nat.add_zero]
        try rw [e]
        exact ih (i + 1) (by omega) _
set_option maxHeartbeats 4000000 in
theorem rm_count1 {d : Nat} {M : MSt} (hM : WM M) : AM r_count (d) (.inl (some (.int (nI (cnt (fun i => decide (nI (g_st M i) = (nI 1) - nI 1)) (g_n M) 0 0))))) [.ref 0, .int (nI 1)] (wM M) (wM (m_cd M 0)) := by
  refine aq_enter pl_r_count (Nat.le_of_ble_eq_true rfl) ?_
  show AW r_count _ _ _ (0, [some (.ref 0), some (.int (nI 1)), none, none], [], mL (g_cd M) (g_n M) (g_pr M) (g_st M) (g_he M) (g_wt M) (g_wn M) (g_cv M) (g_qs M) (g_qu M) (g_v5 M) (g_v6 M) (g_v7 M))
  refine aq_go (n := 7) (c1 := (9, [some (.ref 0), some (.int (nI 1)), some (.int (nI 0)), some (.int (nI 0))], [], mR (nI 0) (nI (g_n M)) (fun ι => nI ((g_pr M) ι)) (fun ι => nI ((g_st M) ι)) (fun ι => oI ((g_he M) ι)) (fun ι => oI ((g_wt M) ι)) (fun ι => nI ((g_wn M) ι)) (fun ι => bI ((g_cv M) ι)) (fun ι => nI ((g_qs M) ι)) (fun ι => nI ((g_qu M) ι)) (nI (g_v5 M)) (nI (g_v6 M)) (nI (g_v7 M)))) (P := aq_fi 1 0 = true) ok_r_count rfl fi1_0 ?_
  exact lp_count1 (M := m_cd M 0) hM.1 (g_n M) 0 (Nat.zero_add _) 0
set_option maxHeartbeats 4000000 in
theorem lp_count2 {d : Nat} {M : MSt} (hn : g_n M ≤ 60) : ∀ (f i : Nat), i + f = g_n M → ∀ c : Nat,  AW r_count (d) (.inl (some (.int (nI (cnt (fun i => decide (nI (g_st M i) = (nI 2) - nI 1)) f i c))))) (wM M) (9, [some (.ref 0), some (.int (nI 2)), some (.int (nI c)), some (.int (nI i))], [], mL (g_cd M) (g_n M) (g_pr M) (g_st M) (g_he M) (g_wt M) (g_wn M) (g_cv M) (g_qs M) (g_qu M) (g_v5 M) (g_v6 M) (g_v7 M)) := by
  intro f
  induction f with
  | zero =>
    intro i hif c
    refine aq_gn (n := 3) (c1 := (14, [some (.ref 0), some (.int (nI 2)), some (.int (nI c)), some (.int (nI i))], [.int (nI (g_n M)), .int (nI i)], mL (g_cd M) (g_n M) (g_pr M) (g_st M) (g_he M) (g_wt M) (g_wn M) (g_cv M) (g_qs M) (g_qu M) (g_v5 M) (g_v6 M) (g_v7 M))) ok_r_count rfl ?_
    refine aq_icmp_ge ok_r_count rfl (fun h => ?_) (fun h => ?_)
    · refine aq_gn (n := 1) (c1 := (44, [some (.ref 0), some (.int (nI 2)), some (.int (nI c)), some (.int (nI i))], [.int (nI 2)], mL (g_cd M) (g_n M) (g_pr M) (g_st M) (g_he M) (g_wt M) (g_wn M) (g_cv M) (g_qs M) (g_qu M) (g_v5 M) (g_v6 M) (g_v7 M))) ok_r_count rfl ?_
      refine aq_tabI (tgt := 97) ok_r_count rfl (by decide) (by decide) rfl (by decide) ?_
      refine aq_gn (n := 1) (c1 := (98, [some (.ref 0), some (.int (nI 2)), some (.int (nI c)), some (.int (nI i))], [.int (nI c)], mL (g_cd M) (g_n M) (g_pr M) (g_st M) (g_he M) (g_wt M) (g_wn M) (g_cv M) (g_qs M) (g_qu M) (g_v5 M) (g_v6 M) (g_v7 M))) ok_r_count rfl ?_
      exact aq_ei ok_r_count rfl rfl rfl rfl
    · exact absurd (nI_le (show g_n M ≤ i by omega) (by omega)) h
  | succ f ih =>
    intro i hif c
    refine aq_gn (n := 3) (c1 := (14, [some (.ref 0), some (.int (nI 2)), some (.int (nI c)), some (.int (nI i))], [.int (nI (g_n M)), .int (nI i)], mL (g_cd M) (g_n M) (g_pr M) (g_st M) (g_he M) (g_wt M) (g_wn M) (g_cv M) (g_qs M) (g_qu M) (g_v5 M) (g_v6 M) (g_v7 M))) ok_r_count rfl ?_
    refine aq_icmp_ge ok_r_count rfl (fun h => ?_) (fun h => ?_)
    · exact absurd (q_le h (by omega) (by omega)) (by omega)
    · refine aq_go (n := 8) (c1 := (27, [some (.ref 0), some (.int (nI 2)), some (.int (nI c)), some (.int (nI i))], [.int ((nI 2) - (nI 1)), .int (nI ((g_st M) (nI i).toNatClampNeg)), .int (nI c)], mL (g_cd M) (g_n M) (g_pr M) (g_st M) (g_he M) (g_wt M) (g_wn M) (g_cv M) (g_qs M) (g_qu M) (g_v5 M) (g_v6 M) (g_v7 M))) (P := vp_in (nI i) 60) ok_r_count rfl (in60 (by omega)) ?_
      rw [cl60 (show i < 60 by omega)]
      refine aq_icmp_ne ok_r_count rfl (fun h2 => ?_) (fun h2 => ?_)
      · refine aq_gn (n := 5) (c1 := (9, [some (.ref 0), some (.int (nI 2)), some (.int ((nI c) + (nI 0))), some (.int ((nI i) + 1))], [], mL (g_cd M) (g_n M) (g_pr M) (g_st M) (g_he M) (g_wt M) (g_wn M) (g_cv M) (g_qs M) (g_qu M) (g_v5 M) (g_v6 M) (g_v7 M))) ok_r_count rfl ?_
        rw [nI_add, nI_1]
        have e : cnt (fun i => decide (nI (g_st M i) = (nI 2) - nI 1)) (f + 1) i c = cnt (fun i => decide (nI (g_st M i) = (nI 2) - nI 1)) f (i + 1) (c + 0) := by rw [cnt]; simp only [h2, decide_true, decide_false, Bool.false_eq_true, if_false, if_true, Nat.add_zero]
        try rw [e]
        exact ih (i + 1) (by omega) _
      · refine aq_gn (n := 6) (c1 := (9, [some (.ref 0), some (.int (nI 2)), some (.int ((nI c) + (nI 1))), some (.int ((nI i) + 1))], [], mL (g_cd M) (g_n M) (g_pr M) (g_st M) (g_he M) (g_wt M) (g_wn M) (g_cv M) (g_qs M) (g_qu M) (g_v5 M) (g_v6 M) (g_v7 M))) ok_r_count rfl ?_
        rw [nI_add, nI_1]
        have e : cnt (fun i => decide (nI (g_st M i) = (nI 2) - nI 1)) (f + 1) i c = cnt (fun i => decide (nI (g_st M i) = (nI 2) - nI 1)) f (i + 1) (c + 1) := by rw [cnt]; simp only [h2, decide_true, decide_false, Bool.false_eq_true, if_false, if_true, Nat.add_zero]
        try rw [e]
        exact ih (i + 1) (by omega) _
set_option maxHeartbeats 4000000 in
theorem rm_count2 {d : Nat} {M : MSt} (hM : WM M) : AM r_count (d) (.inl (some (.int (nI (cnt (fun i => decide (nI (g_st M i) = (nI 2) - nI 1)) (g_n M) 0 0))))) [.ref 0, .int (nI 2)] (wM M) (wM (m_cd M 0)) := by
  refine aq_enter pl_r_count (Nat.le_of_ble_eq_true rfl) ?_
  show AW r_count _ _ _ (0, [some (.ref 0), some (.int (nI 2)), none, none], [], mL (g_cd M) (g_n M) (g_pr M) (g_st M) (g_he M) (g_wt M) (g_wn M) (g_cv M) (g_qs M) (g_qu M) (g_v5 M) (g_v6 M) (g_v7 M))
  refine aq_go (n := 7) (c1 := (9, [some (.ref 0), some (.int (nI 2)), some (.int (nI 0)), some (.int (nI 0))], [], mR (nI 0) (nI (g_n M)) (fun ι => nI ((g_pr M) ι)) (fun ι => nI ((g_st M) ι)) (fun ι => oI ((g_he M) ι)) (fun ι => oI ((g_wt M) ι)) (fun ι => nI ((g_wn M) ι)) (fun ι => bI ((g_cv M) ι)) (fun ι => nI ((g_qs M) ι)) (fun ι => nI ((g_qu M) ι)) (nI (g_v5 M)) (nI (g_v6 M)) (nI (g_v7 M)))) (P := aq_fi 1 0 = true) ok_r_count rfl fi1_0 ?_
  exact lp_count2 (M := m_cd M 0) hM.1 (g_n M) 0 (Nat.zero_add _) 0
set_option maxHeartbeats 4000000 in
theorem lp_count3 {d : Nat} {M : MSt} (hn : g_n M ≤ 60) : ∀ (f i : Nat), i + f = g_n M → ∀ c : Nat,  AW r_count (d) (.inl (some (.int (nI (cnt (fun i => decide (nI (g_st M i) = (nI 3) - nI 1)) f i c))))) (wM M) (9, [some (.ref 0), some (.int (nI 3)), some (.int (nI c)), some (.int (nI i))], [], mL (g_cd M) (g_n M) (g_pr M) (g_st M) (g_he M) (g_wt M) (g_wn M) (g_cv M) (g_qs M) (g_qu M) (g_v5 M) (g_v6 M) (g_v7 M)) := by
  intro f
  induction f with
  | zero =>
    intro i hif c
    refine aq_gn (n := 3) (c1 := (14, [some (.ref 0), some (.int (nI 3)), some (.int (nI c)), some (.int (nI i))], [.int (nI (g_n M)), .int (nI i)], mL (g_cd M) (g_n M) (g_pr M) (g_st M) (g_he M) (g_wt M) (g_wn M) (g_cv M) (g_qs M) (g_qu M) (g_v5 M) (g_v6 M) (g_v7 M))) ok_r_count rfl ?_
    refine aq_icmp_ge ok_r_count rfl (fun h => ?_) (fun h => ?_)
    · refine aq_gn (n := 1) (c1 := (44, [some (.ref 0), some (.int (nI 3)), some (.int (nI c)), some (.int (nI i))], [.int (nI 3)], mL (g_cd M) (g_n M) (g_pr M) (g_st M) (g_he M) (g_wt M) (g_wn M) (g_cv M) (g_qs M) (g_qu M) (g_v5 M) (g_v6 M) (g_v7 M))) ok_r_count rfl ?_
      refine aq_tabI (tgt := 97) ok_r_count rfl (by decide) (by decide) rfl (by decide) ?_
      refine aq_gn (n := 1) (c1 := (98, [some (.ref 0), some (.int (nI 3)), some (.int (nI c)), some (.int (nI i))], [.int (nI c)], mL (g_cd M) (g_n M) (g_pr M) (g_st M) (g_he M) (g_wt M) (g_wn M) (g_cv M) (g_qs M) (g_qu M) (g_v5 M) (g_v6 M) (g_v7 M))) ok_r_count rfl ?_
      exact aq_ei ok_r_count rfl rfl rfl rfl
    · exact absurd (nI_le (show g_n M ≤ i by omega) (by omega)) h
  | succ f ih =>
    intro i hif c
    refine aq_gn (n := 3) (c1 := (14, [some (.ref 0), some (.int (nI 3)), some (.int (nI c)), some (.int (nI i))], [.int (nI (g_n M)), .int (nI i)], mL (g_cd M) (g_n M) (g_pr M) (g_st M) (g_he M) (g_wt M) (g_wn M) (g_cv M) (g_qs M) (g_qu M) (g_v5 M) (g_v6 M) (g_v7 M))) ok_r_count rfl ?_
    refine aq_icmp_ge ok_r_count rfl (fun h => ?_) (fun h => ?_)
    · exact absurd (q_le h (by omega) (by omega)) (by omega)
    · refine aq_go (n := 8) (c1 := (27, [some (.ref 0), some (.int (nI 3)), some (.int (nI c)), some (.int (nI i))], [.int ((nI 3) - (nI 1)), .int (nI ((g_st M) (nI i).toNatClampNeg)), .int (nI c)], mL (g_cd M) (g_n M) (g_pr M) (g_st M) (g_he M) (g_wt M) (g_wn M) (g_cv M) (g_qs M) (g_qu M) (g_v5 M) (g_v6 M) (g_v7 M))) (P := vp_in (nI i) 60) ok_r_count rfl (in60 (by omega)) ?_
      rw [cl60 (show i < 60 by omega)]
      refine aq_icmp_ne ok_r_count rfl (fun h2 => ?_) (fun h2 => ?_)
      · refine aq_gn (n := 5) (c1 := (9, [some (.ref 0), some (.int (nI 3)), some (.int ((nI c) + (nI 0))), some (.int ((nI i) + 1))], [], mL (g_cd M) (g_n M) (g_pr M) (g_st M) (g_he M) (g_wt M) (g_wn M) (g_cv M) (g_qs M) (g_qu M) (g_v5 M) (g_v6 M) (g_v7 M))) ok_r_count rfl ?_
        rw [nI_add, nI_1]
        have e : cnt (fun i => decide (nI (g_st M i) = (nI 3) - nI 1)) (f + 1) i c = cnt (fun i => decide (nI (g_st M i) = (nI 3) - nI 1)) f (i + 1) (c + 0) := by rw [cnt]; simp only [h2, decide_true, decide_false, Bool.false_eq_true, if_false, if_true, Nat.add_zero]
        try rw [e]
        exact ih (i + 1) (by omega) _
      · refine aq_gn (n := 6) (c1 := (9, [some (.ref 0), some (.int (nI 3)), some (.int ((nI c) + (nI 1))), some (.int ((nI i) + 1))], [], mL (g_cd M) (g_n M) (g_pr M) (g_st M) (g_he M) (g_wt M) (g_wn M) (g_cv M) (g_qs M) (g_qu M) (g_v5 M) (g_v6 M) (g_v7 M))) ok_r_count rfl ?_
        rw [nI_add, nI_1]
        have e : cnt (fun i => decide (nI (g_st M i) = (nI 3) - nI 1)) (f + 1) i c = cnt (fun i => decide (nI (g_st M i) = (nI 3) - nI 1)) f (i + 1) (c + 1) := by rw [cnt]; simp only [h2, decide_true, decide_false, Bool.false_eq_true, if_false, if_true, Nat.add_zero]
        try rw [e]
        exact ih (i + 1) (by omega) _
set_option maxHeartbeats 4000000 in
theorem rm_count3 {d : Nat} {M : MSt} (hM : WM M) : AM r_count (d) (.inl (some (.int (nI (cnt (fun i => decide (nI (g_st M i) = (nI 3) - nI 1)) (g_n M) 0 0))))) [.ref 0, .int (nI 3)] (wM M) (wM (m_cd M 0)) := by
  refine aq_enter pl_r_count (Nat.le_of_ble_eq_true rfl) ?_
  show AW r_count _ _ _ (0, [some (.ref 0), some (.int (nI 3)), none, none], [], mL (g_cd M) (g_n M) (g_pr M) (g_st M) (g_he M) (g_wt M) (g_wn M) (g_cv M) (g_qs M) (g_qu M) (g_v5 M) (g_v6 M) (g_v7 M))
  refine aq_go (n := 7) (c1 := (9, [some (.ref 0), some (.int (nI 3)), some (.int (nI 0)), some (.int (nI 0))], [], mR (nI 0) (nI (g_n M)) (fun ι => nI ((g_pr M) ι)) (fun ι => nI ((g_st M) ι)) (fun ι => oI ((g_he M) ι)) (fun ι => oI ((g_wt M) ι)) (fun ι => nI ((g_wn M) ι)) (fun ι => bI ((g_cv M) ι)) (fun ι => nI ((g_qs M) ι)) (fun ι => nI ((g_qu M) ι)) (nI (g_v5 M)) (nI (g_v6 M)) (nI (g_v7 M)))) (P := aq_fi 1 0 = true) ok_r_count rfl fi1_0 ?_
  exact lp_count3 (M := m_cd M 0) hM.1 (g_n M) 0 (Nat.zero_add _) 0
set_option maxHeartbeats 4000000 in
theorem lp_count4 {d : Nat} {M : MSt} (hn : g_n M ≤ 60) : ∀ (f i : Nat), i + f = g_n M → ∀ c : Nat,  AW r_count (d) (.inl (some (.int (nI (cnt (fun i => decide (nI (g_st M i) = (nI 4) - nI 1)) f i c))))) (wM M) (9, [some (.ref 0), some (.int (nI 4)), some (.int (nI c)), some (.int (nI i))], [], mL (g_cd M) (g_n M) (g_pr M) (g_st M) (g_he M) (g_wt M) (g_wn M) (g_cv M) (g_qs M) (g_qu M) (g_v5 M) (g_v6 M) (g_v7 M)) := by
  intro f
  induction f with
  | zero =>
    intro i hif c
    refine aq_gn (n := 3) (c1 := (14, [some (.ref 0), some (.int (nI 4)), some (.int (nI c)), some (.int (nI i))], [.int (nI (g_n M)), .int (nI i)], mL (g_cd M) (g_n M) (g_pr M) (g_st M) (g_he M) (g_wt M) (g_wn M) (g_cv M) (g_qs M) (g_qu M) (g_v5 M) (g_v6 M) (g_v7 M))) ok_r_count rfl ?_
    refine aq_icmp_ge ok_r_count rfl (fun h => ?_) (fun h => ?_)
    · refine aq_gn (n := 1) (c1 := (44, [some (.ref 0), some (.int (nI 4)), some (.int (nI c)), some (.int (nI i))], [.int (nI 4)], mL (g_cd M) (g_n M) (g_pr M) (g_st M) (g_he M) (g_wt M) (g_wn M) (g_cv M) (g_qs M) (g_qu M) (g_v5 M) (g_v6 M) (g_v7 M))) ok_r_count rfl ?_
      refine aq_tabI (tgt := 97) ok_r_count rfl (by decide) (by decide) rfl (by decide) ?_
      refine aq_gn (n := 1) (c1 := (98, [some (.ref 0), some (.int (nI 4)), some (.int (nI c)), some (.int (nI i))], [.int (nI c)], mL (g_cd M) (g_n M) (g_pr M) (g_st M) (g_he M) (g_wt M) (g_wn M) (g_cv M) (g_qs M) (g_qu M) (g_v5 M) (g_v6 M) (g_v7 M))) ok_r_count rfl ?_
      exact aq_ei ok_r_count rfl rfl rfl rfl
    · exact absurd (nI_le (show g_n M ≤ i by omega) (by omega)) h
  | succ f ih =>
    intro i hif c
    refine aq_gn (n := 3) (c1 := (14, [some (.ref 0), some (.int (nI 4)), some (.int (nI c)), some (.int (nI i))], [.int (nI (g_n M)), .int (nI i)], mL (g_cd M) (g_n M) (g_pr M) (g_st M) (g_he M) (g_wt M) (g_wn M) (g_cv M) (g_qs M) (g_qu M) (g_v5 M) (g_v6 M) (g_v7 M))) ok_r_count rfl ?_
    refine aq_icmp_ge ok_r_count rfl (fun h => ?_) (fun h => ?_)
    · exact absurd (q_le h (by omega) (by omega)) (by omega)
    · refine aq_go (n := 8) (c1 := (27, [some (.ref 0), some (.int (nI 4)), some (.int (nI c)), some (.int (nI i))], [.int ((nI 4) - (nI 1)), .int (nI ((g_st M) (nI i).toNatClampNeg)), .int (nI c)], mL (g_cd M) (g_n M) (g_pr M) (g_st M) (g_he M) (g_wt M) (g_wn M) (g_cv M) (g_qs M) (g_qu M) (g_v5 M) (g_v6 M) (g_v7 M))) (P := vp_in (nI i) 60) ok_r_count rfl (in60 (by omega)) ?_
      rw [cl60 (show i < 60 by omega)]
      refine aq_icmp_ne ok_r_count rfl (fun h2 => ?_) (fun h2 => ?_)
      · refine aq_gn (n := 5) (c1 := (9, [some (.ref 0), some (.int (nI 4)), some (.int ((nI c) + (nI 0))), some (.int ((nI i) + 1))], [], mL (g_cd M) (g_n M) (g_pr M) (g_st M) (g_he M) (g_wt M) (g_wn M) (g_cv M) (g_qs M) (g_qu M) (g_v5 M) (g_v6 M) (g_v7 M))) ok_r_count rfl ?_
        rw [nI_add, nI_1]
        have e : cnt (fun i => decide (nI (g_st M i) = (nI 4) - nI 1)) (f + 1) i c = cnt (fun i => decide (nI (g_st M i) = (nI 4) - nI 1)) f (i + 1) (c + 0) := by rw [cnt]; simp only [h2, decide_true, decide_false, Bool.false_eq_true, if_false, if_true, Nat.add_zero]
        try rw [e]
        exact ih (i + 1) (by omega) _
      · refine aq_gn (n := 6) (c1 := (9, [some (.ref 0), some (.int (nI 4)), some (.int ((nI c) + (nI 1))), some (.int ((nI i) + 1))], [], mL (g_cd M) (g_n M) (g_pr M) (g_st M) (g_he M) (g_wt M) (g_wn M) (g_cv M) (g_qs M) (g_qu M) (g_v5 M) (g_v6 M) (g_v7 M))) ok_r_count rfl ?_
        rw [nI_add, nI_1]
        have e : cnt (fun i => decide (nI (g_st M i) = (nI 4) - nI 1)) (f + 1) i c = cnt (fun i => decide (nI (g_st M i) = (nI 4) - nI 1)) f (i + 1) (c + 1) := by rw [cnt]; simp only [h2, decide_true, decide_false, Bool.false_eq_true, if_false, if_true, Nat.add_zero]
        try rw [e]
        exact ih (i + 1) (by omega) _
set_option maxHeartbeats 4000000 in
theorem rm_count4 {d : Nat} {M : MSt} (hM : WM M) : AM r_count (d) (.inl (some (.int (nI (cnt (fun i => decide (nI (g_st M i) = (nI 4) - nI 1)) (g_n M) 0 0))))) [.ref 0, .int (nI 4)] (wM M) (wM (m_cd M 0)) := by
  refine aq_enter pl_r_count (Nat.le_of_ble_eq_true rfl) ?_
  show AW r_count _ _ _ (0, [some (.ref 0), some (.int (nI 4)), none, none], [], mL (g_cd M) (g_n M) (g_pr M) (g_st M) (g_he M) (g_wt M) (g_wn M) (g_cv M) (g_qs M) (g_qu M) (g_v5 M) (g_v6 M) (g_v7 M))
  refine aq_go (n := 7) (c1 := (9, [some (.ref 0), some (.int (nI 4)), some (.int (nI 0)), some (.int (nI 0))], [], mR (nI 0) (nI (g_n M)) (fun ι => nI ((g_pr M) ι)) (fun ι => nI ((g_st M) ι)) (fun ι => oI ((g_he M) ι)) (fun ι => oI ((g_wt M) ι)) (fun ι => nI ((g_wn M) ι)) (fun ι => bI ((g_cv M) ι)) (fun ι => nI ((g_qs M) ι)) (fun ι => nI ((g_qu M) ι)) (nI (g_v5 M)) (nI (g_v6 M)) (nI (g_v7 M)))) (P := aq_fi 1 0 = true) ok_r_count rfl fi1_0 ?_
  exact lp_count4 (M := m_cd M 0) hM.1 (g_n M) 0 (Nat.zero_add _) 0
set_option maxHeartbeats 4000000 in
theorem lp_count5 {d : Nat} {M : MSt} (hn : g_n M ≤ 60) : ∀ (f i : Nat), i + f = g_n M → ∀ c : Nat,  AW r_count (d) (.inl (some (.int (nI (g_v5 M))))) (wM M) (9, [some (.ref 0), some (.int (nI 5)), some (.int (nI c)), some (.int (nI i))], [], mL (g_cd M) (g_n M) (g_pr M) (g_st M) (g_he M) (g_wt M) (g_wn M) (g_cv M) (g_qs M) (g_qu M) (g_v5 M) (g_v6 M) (g_v7 M)) := by
  intro f
  induction f with
  | zero =>
    intro i hif c
    refine aq_gn (n := 3) (c1 := (14, [some (.ref 0), some (.int (nI 5)), some (.int (nI c)), some (.int (nI i))], [.int (nI (g_n M)), .int (nI i)], mL (g_cd M) (g_n M) (g_pr M) (g_st M) (g_he M) (g_wt M) (g_wn M) (g_cv M) (g_qs M) (g_qu M) (g_v5 M) (g_v6 M) (g_v7 M))) ok_r_count rfl ?_
    refine aq_icmp_ge ok_r_count rfl (fun h => ?_) (fun h => ?_)
    · refine aq_gn (n := 1) (c1 := (44, [some (.ref 0), some (.int (nI 5)), some (.int (nI c)), some (.int (nI i))], [.int (nI 5)], mL (g_cd M) (g_n M) (g_pr M) (g_st M) (g_he M) (g_wt M) (g_wn M) (g_cv M) (g_qs M) (g_qu M) (g_v5 M) (g_v6 M) (g_v7 M))) ok_r_count rfl ?_
      refine aq_tabI (tgt := 99) ok_r_count rfl (by decide) (by decide) rfl (by decide) ?_
      refine aq_gn (n := 2) (c1 := (103, [some (.ref 0), some (.int (nI 5)), some (.int (nI c)), some (.int (nI i))], [.int (nI (g_v5 M))], mL (g_cd M) (g_n M) (g_pr M) (g_st M) (g_he M) (g_wt M) (g_wn M) (g_cv M) (g_qs M) (g_qu M) (g_v5 M) (g_v6 M) (g_v7 M))) ok_r_count rfl ?_
      exact aq_ei ok_r_count rfl rfl rfl rfl
    · exact absurd (nI_le (show g_n M ≤ i by omega) (by omega)) h
  | succ f ih =>
    intro i hif c
    refine aq_gn (n := 3) (c1 := (14, [some (.ref 0), some (.int (nI 5)), some (.int (nI c)), some (.int (nI i))], [.int (nI (g_n M)), .int (nI i)], mL (g_cd M) (g_n M) (g_pr M) (g_st M) (g_he M) (g_wt M) (g_wn M) (g_cv M) (g_qs M) (g_qu M) (g_v5 M) (g_v6 M) (g_v7 M))) ok_r_count rfl ?_
    refine aq_icmp_ge ok_r_count rfl (fun h => ?_) (fun h => ?_)
    · exact absurd (q_le h (by omega) (by omega)) (by omega)
    · refine aq_go (n := 8) (c1 := (27, [some (.ref 0), some (.int (nI 5)), some (.int (nI c)), some (.int (nI i))], [.int ((nI 5) - (nI 1)), .int (nI ((g_st M) (nI i).toNatClampNeg)), .int (nI c)], mL (g_cd M) (g_n M) (g_pr M) (g_st M) (g_he M) (g_wt M) (g_wn M) (g_cv M) (g_qs M) (g_qu M) (g_v5 M) (g_v6 M) (g_v7 M))) (P := vp_in (nI i) 60) ok_r_count rfl (in60 (by omega)) ?_
      rw [cl60 (show i < 60 by omega)]
      refine aq_icmp_ne ok_r_count rfl (fun h2 => ?_) (fun h2 => ?_)
      · refine aq_gn (n := 5) (c1 := (9, [some (.ref 0), some (.int (nI 5)), some (.int ((nI c) + (nI 0))), some (.int ((nI i) + 1))], [], mL (g_cd M) (g_n M) (g_pr M) (g_st M) (g_he M) (g_wt M) (g_wn M) (g_cv M) (g_qs M) (g_qu M) (g_v5 M) (g_v6 M) (g_v7 M))) ok_r_count rfl ?_
        rw [nI_add, nI_1]
        have e : cnt (fun i => decide (nI (g_st M i) = (nI 5) - nI 1)) (f + 1) i c = cnt (fun i => decide (nI (g_st M i) = (nI 5) - nI 1)) f (i + 1) (c + 0) := by rw [cnt]; simp only [h2, decide_true, decide_false, Bool.false_eq_true, if_false, if_true, Nat.add_zero]
        try rw [e]
        exact ih (i + 1) (by omega) _
      · refine aq_gn (n := 6) (c1 := (9, [some (.ref 0), some (.int (nI 5)), some (.int ((nI c) + (nI 1))), some (.int ((nI i) + 1))], [], mL (g_cd M) (g_n M) (g_pr M) (g_st M) (g_he M) (g_wt M) (g_wn M) (g_cv M) (g_qs M) (g_qu M) (g_v5 M) (g_v6 M) (g_v7 M))) ok_r_count rfl ?_
        rw [nI_add, nI_1]
        have e : cnt (fun i => decide (nI (g_st M i) = (nI 5) - nI 1)) (f + 1) i c = cnt (fun i => decide (nI (g_st M i) = (nI 5) - nI 1)) f (i + 1) (c + 1) := by rw [cnt]; simp only [h2, decide_true, decide_false, Bool.false_eq_true, if_false, if_true, Nat.add_zero]
        try rw [e]
        exact ih (i + 1) (by omega) _
set_option maxHeartbeats 4000000 in
theorem rm_count5 {d : Nat} {M : MSt} (hM : WM M) : AM r_count (d) (.inl (some (.int (nI (g_v5 M))))) [.ref 0, .int (nI 5)] (wM M) (wM (m_cd M 0)) := by
  refine aq_enter pl_r_count (Nat.le_of_ble_eq_true rfl) ?_
  show AW r_count _ _ _ (0, [some (.ref 0), some (.int (nI 5)), none, none], [], mL (g_cd M) (g_n M) (g_pr M) (g_st M) (g_he M) (g_wt M) (g_wn M) (g_cv M) (g_qs M) (g_qu M) (g_v5 M) (g_v6 M) (g_v7 M))
  refine aq_go (n := 7) (c1 := (9, [some (.ref 0), some (.int (nI 5)), some (.int (nI 0)), some (.int (nI 0))], [], mR (nI 0) (nI (g_n M)) (fun ι => nI ((g_pr M) ι)) (fun ι => nI ((g_st M) ι)) (fun ι => oI ((g_he M) ι)) (fun ι => oI ((g_wt M) ι)) (fun ι => nI ((g_wn M) ι)) (fun ι => bI ((g_cv M) ι)) (fun ι => nI ((g_qs M) ι)) (fun ι => nI ((g_qu M) ι)) (nI (g_v5 M)) (nI (g_v6 M)) (nI (g_v7 M)))) (P := aq_fi 1 0 = true) ok_r_count rfl fi1_0 ?_
  exact lp_count5 (M := m_cd M 0) hM.1 (g_n M) 0 (Nat.zero_add _) 0
set_option maxHeartbeats 4000000 in
theorem lp_count6 {d : Nat} {M : MSt} (hn : g_n M ≤ 60) : ∀ (f i : Nat), i + f = g_n M → ∀ c : Nat,  AW r_count (d) (.inl (some (.int (nI (g_v6 M))))) (wM M) (9, [some (.ref 0), some (.int (nI 6)), some (.int (nI c)), some (.int (nI i))], [], mL (g_cd M) (g_n M) (g_pr M) (g_st M) (g_he M) (g_wt M) (g_wn M) (g_cv M) (g_qs M) (g_qu M) (g_v5 M) (g_v6 M) (g_v7 M)) := by
  intro f
  induction f with
  | zero =>
    intro i hif c
    refine aq_gn (n := 3) (c1 := (14, [some (.ref 0), some (.int (nI 6)), some (.int (nI c)), some (.int (nI i))], [.int (nI (g_n M)), .int (nI i)], mL (g_cd M) (g_n M) (g_pr M) (g_st M) (g_he M) (g_wt M) (g_wn M) (g_cv M) (g_qs M) (g_qu M) (g_v5 M) (g_v6 M) (g_v7 M))) ok_r_count rfl ?_
    refine aq_icmp_ge ok_r_count rfl (fun h => ?_) (fun h => ?_)
    · refine aq_gn (n := 1) (c1 := (44, [some (.ref 0), some (.int (nI 6)), some (.int (nI c)), some (.int (nI i))], [.int (nI 6)], mL (g_cd M) (g_n M) (g_pr M) (g_st M) (g_he M) (g_wt M) (g_wn M) (g_cv M) (g_qs M) (g_qu M) (g_v5 M) (g_v6 M) (g_v7 M))) ok_r_count rfl ?_
      refine aq_tabI (tgt := 104) ok_r_count rfl (by decide) (by decide) rfl (by decide) ?_
      refine aq_gn (n := 2) (c1 := (108, [some (.ref 0), some (.int (nI 6)), some (.int (nI c)), some (.int (nI i))], [.int (nI (g_v6 M))], mL (g_cd M) (g_n M) (g_pr M) (g_st M) (g_he M) (g_wt M) (g_wn M) (g_cv M) (g_qs M) (g_qu M) (g_v5 M) (g_v6 M) (g_v7 M))) ok_r_count rfl ?_
      exact aq_ei ok_r_count rfl rfl rfl rfl
    · exact absurd (nI_le (show g_n M ≤ i by omega) (by omega)) h
  | succ f ih =>
    intro i hif c
    refine aq_gn (n := 3) (c1 := (14, [some (.ref 0), some (.int (nI 6)), some (.int (nI c)), some (.int (nI i))], [.int (nI (g_n M)), .int (nI i)], mL (g_cd M) (g_n M) (g_pr M) (g_st M) (g_he M) (g_wt M) (g_wn M) (g_cv M) (g_qs M) (g_qu M) (g_v5 M) (g_v6 M) (g_v7 M))) ok_r_count rfl ?_
    refine aq_icmp_ge ok_r_count rfl (fun h => ?_) (fun h => ?_)
    · exact absurd (q_le h (by omega) (by omega)) (by omega)
    · refine aq_go (n := 8) (c1 := (27, [some (.ref 0), some (.int (nI 6)), some (.int (nI c)), some (.int (nI i))], [.int ((nI 6) - (nI 1)), .int (nI ((g_st M) (nI i).toNatClampNeg)), .int (nI c)], mL (g_cd M) (g_n M) (g_pr M) (g_st M) (g_he M) (g_wt M) (g_wn M) (g_cv M) (g_qs M) (g_qu M) (g_v5 M) (g_v6 M) (g_v7 M))) (P := vp_in (nI i) 60) ok_r_count rfl (in60 (by omega)) ?_
      rw [cl60 (show i < 60 by omega)]
      refine aq_icmp_ne ok_r_count rfl (fun h2 => ?_) (fun h2 => ?_)
      · refine aq_gn (n := 5) (c1 := (9, [some (.ref 0), some (.int (nI 6)), some (.int ((nI c) + (nI 0))), some (.int ((nI i) + 1))], [], mL (g_cd M) (g_n M) (g_pr M) (g_st M) (g_he M) (g_wt M) (g_wn M) (g_cv M) (g_qs M) (g_qu M) (g_v5 M) (g_v6 M) (g_v7 M))) ok_r_count rfl ?_
        rw [nI_add, nI_1]
        have e : cnt (fun i => decide (nI (g_st M i) = (nI 6) - nI 1)) (f + 1) i c = cnt (fun i => decide (nI (g_st M i) = (nI 6) - nI 1)) f (i + 1) (c + 0) := by rw [cnt]; simp only [h2, decide_true, decide_false, Bool.false_eq_true, if_false, if_true, Nat.add_zero]
        try rw [e]
        exact ih (i + 1) (by omega) _
      · refine aq_gn (n := 6) (c1 := (9, [some (.ref 0), some (.int (nI 6)), some (.int ((nI c) + (nI 1))), some (.int ((nI i) + 1))], [], mL (g_cd M) (g_n M) (g_pr M) (g_st M) (g_he M) (g_wt M) (g_wn M) (g_cv M) (g_qs M) (g_qu M) (g_v5 M) (g_v6 M) (g_v7 M))) ok_r_count rfl ?_
        rw [nI_add, nI_1]
        have e : cnt (fun i => decide (nI (g_st M i) = (nI 6) - nI 1)) (f + 1) i c = cnt (fun i => decide (nI (g_st M i) = (nI 6) - nI 1)) f (i + 1) (c + 1) := by rw [cnt]; simp only [h2, decide_true, decide_false, Bool.false_eq_true, if_false, if_true, Nat.add_zero]
        try rw [e]
        exact ih (i + 1) (by omega) _
set_option maxHeartbeats 4000000 in
theorem rm_count6 {d : Nat} {M : MSt} (hM : WM M) : AM r_count (d) (.inl (some (.int (nI (g_v6 M))))) [.ref 0, .int (nI 6)] (wM M) (wM (m_cd M 0)) := by
  refine aq_enter pl_r_count (Nat.le_of_ble_eq_true rfl) ?_
  show AW r_count _ _ _ (0, [some (.ref 0), some (.int (nI 6)), none, none], [], mL (g_cd M) (g_n M) (g_pr M) (g_st M) (g_he M) (g_wt M) (g_wn M) (g_cv M) (g_qs M) (g_qu M) (g_v5 M) (g_v6 M) (g_v7 M))
  refine aq_go (n := 7) (c1 := (9, [some (.ref 0), some (.int (nI 6)), some (.int (nI 0)), some (.int (nI 0))], [], mR (nI 0) (nI (g_n M)) (fun ι => nI ((g_pr M) ι)) (fun ι => nI ((g_st M) ι)) (fun ι => oI ((g_he M) ι)) (fun ι => oI ((g_wt M) ι)) (fun ι => nI ((g_wn M) ι)) (fun ι => bI ((g_cv M) ι)) (fun ι => nI ((g_qs M) ι)) (fun ι => nI ((g_qu M) ι)) (nI (g_v5 M)) (nI (g_v6 M)) (nI (g_v7 M)))) (P := aq_fi 1 0 = true) ok_r_count rfl fi1_0 ?_
  exact lp_count6 (M := m_cd M 0) hM.1 (g_n M) 0 (Nat.zero_add _) 0
set_option maxHeartbeats 4000000 in
theorem lp_count7 {d : Nat} {M : MSt} (hn : g_n M ≤ 60) : ∀ (f i : Nat), i + f = g_n M → ∀ c : Nat,  AW r_count (d) (.inl (some (.int (nI (g_v7 M))))) (wM M) (9, [some (.ref 0), some (.int (nI 7)), some (.int (nI c)), some (.int (nI i))], [], mL (g_cd M) (g_n M) (g_pr M) (g_st M) (g_he M) (g_wt M) (g_wn M) (g_cv M) (g_qs M) (g_qu M) (g_v5 M) (g_v6 M) (g_v7 M)) := by
  intro f
  induction f with
  | zero =>
    intro i hif c
    refine aq_gn (n := 3) (c1 := (14, [some (.ref 0), some (.int (nI 7)), some (.int (nI c)), some (.int (nI i))], [.int (nI (g_n M)), .int (nI i)], mL (g_cd M) (g_n M) (g_pr M) (g_st M) (g_he M) (g_wt M) (g_wn M) (g_cv M) (g_qs M) (g_qu M) (g_v5 M) (g_v6 M) (g_v7 M))) ok_r_count rfl ?_
    refine aq_icmp_ge ok_r_count rfl (fun h => ?_) (fun h => ?_)
    · refine aq_gn (n := 1) (c1 := (44, [some (.ref 0), some (.int (nI 7)), some (.int (nI c)), some (.int (nI i))], [.int (nI 7)], mL (g_cd M) (g_n M) (g_pr M) (g_st M) (g_he M) (g_wt M) (g_wn M) (g_cv M) (g_qs M) (g_qu M) (g_v5 M) (g_v6 M) (g_v7 M))) ok_r_count rfl ?_
      refine aq_tabI (tgt := 109) ok_r_count rfl (by decide) (by decide) rfl (by decide) ?_
      refine aq_gn (n := 2) (c1 := (113, [some (.ref 0), some (.int (nI 7)), some (.int (nI c)), some (.int (nI i))], [.int (nI (g_v7 M))], mL (g_cd M) (g_n M) (g_pr M) (g_st M) (g_he M) (g_wt M) (g_wn M) (g_cv M) (g_qs M) (g_qu M) (g_v5 M) (g_v6 M) (g_v7 M))) ok_r_count rfl ?_
      exact aq_ei ok_r_count rfl rfl rfl rfl
    · exact absurd (nI_le (show g_n M ≤ i by omega) (by omega)) h
  | succ f ih =>
    intro i hif c
    refine aq_gn (n := 3) (c1 := (14, [some (.ref 0), some (.int (nI 7)), some (.int (nI c)), some (.int (nI i))], [.int (nI (g_n M)), .int (nI i)], mL (g_cd M) (g_n M) (g_pr M) (g_st M) (g_he M) (g_wt M) (g_wn M) (g_cv M) (g_qs M) (g_qu M) (g_v5 M) (g_v6 M) (g_v7 M))) ok_r_count rfl ?_
    refine aq_icmp_ge ok_r_count rfl (fun h => ?_) (fun h => ?_)
    · exact absurd (q_le h (by omega) (by omega)) (by omega)
    · refine aq_go (n := 8) (c1 := (27, [some (.ref 0), some (.int (nI 7)), some (.int (nI c)), some (.int (nI i))], [.int ((nI 7) - (nI 1)), .int (nI ((g_st M) (nI i).toNatClampNeg)), .int (nI c)], mL (g_cd M) (g_n M) (g_pr M) (g_st M) (g_he M) (g_wt M) (g_wn M) (g_cv M) (g_qs M) (g_qu M) (g_v5 M) (g_v6 M) (g_v7 M))) (P := vp_in (nI i) 60) ok_r_count rfl (in60 (by omega)) ?_
      rw [cl60 (show i < 60 by omega)]
      refine aq_icmp_ne ok_r_count rfl (fun h2 => ?_) (fun h2 => ?_)
      · refine aq_gn (n := 5) (c1 := (9, [some (.ref 0), some (.int (nI 7)), some (.int ((nI c) + (nI 0))), some (.int ((nI i) + 1))], [], mL (g_cd M) (g_n M) (g_pr M) (g_st M) (g_he M) (g_wt M) (g_wn M) (g_cv M) (g_qs M) (g_qu M) (g_v5 M) (g_v6 M) (g_v7 M))) ok_r_count rfl ?_
        rw [nI_add, nI_1]
        have e : cnt (fun i => decide (nI (g_st M i) = (nI 7) - nI 1)) (f + 1) i c = cnt (fun i => decide (nI (g_st M i) = (nI 7) - nI 1)) f (i + 1) (c + 0) := by rw [cnt]; simp only [h2, decide_true, decide_false, Bool.false_eq_true, if_false, if_true, Nat.add_zero]
        try rw [e]
        exact ih (i + 1) (by omega) _
      · refine aq_gn (n := 6) (c1 := (9, [some (.ref 0), some (.int (nI 7)), some (.int ((nI c) + (nI 1))), some (.int ((nI i) + 1))], [], mL (g_cd M) (g_n M) (g_pr M) (g_st M) (g_he M) (g_wt M) (g_wn M) (g_cv M) (g_qs M) (g_qu M) (g_v5 M) (g_v6 M) (g_v7 M))) ok_r_count rfl ?_
        rw [nI_add, nI_1]
        have e : cnt (fun i => decide (nI (g_st M i) = (nI 7) - nI 1)) (f + 1) i c = cnt (fun i => decide (nI (g_st M i) = (nI 7) - nI 1)) f (i + 1) (c + 1) := by rw [cnt]; simp only [h2, decide_true, decide_false, Bool.false_eq_true, if_false, if_true, Nat.add_zero]
        try rw [e]
        exact ih (i + 1) (by omega) _
set_option maxHeartbeats 4000000 in
theorem rm_count7 {d : Nat} {M : MSt} (hM : WM M) : AM r_count (d) (.inl (some (.int (nI (g_v7 M))))) [.ref 0, .int (nI 7)] (wM M) (wM (m_cd M 0)) := by
  refine aq_enter pl_r_count (Nat.le_of_ble_eq_true rfl) ?_
  show AW r_count _ _ _ (0, [some (.ref 0), some (.int (nI 7)), none, none], [], mL (g_cd M) (g_n M) (g_pr M) (g_st M) (g_he M) (g_wt M) (g_wn M) (g_cv M) (g_qs M) (g_qu M) (g_v5 M) (g_v6 M) (g_v7 M))
  refine aq_go (n := 7) (c1 := (9, [some (.ref 0), some (.int (nI 7)), some (.int (nI 0)), some (.int (nI 0))], [], mR (nI 0) (nI (g_n M)) (fun ι => nI ((g_pr M) ι)) (fun ι => nI ((g_st M) ι)) (fun ι => oI ((g_he M) ι)) (fun ι => oI ((g_wt M) ι)) (fun ι => nI ((g_wn M) ι)) (fun ι => bI ((g_cv M) ι)) (fun ι => nI ((g_qs M) ι)) (fun ι => nI ((g_qu M) ι)) (nI (g_v5 M)) (nI (g_v6 M)) (nI (g_v7 M)))) (P := aq_fi 1 0 = true) ok_r_count rfl fi1_0 ?_
  exact lp_count7 (M := m_cd M 0) hM.1 (g_n M) 0 (Nat.zero_add _) 0
set_option maxHeartbeats 4000000 in
theorem lp_countw {d : Nat} {M : MSt} (hn : g_n M ≤ 60) {y : Int32} (hy : y.toInt < 0 ∨ 7 < y.toInt) : ∀ (f i : Nat), i + f = g_n M → ∀ c : Nat,  AW r_count (d) (.inl (some (.int (-1)))) (wM M) (9, [some (.ref 0), some (.int y), some (.int (nI c)), some (.int (nI i))], [], mL (g_cd M) (g_n M) (g_pr M) (g_st M) (g_he M) (g_wt M) (g_wn M) (g_cv M) (g_qs M) (g_qu M) (g_v5 M) (g_v6 M) (g_v7 M)) := by
  intro f
  induction f with
  | zero =>
    intro i hif c
    refine aq_gn (n := 3) (c1 := (14, [some (.ref 0), some (.int y), some (.int (nI c)), some (.int (nI i))], [.int (nI (g_n M)), .int (nI i)], mL (g_cd M) (g_n M) (g_pr M) (g_st M) (g_he M) (g_wt M) (g_wn M) (g_cv M) (g_qs M) (g_qu M) (g_v5 M) (g_v6 M) (g_v7 M))) ok_r_count rfl ?_
    refine aq_icmp_ge ok_r_count rfl (fun h => ?_) (fun h => ?_)
    · refine aq_gn (n := 1) (c1 := (44, [some (.ref 0), some (.int y), some (.int (nI c)), some (.int (nI i))], [.int y], mL (g_cd M) (g_n M) (g_pr M) (g_st M) (g_he M) (g_wt M) (g_wn M) (g_cv M) (g_qs M) (g_qu M) (g_v5 M) (g_v6 M) (g_v7 M))) ok_r_count rfl ?_
      refine aq_tabO (tgt := 114) ok_r_count rfl hy (by decide) ?_
      refine aq_gn (n := 1) (c1 := (115, [some (.ref 0), some (.int y), some (.int (nI c)), some (.int (nI i))], [.int (-1)], mL (g_cd M) (g_n M) (g_pr M) (g_st M) (g_he M) (g_wt M) (g_wn M) (g_cv M) (g_qs M) (g_qu M) (g_v5 M) (g_v6 M) (g_v7 M))) ok_r_count rfl ?_
      exact aq_ei ok_r_count rfl rfl rfl rfl
    · exact absurd (nI_le (show g_n M ≤ i by omega) (by omega)) h
  | succ f ih =>
    intro i hif c
    refine aq_gn (n := 3) (c1 := (14, [some (.ref 0), some (.int y), some (.int (nI c)), some (.int (nI i))], [.int (nI (g_n M)), .int (nI i)], mL (g_cd M) (g_n M) (g_pr M) (g_st M) (g_he M) (g_wt M) (g_wn M) (g_cv M) (g_qs M) (g_qu M) (g_v5 M) (g_v6 M) (g_v7 M))) ok_r_count rfl ?_
    refine aq_icmp_ge ok_r_count rfl (fun h => ?_) (fun h => ?_)
    · exact absurd (q_le h (by omega) (by omega)) (by omega)
    · refine aq_go (n := 8) (c1 := (27, [some (.ref 0), some (.int y), some (.int (nI c)), some (.int (nI i))], [.int (y - (nI 1)), .int (nI ((g_st M) (nI i).toNatClampNeg)), .int (nI c)], mL (g_cd M) (g_n M) (g_pr M) (g_st M) (g_he M) (g_wt M) (g_wn M) (g_cv M) (g_qs M) (g_qu M) (g_v5 M) (g_v6 M) (g_v7 M))) (P := vp_in (nI i) 60) ok_r_count rfl (in60 (by omega)) ?_
      rw [cl60 (show i < 60 by omega)]
      refine aq_icmp_ne ok_r_count rfl (fun h2 => ?_) (fun h2 => ?_)
      · refine aq_gn (n := 5) (c1 := (9, [some (.ref 0), some (.int y), some (.int ((nI c) + (nI 0))), some (.int ((nI i) + 1))], [], mL (g_cd M) (g_n M) (g_pr M) (g_st M) (g_he M) (g_wt M) (g_wn M) (g_cv M) (g_qs M) (g_qu M) (g_v5 M) (g_v6 M) (g_v7 M))) ok_r_count rfl ?_
        rw [nI_add, nI_1]
        have e : cnt (fun i => decide (nI (g_st M i) = y - nI 1)) (f + 1) i c = cnt (fun i => decide (nI (g_st M i) = y - nI 1)) f (i + 1) (c + 0) := by rw [cnt]; simp only [h2, decide_true, decide_false, Bool.false_eq_true, if_false, if_true, Nat.add_zero]
        try rw [e]
        exact ih (i + 1) (by omega) _
      · refine aq_gn (n := 6) (c1 := (9, [some (.ref 0), some (.int y), some (.int ((nI c) + (nI 1))), some (.int ((nI i) + 1))], [], mL (g_cd M) (g_n M) (g_pr M) (g_st M) (g_he M) (g_wt M) (g_wn M) (g_cv M) (g_qs M) (g_qu M) (g_v5 M) (g_v6 M) (g_v7 M))) ok_r_count rfl ?_
        rw [nI_add, nI_1]
        have e : cnt (fun i => decide (nI (g_st M i) = y - nI 1)) (f + 1) i c = cnt (fun i => decide (nI (g_st M i) = y - nI 1)) f (i + 1) (c + 1) := by rw [cnt]; simp only [h2, decide_true, decide_false, Bool.false_eq_true, if_false, if_true, Nat.add_zero]
        try rw [e]
        exact ih (i + 1) (by omega) _
set_option maxHeartbeats 4000000 in
theorem rm_countw {d : Nat} {M : MSt} (hM : WM M) {y : Int32} (hy : y.toInt < 0 ∨ 7 < y.toInt) : AM r_count (d) (.inl (some (.int (-1)))) [.ref 0, .int y] (wM M) (wM (m_cd M 0)) := by
  refine aq_enter pl_r_count (Nat.le_of_ble_eq_true rfl) ?_
  show AW r_count _ _ _ (0, [some (.ref 0), some (.int y), none, none], [], mL (g_cd M) (g_n M) (g_pr M) (g_st M) (g_he M) (g_wt M) (g_wn M) (g_cv M) (g_qs M) (g_qu M) (g_v5 M) (g_v6 M) (g_v7 M))
  refine aq_go (n := 7) (c1 := (9, [some (.ref 0), some (.int y), some (.int (nI 0)), some (.int (nI 0))], [], mR (nI 0) (nI (g_n M)) (fun ι => nI ((g_pr M) ι)) (fun ι => nI ((g_st M) ι)) (fun ι => oI ((g_he M) ι)) (fun ι => oI ((g_wt M) ι)) (fun ι => nI ((g_wn M) ι)) (fun ι => bI ((g_cv M) ι)) (fun ι => nI ((g_qs M) ι)) (fun ι => nI ((g_qu M) ι)) (nI (g_v5 M)) (nI (g_v6 M)) (nI (g_v7 M)))) (P := aq_fi 1 0 = true) ok_r_count rfl fi1_0 ?_
  exact lp_countw (M := m_cd M 0) hM.1 hy (g_n M) 0 (Nat.zero_add _) 0
