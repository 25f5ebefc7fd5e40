/-! THE REFERENCE: serve -/
set_option maxHeartbeats 4000000 in
theorem rm_fitsM {d : Nat} {M : MSt} {t o : Nat} {x : Int32} (h : WM M) (ht : t < 60) (ho : o < 85) : AM r_fits (d + 1) (.inl (some (.int (bI (ftF (g_he M) t o x (g_n M) 0 true))))) [.ref 0, .int (nI t), .int (nI o), .int x] (wM M) (wM M) := rm_fits ht ho h.1
set_option maxHeartbeats 4000000 in
theorem rm_modeOfM {d : Nat} {M : MSt} {t o : Nat} (ht : t < 60) (ho : o < 85) : AM r_modeOf d (.inl (some (.int (mdI (g_he M) t o)))) [.ref 0, .int (nI t), .int (nI o)] (wM M) (wM M) := rm_modeOf ht ho
set_option maxHeartbeats 4000000 in
theorem rm_isTransactionM {d : Nat} {M : MSt} (x : Int32) : AM r_isTransaction d (.inl (some (.int (bI (isT (g_n M) x))))) [.ref 0, .int x] (wM M) (wM M) := rm_isTransaction x
set_option maxHeartbeats 4000000 in
theorem lp_mserve {d o : Nat} (ho : o < 85) : ∀ (f g : Nat) (M : MSt), g_qs M o ≤ f → WM M → AW r_serve (d + 2) (.inl (some (.int (nI (msF o f g M).2)))) (wM (msF o f g M).1) (2, [some (.ref 0), some (.int (nI o)), some (.int (nI g)), none], [], wM M) := by
  intro f
  induction f with
  | zero =>
    intro g M hf hM
    refine aq_go (n := 4) (c1 := (8, [some (.ref 0), some (.int (nI o)), some (.int (nI g)), none], [.int (nI ((g_qs M) (nI o).toNatClampNeg))], mL (g_cd M) (g_n M) (g_pr M) (g_st M) (g_he M) (g_wt M) (g_wn M) (g_cv M) (g_qs M) (g_qu M) (g_v5 M) (g_v6 M) (g_v7 M))) (P := vp_in (nI o) 85) ok_r_serve rfl (inN ho (by omega)) ?_
    rw [clN (show o < 6000 by omega)]
    refine aq_if_le ok_r_serve rfl (fun h => ?_) (fun h => ?_)
    · refine aq_gn (n := 1) (c1 := (98, [some (.ref 0), some (.int (nI o)), some (.int (nI g)), none], [.int (nI g)], wM M)) ok_r_serve rfl ?_
      exact aq_ei ok_r_serve rfl rfl rfl rfl
    · exact absurd (nI_le (b := 0) (show g_qs M o ≤ 0 by omega) (by omega)) h
  | succ f ih =>
    intro g M hf hM
    have hq6 : g_qu M (60 * o) < 60 := hM.2.1 _
    refine aq_go (n := 4) (c1 := (8, [some (.ref 0), some (.int (nI o)), some (.int (nI g)), none], [.int (nI ((g_qs M) (nI o).toNatClampNeg))], mL (g_cd M) (g_n M) (g_pr M) (g_st M) (g_he M) (g_wt M) (g_wn M) (g_cv M) (g_qs M) (g_qu M) (g_v5 M) (g_v6 M) (g_v7 M))) (P := vp_in (nI o) 85) ok_r_serve rfl (inN ho (by omega)) ?_
    rw [clN (show o < 6000 by omega)]
    refine aq_if_le ok_r_serve rfl (fun h => ?_) (fun h => ?_)
    · have hz := q_le (b := 0) h (by have := hM.2.2.1 o; omega) (by omega)
      have e : msF o (f + 1) g M = (M, g) := by rw [msF, if_neg (fun q => by omega)]
      rw [e]
      refine aq_gn (n := 1) (c1 := (98, [some (.ref 0), some (.int (nI o)), some (.int (nI g)), none], [.int (nI g)], wM M)) ok_r_serve rfl ?_
      exact aq_ei ok_r_serve rfl rfl rfl rfl
    · have hz : 0 < g_qs M o := q_nle (b := 0) h (by have := hM.2.2.1 o; omega) (by omega)
      refine aq_go (n := 17) (c1 := (36, [some (.ref 0), some (.int (nI o)), some (.int (nI g)), none], [.int (nI ((g_wn M) (nI ((g_qu M) ((nI 60) * (nI o)).toNatClampNeg)).toNatClampNeg)), .int (nI o), .int (nI ((g_qu M) ((nI 60) * (nI o)).toNatClampNeg)), .ref 0], mL (g_cd M) (g_n M) (g_pr M) (g_st M) (g_he M) (g_wt M) (g_wn M) (g_cv M) (g_qs M) (g_qu M) (g_v5 M) (g_v6 M) (g_v7 M))) (P := vp_in ((nI 60) * (nI o)) 5100 ∧ vp_in ((nI 60) * (nI o)) 5100 ∧ vp_in (nI ((g_qu M) ((nI 60) * (nI o)).toNatClampNeg)) 60) ok_r_serve rfl ⟨(in6z ho), (in6z ho), (by rw [cl6z ho]; exact in60 hq6)⟩ ?_
      rw [cl6z ho, cl60 hq6]
      show AW r_serve _ _ _ (36, [some (.ref 0), some (.int (nI o)), some (.int (nI g)), none], [.int (nI (g_wn M (g_qu M (60 * o)))), .int (nI o), .int (nI (g_qu M (60 * o))), .ref 0], wM M)
      refine aq_callV (as := [.int (nI (g_qu M (60 * o))), .int (nI o), .int (nI (g_wn M (g_qu M (60 * o))))]) (st := []) ok_r_serve rfl c1_r_fits (rm_fitsM hM hq6 ho) rfl (Nat.le_of_ble_eq_true rfl) rfl rfl rfl ?_
      refine aq_if_eq ok_r_serve rfl (fun h2 => ?_) (fun h2 => ?_)
      · have hb := (bI_0 _).mp h2
        have e : msF o (f + 1) g M = (M, g) := by rw [msF, if_neg (fun q => by rw [show mfit M o = false from hb] at q; cases q.2)]
        rw [e]
        refine aq_gn (n := 1) (c1 := (98, [some (.ref 0), some (.int (nI o)), some (.int (nI g)), none], [.int (nI g)], wM M)) ok_r_serve rfl ?_
        exact aq_ei ok_r_serve rfl rfl rfl rfl
      · have hb : mfit M o = true := by cases hy : mfit M o with | true => rfl | false => exact absurd ((bI_0 _).mpr hy) h2
        have e : msF o (f + 1) g M = msF o f (g + 1) (mgr M o) := by rw [msF, if_pos ⟨hz, hb⟩]
        rw [e]
        show AW r_serve _ _ _ (42, [some (.ref 0), some (.int (nI o)), some (.int (nI g)), none], [], mL (g_cd M) (g_n M) (g_pr M) (g_st M) (g_he M) (g_wt M) (g_wn M) (g_cv M) (g_qs M) (g_qu M) (g_v5 M) (g_v6 M) (g_v7 M))
        refine aq_go (n := 10) (c1 := (55, [some (.ref 0), some (.int (nI o)), some (.int (nI g)), some (.int (nI ((g_qu M) ((nI 60) * (nI o)).toNatClampNeg)))], [.int (nI o), .int (nI ((g_qu M) ((nI 60) * (nI o)).toNatClampNeg)), .ref 0], mL (g_cd M) (g_n M) (g_pr M) (g_st M) (g_he M) (g_wt M) (g_wn M) (g_cv M) (g_qs M) (g_qu M) (g_v5 M) (g_v6 M) (g_v7 M))) (P := vp_in ((nI 60) * (nI o)) 5100) ok_r_serve rfl (in6z ho) ?_
        rw [cl6z ho]
        refine aq_callV (as := [.int (nI (g_qu M (60 * o))), .int (nI o)]) (st := []) ok_r_serve rfl c1_r_dequeue (rm_dequeue (d := d + 1) hq6 ho (hM.2.2.1 o) hM.2.1) rfl (Nat.le_of_ble_eq_true rfl) rfl rfl rfl ?_
        refine aq_go (n := 26) (c1 := (2, [some (.ref 0), some (.int (nI o)), some (.int ((nI g) + 1)), some (.int (nI (g_qu M (60 * o))))], [], mR (nI (g_cd M)) (nI (g_n M)) (fun ι => nI ((g_pr M) ι)) (upd (fun ι => nI ((g_st M) ι)) (nI (g_qu M (60 * o))).toNatClampNeg (nI 0)) (upd (fun ι => oI ((g_he M) ι)) (((nI 60) * (nI o)) + (nI (g_qu M (60 * o)))).toNatClampNeg ((nI ((g_wn M) (nI (g_qu M (60 * o))).toNatClampNeg)) + (nI 1))) (upd (fun ι => oI ((g_wt M) ι)) (nI (g_qu M (60 * o))).toNatClampNeg (-1)) (fun ι => nI ((g_wn M) ι)) (fun ι => bI ((g_cv M) ι)) (fun ι => nI ((va_up (g_qs M) o ((lqF (g_qu M (60 * o)) (g_qs M o) (60 * o) (60 * o) (g_qu M)).2 - 60 * o)) ι)) (fun ι => nI (((lqF (g_qu M (60 * o)) (g_qs M o) (60 * o) (60 * o) (g_qu M)).1) ι)) (nI (g_v5 M)) (nI (g_v6 M)) (nI (g_v7 M)))) (P := vp_in (nI (g_qu M (60 * o))) 60 ∧ vp_in (((nI 60) * (nI o)) + (nI (g_qu M (60 * o)))) 5100 ∧ vp_in (nI (g_qu M (60 * o))) 60 ∧ vp_in (nI (g_qu M (60 * o))) 60) ok_r_serve rfl ⟨(in60 hq6), (in6 ho hq6), (in60 hq6), (in60 hq6)⟩ ?_
        rw [cl60 hq6, cl6 ho hq6, nI_add, upd_o, upd_m, upd_n, nI_1]
        refine aq_drop 3 ?_
        exact ih (g + 1) (mgr M o) (by have := qs_mgr hz; omega) (WM_mgr hM o)
set_option maxHeartbeats 4000000 in
theorem rm_serve {d : Nat} {o : Nat} {M : MSt} (hM : WM M) (ho : o < 85) : AM r_serve (d + 2) (.inl (some (.int (nI (ms M o).2)))) [.ref 0, .int (nI o)] (wM M) (wM (ms M o).1) := by
  refine aq_enter pl_r_serve (Nat.le_of_ble_eq_true rfl) ?_
  refine aq_gn (n := 2) (c1 := (2, [some (.ref 0), some (.int (nI o)), some (.int (nI 0)), none], [], wM M)) ok_r_serve rfl ?_
  exact lp_mserve ho 60 0 M (hM.2.2.1 o) hM
def mbF (qu : Nat → Nat) (t : Nat) : Nat → Nat → Int64 → Int64
  | 0, _, a => a
  | f + 1, i, a => if qu i = t then a else mbF qu t f (i + 1) (a ||| lbit (qu i))
def mcF (he : Nat → Option Nat) (t o : Nat) (x : Int32) : Nat → Nat → Int64 → Int64
  | 0, _, a => a
  | f + 1, u, a => mcF he t o x f (u + 1) (if ¬ u = t ∧ ¬ mdI he u o < 0 ∧ tgI (mdI he u o) x = false then a ||| lbit u else a)
def mwb (M : MSt) (t : Nat) : Int64 := match g_wt M t with
  | none => 0
  | some o => mbF (g_qu M) t (g_qs M o) (60 * o) (mcF (g_he M) t o (nI (g_wn M t)) (g_n M) 0 0)
theorem lor0 (a : Int64) : a ||| 0 = a := lb_ext (fun i _ => by rw [lb_or, lb_0, Bool.or_false])
set_option maxHeartbeats 4000000 in
theorem lp_wb2 {d : Nat} {M : MSt} {t o : Nat} (hM : WM M) (ht : t < 60) (ho : o < 85) : ∀ (f i : Nat) (a : Int64), i + f ≤ 5100 → (∃ j, i ≤ j ∧ j < i + f ∧ g_qu M j = t) → AW r_waitBits d (.inl (some (.long (mbF (g_qu M) t f i a)))) (wM M) (88, [some (.ref 0), some (.int (nI t)), some (.long a), none, some (.int (nI o)), some (.int (nI i)), none], [], wM M) := by
  intro f
  induction f with
  | zero => intro i a hi hj; obtain ⟨j, h1, h2, -⟩ := hj; omega
  | succ f ih =>
    intro i a hi hj
    refine aq_go (n := 5) (c1 := (96, [some (.ref 0), some (.int (nI t)), some (.long a), none, some (.int (nI o)), some (.int (nI i)), none], [.int (nI t), .int (nI ((g_qu M) (nI i).toNatClampNeg))], mL (g_cd M) (g_n M) (g_pr M) (g_st M) (g_he M) (g_wt M) (g_wn M) (g_cv M) (g_qs M) (g_qu M) (g_v5 M) (g_v6 M) (g_v7 M))) (P := vp_in (nI i) 5100) ok_r_waitBits rfl (inN (show i < 5100 by omega) (by omega)) ?_
    rw [clN (show i < 6000 by omega)]
    refine aq_icmp_eq ok_r_waitBits rfl (fun h => ?_) (fun h => ?_)
    · have hx := q_eq h (by have := hM.2.1 i; omega) (by omega)
      refine aq_gn (n := 1) (c1 := (118, [some (.ref 0), some (.int (nI t)), some (.long a), none, some (.int (nI o)), some (.int (nI i)), none], [.long a], wM M)) ok_r_waitBits rfl ?_
      exact aq_el ok_r_waitBits rfl rfl (by rw [mbF, if_pos hx]) rfl
    · have hx := q_ne h
      refine aq_go (n := 11) (c1 := (88, [some (.ref 0), some (.int (nI t)), some (.long (a ||| (lbit ((g_qu M) (nI i).toNatClampNeg)))), none, some (.int (nI o)), some (.int ((nI i) + 1)), none], [], mL (g_cd M) (g_n M) (g_pr M) (g_st M) (g_he M) (g_wt M) (g_wn M) (g_cv M) (g_qs M) (g_qu M) (g_v5 M) (g_v6 M) (g_v7 M))) (P := vp_in (nI i) 5100) ok_r_waitBits rfl (inN (show i < 5100 by omega) (by omega)) ?_
      rw [clN (show i < 6000 by omega), nI_1]
      have e : mbF (g_qu M) t (f + 1) i a = mbF (g_qu M) t f (i + 1) (a ||| lbit (g_qu M i)) := by rw [mbF, if_neg hx]
      rw [e]
      refine ih (i + 1) _ (by omega) ?_
      obtain ⟨j, h1, h2, h3⟩ := hj
      exact ⟨j, Nat.lt_of_le_of_ne h1 (fun q => hx (by rw [q]; exact h3)), by omega, h3⟩
set_option maxHeartbeats 4000000 in
theorem lp_wb1 {d : Nat} {M : MSt} {t o : Nat} (hM : WM M) (hn : g_n M ≤ 60) (ht : t < 60) (ho : o < 85) (hj : ∃ j, 60 * o ≤ j ∧ j < 60 * o + g_qs M o ∧ g_qu M j = t) : ∀ (f i : Nat), i + f = g_n M → ∀ a : Int64,  AW r_waitBits (d + 1) (.inl (some (.long (mbF (g_qu M) t (g_qs M o) (60 * o) (mcF (g_he M) t o (nI (g_wn M t)) f i a))))) (wM M) (20, [some (.ref 0), some (.int (nI t)), some (.long a), none, some (.int (nI o)), some (.int (nI i)), none], [], mL (g_cd M) (g_n M) (g_pr M) (g_st M) (g_he M) (g_wt M) (g_wn M) (g_cv M) (g_qs M) (g_qu M) (g_v5 M) (g_v6 M) (g_v7 M)) := by
  intro f
  induction f with
  | zero =>
    intro i hif a
    refine aq_gn (n := 3) (c1 := (26, [some (.ref 0), some (.int (nI t)), some (.long a), none, some (.int (nI o)), some (.int (nI i)), none], [.int (nI (g_n M)), .int (nI i)], mL (g_cd M) (g_n M) (g_pr M) (g_st M) (g_he M) (g_wt M) (g_wn M) (g_cv M) (g_qs M) (g_qu M) (g_v5 M) (g_v6 M) (g_v7 M))) ok_r_waitBits rfl ?_
    refine aq_icmp_ge ok_r_waitBits rfl (fun h => ?_) (fun h => ?_)
    · refine aq_gn (n := 4) (c1 := (88, [some (.ref 0), some (.int (nI t)), some (.long a), none, some (.int (nI o)), some (.int ((nI 60) * (nI o))), none], [], mL (g_cd M) (g_n M) (g_pr M) (g_st M) (g_he M) (g_wt M) (g_wn M) (g_cv M) (g_qs M) (g_qu M) (g_v5 M) (g_v6 M) (g_v7 M))) ok_r_waitBits rfl ?_
      rw [ix6z]
      exact lp_wb2 hM ht ho (g_qs M o) (60 * o) a (by have := hM.2.2.1 o; omega) hj
    · exact absurd (nI_le (show g_n M ≤ i by omega) (by omega)) h
  | succ f ih =>
    intro i hif a
    refine aq_gn (n := 3) (c1 := (26, [some (.ref 0), some (.int (nI t)), some (.long a), none, some (.int (nI o)), some (.int (nI i)), none], [.int (nI (g_n M)), .int (nI i)], mL (g_cd M) (g_n M) (g_pr M) (g_st M) (g_he M) (g_wt M) (g_wn M) (g_cv M) (g_qs M) (g_qu M) (g_v5 M) (g_v6 M) (g_v7 M))) ok_r_waitBits rfl ?_
    refine aq_icmp_ge ok_r_waitBits rfl (fun h => ?_) (fun h => ?_)
    · exact absurd (q_le h (by omega) (by omega)) (by omega)
    · refine aq_gn (n := 3) (c1 := (34, [some (.ref 0), some (.int (nI t)), some (.long a), none, some (.int (nI o)), some (.int (nI i)), none], [.int (nI o), .int (nI i), .ref 0], wM M)) ok_r_waitBits rfl ?_
      refine aq_callV (as := [.int (nI i), .int (nI o)]) (st := []) ok_r_waitBits rfl c1_r_modeOf (rm_modeOfM (show i < 60 by have := hM.1; omega) ho) rfl (Nat.le_of_ble_eq_true rfl) rfl rfl rfl ?_
      refine aq_gn (n := 4) (c1 := (43, [some (.ref 0), some (.int (nI t)), some (.long a), none, some (.int (nI o)), some (.int (nI i)), some (.int (mdI (g_he M) i o))], [.int (nI t), .int (nI i), .long a], mL (g_cd M) (g_n M) (g_pr M) (g_st M) (g_he M) (g_wt M) (g_wn M) (g_cv M) (g_qs M) (g_qu M) (g_v5 M) (g_v6 M) (g_v7 M))) ok_r_waitBits rfl ?_
      refine aq_icmp_eq ok_r_waitBits rfl (fun h2 => ?_) (fun h2 => ?_)
      · have hx := q_eq h2 (by have := hM.1; omega) (by omega)
        refine aq_gn (n := 5) (c1 := (20, [some (.ref 0), some (.int (nI t)), some (.long (a ||| 0)), none, some (.int (nI o)), some (.int ((nI i) + 1)), some (.int (mdI (g_he M) i o))], [], mL (g_cd M) (g_n M) (g_pr M) (g_st M) (g_he M) (g_wt M) (g_wn M) (g_cv M) (g_qs M) (g_qu M) (g_v5 M) (g_v6 M) (g_v7 M))) ok_r_waitBits rfl ?_
        rw [lor0, nI_1]
        have e : mcF (g_he M) t o (nI (g_wn M t)) (f + 1) i a = mcF (g_he M) t o (nI (g_wn M t)) f (i + 1) a := by rw [mcF]; simp [hx]
        rw [e]
        refine aq_drop 6 ?_
        exact ih (i + 1) (by omega) _
      · have hx := q_ne h2
        refine aq_gn (n := 1) (c1 := (48, [some (.ref 0), some (.int (nI t)), some (.long a), none, some (.int (nI o)), some (.int (nI i)), some (.int (mdI (g_he M) i o))], [.int (mdI (g_he M) i o), .long a], mL (g_cd M) (g_n M) (g_pr M) (g_st M) (g_he M) (g_wt M) (g_wn M) (g_cv M) (g_qs M) (g_qu M) (g_v5 M) (g_v6 M) (g_v7 M))) ok_r_waitBits rfl ?_
        refine aq_if_lt ok_r_waitBits rfl (fun h3 => ?_) (fun h3 => ?_)
        · refine aq_gn (n := 5) (c1 := (20, [some (.ref 0), some (.int (nI t)), some (.long (a ||| 0)), none, some (.int (nI o)), some (.int ((nI i) + 1)), some (.int (mdI (g_he M) i o))], [], mL (g_cd M) (g_n M) (g_pr M) (g_st M) (g_he M) (g_wt M) (g_wn M) (g_cv M) (g_qs M) (g_qu M) (g_v5 M) (g_v6 M) (g_v7 M))) ok_r_waitBits rfl ?_
          rw [lor0, nI_1]
          have e : mcF (g_he M) t o (nI (g_wn M t)) (f + 1) i a = mcF (g_he M) t o (nI (g_wn M t)) f (i + 1) a := by rw [mcF]; rw [if_neg (fun q => q.2.1 h3)]
          rw [e]
          refine aq_drop 6 ?_
          exact ih (i + 1) (by omega) _
        · refine aq_go (n := 5) (c1 := (59, [some (.ref 0), some (.int (nI t)), some (.long a), none, some (.int (nI o)), some (.int (nI i)), some (.int (mdI (g_he M) i o))], [.int (nI ((g_wn M) (nI t).toNatClampNeg)), .int (mdI (g_he M) i o), .long a], mL (g_cd M) (g_n M) (g_pr M) (g_st M) (g_he M) (g_wt M) (g_wn M) (g_cv M) (g_qs M) (g_qu M) (g_v5 M) (g_v6 M) (g_v7 M))) (P := vp_in (nI t) 60) ok_r_waitBits rfl (in60 ht) ?_
          rw [cl60 ht]
          refine aq_callS (as := [.int (mdI (g_he M) i o), .int (nI ((g_wn M) t))]) (st := [.long a]) ok_r_waitBits rfl c1_r_together (rm_together (mdI (g_he M) i o) (nI (g_wn M t))) rfl (Nat.le_of_ble_eq_true rfl) ?_
          refine aq_if_ne ok_r_waitBits rfl (fun h4 => ?_) (fun h4 => ?_)
          · have hg : tgI (mdI (g_he M) i o) (nI (g_wn M t)) = true := by cases hy : tgI (mdI (g_he M) i o) (nI (g_wn M t)) with | true => rfl | false => exact absurd ((bI_0 _).mpr hy) h4
            refine aq_gn (n := 5) (c1 := (20, [some (.ref 0), some (.int (nI t)), some (.long (a ||| 0)), none, some (.int (nI o)), some (.int ((nI i) + 1)), some (.int (mdI (g_he M) i o))], [], mL (g_cd M) (g_n M) (g_pr M) (g_st M) (g_he M) (g_wt M) (g_wn M) (g_cv M) (g_qs M) (g_qu M) (g_v5 M) (g_v6 M) (g_v7 M))) ok_r_waitBits rfl ?_
            rw [lor0, nI_1]
            have e : mcF (g_he M) t o (nI (g_wn M t)) (f + 1) i a = mcF (g_he M) t o (nI (g_wn M t)) f (i + 1) a := by rw [mcF]; rw [if_neg (fun q => by rw [hg] at q; cases q.2.2)]
            rw [e]
            refine aq_drop 6 ?_
            exact ih (i + 1) (by omega) _
          · have hg := (bI_0 _).mp h4
            refine aq_gn (n := 8) (c1 := (20, [some (.ref 0), some (.int (nI t)), some (.long (a ||| (lbit i))), none, some (.int (nI o)), some (.int ((nI i) + 1)), some (.int (mdI (g_he M) i o))], [], mL (g_cd M) (g_n M) (g_pr M) (g_st M) (g_he M) (g_wt M) (g_wn M) (g_cv M) (g_qs M) (g_qu M) (g_v5 M) (g_v6 M) (g_v7 M))) ok_r_waitBits rfl ?_
            rw [nI_1]
            have e : mcF (g_he M) t o (nI (g_wn M t)) (f + 1) i a = mcF (g_he M) t o (nI (g_wn M t)) f (i + 1) (a ||| lbit i) := by rw [mcF]; rw [if_pos ⟨hx, h3, hg⟩]
            rw [e]
            refine aq_drop 6 ?_
            exact ih (i + 1) (by omega) _
set_option maxHeartbeats 4000000 in
theorem rm_waitBits {d : Nat} {M : MSt} {t : Nat} (hM : WM M) (hQ : WQ M) (ht : t < 60) (htn : t < g_n M) : AM r_waitBits (d + 1) (.inl (some (.long (mwb M t)))) [.ref 0, .int (nI t)] (wM M) (wM M) := by
  refine aq_enter pl_r_waitBits (Nat.le_of_ble_eq_true rfl) ?_
  refine aq_go (n := 8) (c1 := (12, [some (.ref 0), some (.int (nI t)), some (.long 0), none, some (.int (oI ((g_wt M) (nI t).toNatClampNeg))), none, none], [.int (oI ((g_wt M) (nI t).toNatClampNeg))], mL (g_cd M) (g_n M) (g_pr M) (g_st M) (g_he M) (g_wt M) (g_wn M) (g_cv M) (g_qs M) (g_qu M) (g_v5 M) (g_v6 M) (g_v7 M))) (P := vp_in (nI t) 60) ok_r_waitBits rfl (in60 ht) ?_
  rw [cl60 ht]
  refine aq_if_ge ok_r_waitBits rfl (fun h => ?_) (fun h => ?_)
  · obtain ⟨o, hx⟩ : ∃ o, g_wt M t = some o := by cases hy : g_wt M t with | none => rw [hy] at h; exact absurd h (by decide) | some o => exact ⟨o, rfl⟩
    have ho := hM.2.2.2.1 t o hx
    obtain ⟨j, hj1, hj2⟩ := hQ t o htn hx
    have e : mwb M t = mbF (g_qu M) t (g_qs M o) (60 * o) (mcF (g_he M) t o (nI (g_wn M t)) (g_n M) 0 0) := by unfold mwb; rw [hx]
    rw [e, hx]
    show AW r_waitBits _ _ _ (17, [some (.ref 0), some (.int (nI t)), some (.long 0), none, some (.int (nI o)), none, none], [], mL (g_cd M) (g_n M) (g_pr M) (g_st M) (g_he M) (g_wt M) (g_wn M) (g_cv M) (g_qs M) (g_qu M) (g_v5 M) (g_v6 M) (g_v7 M))
    refine aq_gn (n := 2) (c1 := (20, [some (.ref 0), some (.int (nI t)), some (.long 0), none, some (.int (nI o)), some (.int (nI 0)), none], [], mL (g_cd M) (g_n M) (g_pr M) (g_st M) (g_he M) (g_wt M) (g_wn M) (g_cv M) (g_qs M) (g_qu M) (g_v5 M) (g_v6 M) (g_v7 M))) ok_r_waitBits rfl ?_
    exact lp_wb1 hM hM.1 ht ho ⟨60 * o + j, by omega, by omega, hj2⟩ (g_n M) 0 (by omega) 0
  · have hx : g_wt M t = none := by cases hy : g_wt M t with | none => rfl | some o => rw [hy] at h; exact absurd (nI_pos' (by have := hM.2.2.2.1 t o hy; omega)) h
    refine aq_gn (n := 1) (c1 := (16, [some (.ref 0), some (.int (nI t)), some (.long 0), none, some (.int (oI ((g_wt M) t))), none, none], [.long 0], wM M)) ok_r_waitBits rfl ?_
    exact aq_el ok_r_waitBits rfl rfl (by unfold mwb; rw [hx]) rfl
