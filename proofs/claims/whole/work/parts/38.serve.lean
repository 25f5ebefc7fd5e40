/-! THE CLASS: serve, end -/
set_option maxHeartbeats 4000000 in
theorem lp_serve {d o : Nat} (ho : o < 85) : ∀ (f g : Nat) (S : LSt), g + f = 60 → WF S → AW m_serve (d + 3) (.inl (some (.int (nI (svF o f g S).2)))) (wS (svF o f g S).1) (8, [some (.ref 0), some (.int (nI o)), some (.int (nI g)), some (.int (oI (s_ftg S o)))], [], wS S) := by
  intro f
  induction f with
  | zero =>
    intro g S hg hS
    refine aq_gn (n := 2) (c1 := (10, [some (.ref 0), some (.int (nI o)), some (.int (nI g)), some (.int (oI (s_ftg S o)))], [.int (-1), .int (oI (s_ftg S o))], wS S)) ok_m_serve rfl ?_
    refine aq_icmp_eq ok_m_serve rfl (fun h => ?_) (fun h => ?_)
    · refine aq_gn (n := 1) (c1 := (37, [some (.ref 0), some (.int (nI o)), some (.int (nI g)), some (.int (oI (s_ftg S o)))], [.int (nI g)], wS S)) ok_m_serve rfl ?_
      exact aq_ei ok_m_serve rfl rfl rfl rfl
    · refine aq_gn (n := 2) (c1 := (16, [some (.ref 0), some (.int (nI o)), some (.int (nI g)), some (.int (oI (s_ftg S o)))], [.int (nI 60), .int (nI g)], wS S)) ok_m_serve rfl ?_
      refine aq_icmp_ge ok_m_serve rfl (fun h2 => ?_) (fun h2 => ?_)
      · refine aq_gn (n := 1) (c1 := (37, [some (.ref 0), some (.int (nI o)), some (.int (nI g)), some (.int (oI (s_ftg S o)))], [.int (nI g)], wS S)) ok_m_serve rfl ?_
        exact aq_ei ok_m_serve rfl rfl rfl rfl
      · exact absurd (nI_le (show 60 ≤ g by omega) (by omega)) h2
  | succ f ih =>
    intro g S hg hS
    have hlt : ∀ x, s_ftg S o = some x → x < 60 := fun x q => by obtain ⟨-, ⟨i, -, e⟩, -⟩ := ftg_in q; rw [e]; exact hS.1 i
    refine aq_gn (n := 2) (c1 := (10, [some (.ref 0), some (.int (nI o)), some (.int (nI g)), some (.int (oI (s_ftg S o)))], [.int (-1), .int (oI (s_ftg S o))], wS S)) ok_m_serve rfl ?_
    refine aq_icmp_eq ok_m_serve rfl (fun h => ?_) (fun h => ?_)
    · have hx := oI_m1 h (fun x q => by have := hlt x q; omega)
      have e : svF o (f + 1) g S = (S, g) := by rw [svF, hx]
      rw [e]
      refine aq_gn (n := 1) (c1 := (37, [some (.ref 0), some (.int (nI o)), some (.int (nI g)), some (.int (oI (s_ftg S o)))], [.int (nI g)], wS S)) ok_m_serve rfl ?_
      exact aq_ei ok_m_serve rfl rfl rfl rfl
    · obtain ⟨t, hx⟩ := oI_nm1 h
      have e : svF o (f + 1) g S = svF o f (g + 1) (gr S t) := by rw [svF, hx]
      rw [e, hx]
      show AW m_serve _ _ _ (13, [some (.ref 0), some (.int (nI o)), some (.int (nI g)), some (.int (nI t))], [], wS S)
      refine aq_gn (n := 2) (c1 := (16, [some (.ref 0), some (.int (nI o)), some (.int (nI g)), some (.int (nI t))], [.int (nI 60), .int (nI g)], wS S)) ok_m_serve rfl ?_
      refine aq_icmp_ge ok_m_serve rfl (fun h2 => ?_) (fun h2 => ?_)
      · exact absurd (q_le h2 (by omega) (by omega)) (by omega)
      · refine aq_gn (n := 2) (c1 := (21, [some (.ref 0), some (.int (nI o)), some (.int (nI g)), some (.int (nI t))], [.int (nI t), .ref 0], wS S)) ok_m_serve rfl ?_
        refine aq_callV (as := [.int (nI t)]) (st := []) ok_m_serve rfl c0_m_grant (am_grantS hS hx) rfl (Nat.le_of_ble_eq_true rfl) rfl rfl rfl ?_
        refine aq_gn (n := 3) (c1 := (29, [some (.ref 0), some (.int (nI o)), some (.int ((nI g) + 1)), some (.int (nI t))], [.int (nI o), .ref 0], wS (gr S t))) ok_m_serve rfl ?_
        rw [nI_1]
        refine aq_callV (as := [.int (nI o)]) (st := []) ok_m_serve rfl c0_m_firstToGrant (am_firstS (WF_gr hS t) ho) rfl (Nat.le_of_ble_eq_true rfl) rfl rfl rfl ?_
        refine aq_gn (n := 2) (c1 := (8, [some (.ref 0), some (.int (nI o)), some (.int (nI (g + 1))), some (.int (oI (s_ftg (gr S t) o)))], [], wS (gr S t))) ok_m_serve rfl ?_
        exact ih (g + 1) (gr S t) (by omega) (WF_gr hS t)
set_option maxHeartbeats 4000000 in
theorem am_serve {d o : Nat} {S : LSt} (hS : WF S) (ho : o < 85) : AM m_serve (d + 3) (.inl (some (.int (nI (sv S o).2)))) [.ref 0, .int (nI o)] (wS S) (wS (sv S o).1) := by
  refine aq_enter pl_m_serve (Nat.le_of_ble_eq_true rfl) ?_
  refine aq_gn (n := 4) (c1 := (4, [some (.ref 0), some (.int (nI o)), some (.int (nI 0)), none], [.int (nI o), .ref 0], wS S)) ok_m_serve rfl ?_
  refine aq_callV (as := [.int (nI o)]) (st := []) ok_m_serve rfl c0_m_firstToGrant (am_firstS hS ho) rfl (Nat.le_of_ble_eq_true rfl) rfl rfl rfl ?_
  refine aq_gn (n := 1) (c1 := (8, [some (.ref 0), some (.int (nI o)), some (.int (nI 0)), some (.int (oI (s_ftg S o)))], [], wS S)) ok_m_serve rfl ?_
  exact lp_serve ho 60 0 S rfl hS
def s_hl (S : LSt) (ha : Nat → Int64) : LSt := (s_st S, s_pr S, s_aw S, s_wa S, ha, s_la S, s_wr S, s_n S, s_k S, s_c5 S, s_c6 S, s_c7 S)
theorem WF_hl {S : LSt} (h : WF S) (ha : Nat → Int64) : WF (s_hl S ha) := h
def enF (t : Nat) (a : Option Nat) : Nat → Nat → Nat → LSt → LSt × Nat
  | 0, _, g, S => (S, g)
  | f + 1, o, g, S => if (hm (s_ha S) t o).isSome = true ∨ a = some o then enF t a f (o + 1) (g + (sv (s_hl S (lg (s_ha S) t o)) o).2) (sv (s_hl S (lg (s_ha S) t o)) o).1 else enF t a f (o + 1) g (s_hl S (lg (s_ha S) t o))
/-- out of the line, in its last state -/
def lv (S : LSt) (t x : Nat) : LSt := (va_up (s_st S) t x, s_pr S, va_up (s_aw S) t none, va_up (s_wa S) t none, s_ha S, (lqF t (s_k S) 0 0 (s_la S)).1, s_wr S, s_n S, (lqF t (s_k S) 0 0 (s_la S)).2, s_c5 S, s_c6 S, s_c7 S)
theorem WF_lv {S : LSt} (h : WF S) (t x : Nat) (hx : x < 4) : WF (lv S t x) := WF_leave h t x hx _ _ _
def en (S : LSt) (t x : Nat) : LSt × Nat := enF t (s_aw S t) 85 0 0 (lv S t x)
theorem WF_enF {t : Nat} {a : Option Nat} : ∀ (f o g : Nat) (S : LSt), WF S → WF (enF t a f o g S).1 := by
  intro f
  induction f with
  | zero => intro o g S h; exact h
  | succ f ih =>
    intro o g S h
    unfold enF
    split
    · exact ih _ _ _ (WF_sv (WF_hl h _) o)
    · exact ih _ _ _ (WF_hl h _)
theorem WF_en {S : LSt} (h : WF S) (t x : Nat) (hx : x < 4) : WF (en S t x).1 := WF_enF _ _ _ _ (WF_lv h t x hx)
set_option maxHeartbeats 4000000 in
theorem am_letGoS {d : Nat} {S : LSt} {t o : Nat} (ht : t < 60) (ho : o < 85) : AM m_letGo (d + 2) (.inl (some (.int (bI (hm (s_ha S) t o).isSome)))) [.ref 0, .int (nI t), .int (nI o)] (wS S) (wS (s_hl S (lg (s_ha S) t o))) := am_letGo ht ho
set_option maxHeartbeats 4000000 in
theorem lp_end {d : Nat} {t x : Nat} {a : Option Nat} (ht : t < 60) (hab : ∀ y, a = some y → y < 2 ^ 31) : ∀ (f i : Nat), i + f = 85 → ∀ (g : Nat) (S : LSt), WF S → AW m_end (d + 4) (.inl (some (.int (nI (enF t a f i g S).2)))) (wS (enF t a f i g S).1) (25, [some (.ref 0), some (.int (nI t)), some (.int (nI x)), some (.int (oI a)), some (.int (nI g)), some (.int (nI i))], [], wS S) := by
  intro f
  induction f with
  | zero =>
    intro i hif g S hS
    refine aq_gn (n := 2) (c1 := (29, [some (.ref 0), some (.int (nI t)), some (.int (nI x)), some (.int (oI a)), some (.int (nI g)), some (.int (nI i))], [.int (nI 85), .int (nI i)], wS S)) ok_m_end rfl ?_
    refine aq_icmp_ge ok_m_end rfl (fun h => ?_) (fun h => ?_)
    · refine aq_gn (n := 1) (c1 := (67, [some (.ref 0), some (.int (nI t)), some (.int (nI x)), some (.int (oI a)), some (.int (nI g)), some (.int (nI i))], [.int (nI g)], wS S)) ok_m_end rfl ?_
      exact aq_ei ok_m_end rfl rfl rfl rfl
    · exact absurd (nI_le (show 85 ≤ i by omega) (by omega)) h
  | succ f ih =>
    intro i hif g S hS
    refine aq_gn (n := 2) (c1 := (29, [some (.ref 0), some (.int (nI t)), some (.int (nI x)), some (.int (oI a)), some (.int (nI g)), some (.int (nI i))], [.int (nI 85), .int (nI i)], wS S)) ok_m_end rfl ?_
    refine aq_icmp_ge ok_m_end rfl (fun h => ?_) (fun h => ?_)
    · exact absurd (q_le h (by omega) (by omega)) (by omega)
    · refine aq_gn (n := 3) (c1 := (36, [some (.ref 0), some (.int (nI t)), some (.int (nI x)), some (.int (oI a)), some (.int (nI g)), some (.int (nI i))], [.int (nI i), .int (nI t), .ref 0], wS S)) ok_m_end rfl ?_
      refine aq_callV (as := [.int (nI t), .int (nI i)]) (st := []) ok_m_end rfl c0_m_letGo (am_letGoS (d := d + 1) ht (show i < 85 by omega)) rfl (Nat.le_of_ble_eq_true rfl) rfl rfl rfl ?_
      refine aq_if_ne ok_m_end rfl (fun h2 => ?_) (fun h2 => ?_)
      · have hc : (hm (s_ha S) t i).isSome = true ∨ a = some i := Or.inl (by cases hy : (hm (s_ha S) t i).isSome with | true => rfl | false => exact absurd ((bI_0 _).mpr hy) h2)
        refine aq_gn (n := 3) (c1 := (53, [some (.ref 0), some (.int (nI t)), some (.int (nI x)), some (.int (oI a)), some (.int (nI g)), some (.int (nI i))], [.int (nI i), .ref 0, .int (nI g)], wS (s_hl S (lg (s_ha S) t i)))) ok_m_end rfl ?_
        refine aq_callV (as := [.int (nI i)]) (st := [.int (nI g)]) ok_m_end rfl c0_m_serve (am_serve (WF_hl hS _) (show i < 85 by omega)) rfl (Nat.le_of_ble_eq_true rfl) rfl rfl rfl ?_
        refine aq_gn (n := 4) (c1 := (25, [some (.ref 0), some (.int (nI t)), some (.int (nI x)), some (.int (oI a)), some (.int ((nI g) + (nI (sv (s_hl S (lg (s_ha S) t i)) i).2))), some (.int ((nI i) + 1))], [], wS (sv (s_hl S (lg (s_ha S) t i)) i).1)) ok_m_end rfl ?_
        rw [nI_add, nI_1]
        have e : enF t a (f + 1) i g S = enF t a f (i + 1) (g + (sv (s_hl S (lg (s_ha S) t i)) i).2) (sv (s_hl S (lg (s_ha S) t i)) i).1 := by rw [enF, if_pos hc]
        rw [e]
        exact ih (i + 1) (by omega) _ _ (WF_sv (WF_hl hS _) i)
      · have hb := (bI_0 _).mp h2
        refine aq_gn (n := 2) (c1 := (45, [some (.ref 0), some (.int (nI t)), some (.int (nI x)), some (.int (oI a)), some (.int (nI g)), some (.int (nI i))], [.int (oI a), .int (nI i)], wS (s_hl S (lg (s_ha S) t i)))) ok_m_end rfl ?_
        refine aq_icmp_ne ok_m_end rfl (fun h3 => ?_) (fun h3 => ?_)
        · have hd : ¬ ((hm (s_ha S) t i).isSome = true ∨ a = some i) := by
            rintro (q | q)
            · rw [hb] at q; cases q
            · exact h3 (by rw [q]; rfl)
          refine aq_gn (n := 2) (c1 := (25, [some (.ref 0), some (.int (nI t)), some (.int (nI x)), some (.int (oI a)), some (.int (nI g)), some (.int ((nI i) + 1))], [], wS (s_hl S (lg (s_ha S) t i)))) ok_m_end rfl ?_
          rw [nI_1]
          have e : enF t a (f + 1) i g S = enF t a f (i + 1) g (s_hl S (lg (s_ha S) t i)) := by rw [enF, if_neg hd]
          rw [e]
          exact ih (i + 1) (by omega) _ _ (WF_hl hS _)
        · have hc : (hm (s_ha S) t i).isSome = true ∨ a = some i := Or.inr (oI_eq h3.symm (by omega) hab)
          refine aq_gn (n := 3) (c1 := (53, [some (.ref 0), some (.int (nI t)), some (.int (nI x)), some (.int (oI a)), some (.int (nI g)), some (.int (nI i))], [.int (nI i), .ref 0, .int (nI g)], wS (s_hl S (lg (s_ha S) t i)))) ok_m_end rfl ?_
          refine aq_callV (as := [.int (nI i)]) (st := [.int (nI g)]) ok_m_end rfl c0_m_serve (am_serve (WF_hl hS _) (show i < 85 by omega)) rfl (Nat.le_of_ble_eq_true rfl) rfl rfl rfl ?_
          refine aq_gn (n := 4) (c1 := (25, [some (.ref 0), some (.int (nI t)), some (.int (nI x)), some (.int (oI a)), some (.int ((nI g) + (nI (sv (s_hl S (lg (s_ha S) t i)) i).2))), some (.int ((nI i) + 1))], [], wS (sv (s_hl S (lg (s_ha S) t i)) i).1)) ok_m_end rfl ?_
          rw [nI_add, nI_1]
          have e : enF t a (f + 1) i g S = enF t a f (i + 1) (g + (sv (s_hl S (lg (s_ha S) t i)) i).2) (sv (s_hl S (lg (s_ha S) t i)) i).1 := by rw [enF, if_pos hc]
          rw [e]
          exact ih (i + 1) (by omega) _ _ (WF_sv (WF_hl hS _) i)
set_option maxHeartbeats 4000000 in
theorem am_end {d : Nat} {t x : Nat} {S : LSt} (hS : WF S) (ht : t < 60) (hx : x < 4) : AM m_end (d + 4) (.inl (some (.int (nI (en S t x).2)))) [.ref 0, .int (nI t), .int (nI x)] (wS S) (wS (en S t x).1) := by
  refine aq_enter pl_m_end (Nat.le_of_ble_eq_true rfl) ?_
  obtain ⟨st, pr, aw, wa, ha, la, wr, n, k, c5, c6, c7⟩ := S
  show AW m_end _ _ _ (0, [some (.ref 0), some (.int (nI t)), some (.int (nI x)), none, none, none], [], wL st pr aw wa ha la wr n k c5 c6 c7)
  refine aq_go (n := 12) (c1 := (16, [some (.ref 0), some (.int (nI t)), some (.int (nI x)), some (.int (oI (aw (nI t).toNatClampNeg))), none, none], [.int (nI t), .ref 0], wR (upd (fun i => nI (st i)) (nI t).toNatClampNeg (nI x)) (fun i => nI (pr i)) (fun i => oI (aw i)) (fun i => oI (wa i)) ha (fun i => nI (la i)) wr (nI n) (nI k) (nI c5) (nI c6) (nI c7))) (P := vp_in (nI t) 60 ∧ vp_in (nI t) 60) ok_m_end rfl ⟨(in60 ht), (in60 ht)⟩ ?_
  rw [cl60 ht, upd_n]
  refine aq_callV (as := [.int (nI t)]) (st := []) ok_m_end rfl c0_m_leaveQueue (am_leaveQueue (d := d + 3) (st := va_up st t x) ht hS.2.1 hS.1) rfl (Nat.le_of_ble_eq_true rfl) rfl rfl rfl ?_
  refine aq_gn (n := 4) (c1 := (25, [some (.ref 0), some (.int (nI t)), some (.int (nI x)), some (.int (oI (aw t))), some (.int (nI 0)), some (.int (nI 0))], [], wS (lv (st, pr, aw, wa, ha, la, wr, n, k, c5, c6, c7) t x))) ok_m_end rfl ?_
  exact lp_end (x := x) ht (fun y q => by have := hS.2.2.2.1 t y q; omega) 85 0 rfl 0 _ (WF_lv hS t x hx)
