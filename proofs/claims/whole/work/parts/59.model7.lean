/-! THE REFERENCE: escalate, lock -/
def xwI (he : Nat → Option Nat) (t o i : Nat) : Bool := rb i o && !decide (mdI he t i < 0)
def xwF (he : Nat → Option Nat) (t o : Nat) : Nat → Nat → Bool → Nat → Bool × Nat
  | 0, _, w, c => (w, c)
  | f + 1, i, w, c => xwF he t o f (i + 1) (w || (xwI he t o i && rwI (mdI he t i))) (if xwI he t o i then c + 1 else c)
def xmF (t o : Nat) : Nat → Nat → (Nat → Option Nat) → (Nat → Option Nat)
  | 0, _, h => h
  | f + 1, i, h => xmF t o f (i + 1) (if xwI h t o i then va_up h (60 * i + t) none else h)
def xsF (t : Nat) : Nat → Nat → MSt → MSt
  | 0, _, M => M
  | f + 1, i, M => if g_he M (60 * i + t) = none then xsF t f (i + 1) (m_7 (ms (m_he M (va_up (g_he M) (60 * i + t) (some 0))) i).1 (ms (m_he M (va_up (g_he M) (60 * i + t) (some 0))) i).2) else xsF t f (i + 1) M
def xww (M : MSt) (t o : Nat) : Nat := lub (hv (g_he M (60 * o + t))) (if (xwF (g_he M) t o (84 - o) (o + 1) false 0).1 then 4 else 2)
def x_M (M : MSt) (t o w : Nat) : MSt := m_he M (xmF t o (84 - o) (o + 1) (va_up (g_he M) (60 * o + t) (some (w + 1))))
def xfin (M : MSt) (o : Nat) : MSt := m_7 (ms M o).1 (ms M o).2
def mesc (M : MSt) (t o : Nat) : MSt × Int32 := if ftF (g_he M) t o (nI (xww M t o)) (g_n M) 0 true then (xfin (xsF t (84 - o) (o + 1) (x_M M t o (xww M t o))) o, nI (xwF (g_he M) t o (84 - o) (o + 1) false 0).2) else (M, -1)
theorem msF_v7 {o : Nat} : ∀ (f g : Nat) (M : MSt), g_v7 (msF o f g M).1 = g_v7 M := by
  intro f
  induction f with
  | zero => intro g M; rfl
  | succ f ih =>
    intro g M
    unfold msF
    split
    · rw [ih]; rfl
    · rfl
theorem ms_v7 (M : MSt) (o : Nat) : g_v7 (ms M o).1 = g_v7 M := msF_v7 _ _ _
theorem ms_7 (M : MSt) (o : Nat) : (nI (g_v7 M)) + (nI (ms M o).2) = nI (g_v7 (m_7 (ms M o).1 (ms M o).2)) := by
  rw [nI_add]
  show _ = nI (g_v7 (ms M o).1 + (ms M o).2)
  rw [ms_v7]
theorem xmF_lt {t o : Nat} : ∀ (f i : Nat) (h : Nat → Option Nat), (∀ i x, h i = some x → x < 6) → ∀ j x, xmF t o f i h j = some x → x < 6 := by
  intro f
  induction f with
  | zero => intro i h hh; exact hh
  | succ f ih =>
    intro i h hh
    unfold xmF
    split
    · exact ih _ _ (va_up_ol hh (fun x q => by cases q))
    · exact ih _ _ hh
theorem WM_xsF {t : Nat} : ∀ (f i : Nat) (M : MSt), WM M → WM (xsF t f i M) := by
  intro f
  induction f with
  | zero => intro i M h; exact h
  | succ f ih =>
    intro i M h
    unfold xsF
    split
    · exact ih _ _ (WM_7 (WM_ms (WM_he0 h _) i) _)
    · exact ih _ _ h
theorem WM_xM {M : MSt} (h : WM M) (t o : Nat) {w : Nat} (hw : w < 5) : WM (x_M M t o w) := WM_he h (xmF_lt _ _ _ (va_up_ol h.2.2.2.2.2.2.2 (fun x q => by cases q; omega)))
theorem lub_lt {h : Option Nat} {m : Nat} (hh : ∀ x, h = some x → x < 5) (hm : m < 5) : lub h m < 5 := (lub_o hh hm).2
theorem xww_lt {M : MSt} (h : WM M) (t o : Nat) : xww M t o < 5 := lub_lt (hv_lt (h.2.2.2.2.2.2.2 _)) (by split <;> omega)
theorem WM_mesc {M : MSt} (h : WM M) (t o : Nat) : WM (mesc M t o).1 := by
  unfold mesc
  split
  · exact WM_7 (WM_ms (WM_xsF _ _ _ (WM_xM h t o (xww_lt h t o))) o) _
  · exact h
set_option maxHeartbeats 4000000 in
theorem lp_x1 {d : Nat} {M : MSt} {t o : Nat} {O : aq_O} {w' : List va_E} (ht : t < 60) (ho : o < 85) : ∀ (f i : Nat), i + f = 85 → ∀ (w : Bool) (c : Nat), AW r_escalate (d + 1) O w' (147, [some (.ref 0), some (.int (nI t)), some (.int (nI o)), some (.int (bI (xwF (g_he M) t o f i w c).1)), some (.int (nI (xwF (g_he M) t o f i w c).2)), none, none], [], wM M) → AW r_escalate (d + 1) O w' (65, [some (.ref 0), some (.int (nI t)), some (.int (nI o)), some (.int (bI w)), some (.int (nI c)), some (.int (nI i)), none], [], wM M) := by
  intro f
  induction f with
  | zero =>
    intro i hif w c K
    refine aq_gn (n := 2) (c1 := (69, [some (.ref 0), some (.int (nI t)), some (.int (nI o)), some (.int (bI w)), some (.int (nI c)), some (.int (nI i)), none], [.int (nI 85), .int (nI i)], wM M)) ok_r_escalate rfl ?_
    refine aq_icmp_ge ok_r_escalate rfl (fun h => ?_) (fun h => ?_)
    · refine aq_drop 5 ?_
      exact K
    · exact absurd (nI_le (show 85 ≤ i by omega) (by omega)) h
  | succ f ih =>
    intro i hif w c K
    refine aq_gn (n := 2) (c1 := (69, [some (.ref 0), some (.int (nI t)), some (.int (nI o)), some (.int (bI w)), some (.int (nI c)), some (.int (nI i)), none], [.int (nI 85), .int (nI i)], wM M)) ok_r_escalate rfl ?_
    refine aq_icmp_ge ok_r_escalate rfl (fun h => ?_) (fun h => ?_)
    · exact absurd (q_le h (by omega) (by omega)) (by omega)
    · refine aq_gn (n := 2) (c1 := (75, [some (.ref 0), some (.int (nI t)), some (.int (nI o)), some (.int (bI w)), some (.int (nI c)), some (.int (nI i)), none], [.int (nI o), .int (nI i)], wM M)) ok_r_escalate rfl ?_
      refine aq_callS (as := [.int (nI i), .int (nI o)]) (st := []) ok_r_escalate rfl c1_r_isBelow (rm_isBelow (show i < 85 by omega) ho) rfl (Nat.le_of_ble_eq_true rfl) ?_
      refine aq_if_eq ok_r_escalate rfl (fun h2 => ?_) (fun h2 => ?_)
      · have hb := (bI_0 _).mp h2
        refine aq_gn (n := 2) (c1 := (98, [some (.ref 0), some (.int (nI t)), some (.int (nI o)), some (.int (bI w)), some (.int (nI c)), some (.int (nI i)), some (.int (nI 0))], [], wM M)) ok_r_escalate rfl ?_
        have hx : xwI (g_he M) t o i = false := by unfold xwI; simp [hb]
        refine aq_gn (n := 1) (c1 := (99, [some (.ref 0), some (.int (nI t)), some (.int (nI o)), some (.int (bI w)), some (.int (nI c)), some (.int (nI i)), some (.int (nI 0))], [.int (bI w)], wM M)) ok_r_escalate rfl ?_
        refine aq_if_ne ok_r_escalate rfl (fun h5 => ?_) (fun h5 => ?_)
        · have hw : w = true := by cases w with | true => rfl | false => exact absurd rfl h5
          subst hw
          refine aq_gn (n := 5) (c1 := (130, [some (.ref 0), some (.int (nI t)), some (.int (nI o)), some (.int (nI 1)), some (.int (nI c)), some (.int (nI i)), some (.int (nI 0))], [.int (nI 0), .int (nI c)], wM M)) ok_r_escalate rfl ?_
          refine aq_if_eq ok_r_escalate rfl (fun h8 => ?_) (fun h8 => ?_)
          · refine aq_gn (n := 5) (c1 := (65, [some (.ref 0), some (.int (nI t)), some (.int (nI o)), some (.int (nI 1)), some (.int ((nI c) + (nI 0))), some (.int ((nI i) + 1)), some (.int (nI 0))], [], wM M)) ok_r_escalate rfl ?_
            rw [nI_add, nI_1]
            refine aq_drop 6 ?_
            have e : xwF (g_he M) t o (f + 1) i true c = xwF (g_he M) t o f (i + 1) true (c + 0) := by rw [xwF, hx]; rfl
            rw [e] at K
            exact ih (i + 1) (by omega) _ _ K
          · exact absurd rfl h8
        · have hw := (bI_0 _).mp h5
          subst hw
          refine aq_gn (n := 1) (c1 := (104, [some (.ref 0), some (.int (nI t)), some (.int (nI o)), some (.int (bI false)), some (.int (nI c)), some (.int (nI i)), some (.int (nI 0))], [.int (nI 0)], wM M)) ok_r_escalate rfl ?_
          refine aq_if_eq ok_r_escalate rfl (fun h6 => ?_) (fun h6 => ?_)
          · refine aq_gn (n := 4) (c1 := (130, [some (.ref 0), some (.int (nI t)), some (.int (nI o)), some (.int (nI 0)), some (.int (nI c)), some (.int (nI i)), some (.int (nI 0))], [.int (nI 0), .int (nI c)], wM M)) ok_r_escalate rfl ?_
            refine aq_if_eq ok_r_escalate rfl (fun h8 => ?_) (fun h8 => ?_)
            · refine aq_gn (n := 5) (c1 := (65, [some (.ref 0), some (.int (nI t)), some (.int (nI o)), some (.int (nI 0)), some (.int ((nI c) + (nI 0))), some (.int ((nI i) + 1)), some (.int (nI 0))], [], wM M)) ok_r_escalate rfl ?_
              rw [nI_add, nI_1]
              refine aq_drop 6 ?_
              have e : xwF (g_he M) t o (f + 1) i false c = xwF (g_he M) t o f (i + 1) false (c + 0) := by rw [xwF, hx]; rfl
              rw [e] at K
              exact ih (i + 1) (by omega) _ _ K
            · exact absurd rfl h8
          · exact absurd rfl h6
      · have hb : rb i o = true := by cases hy : rb i o with | true => rfl | false => exact absurd ((bI_0 _).mpr hy) h2
        refine aq_gn (n := 3) (c1 := (85, [some (.ref 0), some (.int (nI t)), some (.int (nI o)), some (.int (bI w)), some (.int (nI c)), some (.int (nI i)), none], [.int (nI i), .int (nI t), .ref 0], wM M)) ok_r_escalate rfl ?_
        refine aq_callV (as := [.int (nI t), .int (nI i)]) (st := []) ok_r_escalate rfl c1_r_modeOf (rm_modeOfM ht (show i < 85 by omega)) rfl (Nat.le_of_ble_eq_true rfl) rfl rfl rfl ?_
        refine aq_if_lt ok_r_escalate rfl (fun h3 => ?_) (fun h3 => ?_)
        · have hm := h3
          have hb : (rb i o && !decide (mdI (g_he M) t i < 0)) = false := by simp [hm]
          refine aq_gn (n := 2) (c1 := (98, [some (.ref 0), some (.int (nI t)), some (.int (nI o)), some (.int (bI w)), some (.int (nI c)), some (.int (nI i)), some (.int (nI 0))], [], wM M)) ok_r_escalate rfl ?_
          have hx : xwI (g_he M) t o i = false := by unfold xwI; simp [hb]
          refine aq_gn (n := 1) (c1 := (99, [some (.ref 0), some (.int (nI t)), some (.int (nI o)), some (.int (bI w)), some (.int (nI c)), some (.int (nI i)), some (.int (nI 0))], [.int (bI w)], wM M)) ok_r_escalate rfl ?_
          refine aq_if_ne ok_r_escalate rfl (fun h5 => ?_) (fun h5 => ?_)
          · have hw : w = true := by cases w with | true => rfl | false => exact absurd rfl h5
            subst hw
            refine aq_gn (n := 5) (c1 := (130, [some (.ref 0), some (.int (nI t)), some (.int (nI o)), some (.int (nI 1)), some (.int (nI c)), some (.int (nI i)), some (.int (nI 0))], [.int (nI 0), .int (nI c)], wM M)) ok_r_escalate rfl ?_
            refine aq_if_eq ok_r_escalate rfl (fun h8 => ?_) (fun h8 => ?_)
            · refine aq_gn (n := 5) (c1 := (65, [some (.ref 0), some (.int (nI t)), some (.int (nI o)), some (.int (nI 1)), some (.int ((nI c) + (nI 0))), some (.int ((nI i) + 1)), some (.int (nI 0))], [], wM M)) ok_r_escalate rfl ?_
              rw [nI_add, nI_1]
              refine aq_drop 6 ?_
              have e : xwF (g_he M) t o (f + 1) i true c = xwF (g_he M) t o f (i + 1) true (c + 0) := by rw [xwF, hx]; rfl
              rw [e] at K
              exact ih (i + 1) (by omega) _ _ K
            · exact absurd rfl h8
          · have hw := (bI_0 _).mp h5
            subst hw
            refine aq_gn (n := 1) (c1 := (104, [some (.ref 0), some (.int (nI t)), some (.int (nI o)), some (.int (bI false)), some (.int (nI c)), some (.int (nI i)), some (.int (nI 0))], [.int (nI 0)], wM M)) ok_r_escalate rfl ?_
            refine aq_if_eq ok_r_escalate rfl (fun h6 => ?_) (fun h6 => ?_)
            · refine aq_gn (n := 4) (c1 := (130, [some (.ref 0), some (.int (nI t)), some (.int (nI o)), some (.int (nI 0)), some (.int (nI c)), some (.int (nI i)), some (.int (nI 0))], [.int (nI 0), .int (nI c)], wM M)) ok_r_escalate rfl ?_
              refine aq_if_eq ok_r_escalate rfl (fun h8 => ?_) (fun h8 => ?_)
              · refine aq_gn (n := 5) (c1 := (65, [some (.ref 0), some (.int (nI t)), some (.int (nI o)), some (.int (nI 0)), some (.int ((nI c) + (nI 0))), some (.int ((nI i) + 1)), some (.int (nI 0))], [], wM M)) ok_r_escalate rfl ?_
                rw [nI_add, nI_1]
                refine aq_drop 6 ?_
                have e : xwF (g_he M) t o (f + 1) i false c = xwF (g_he M) t o f (i + 1) false (c + 0) := by rw [xwF, hx]; rfl
                rw [e] at K
                exact ih (i + 1) (by omega) _ _ K
              · exact absurd rfl h8
            · exact absurd rfl h6
        · have hm := h3
          refine aq_gn (n := 3) (c1 := (98, [some (.ref 0), some (.int (nI t)), some (.int (nI o)), some (.int (bI w)), some (.int (nI c)), some (.int (nI i)), some (.int (nI 1))], [], wM M)) ok_r_escalate rfl ?_
          have hx : xwI (g_he M) t o i = true := by unfold xwI; simp [hb, hm]
          refine aq_gn (n := 1) (c1 := (99, [some (.ref 0), some (.int (nI t)), some (.int (nI o)), some (.int (bI w)), some (.int (nI c)), some (.int (nI i)), some (.int (nI 1))], [.int (bI w)], wM M)) ok_r_escalate rfl ?_
          refine aq_if_ne ok_r_escalate rfl (fun h5 => ?_) (fun h5 => ?_)
          · have hw : w = true := by cases w with | true => rfl | false => exact absurd rfl h5
            subst hw
            refine aq_gn (n := 5) (c1 := (130, [some (.ref 0), some (.int (nI t)), some (.int (nI o)), some (.int (nI 1)), some (.int (nI c)), some (.int (nI i)), some (.int (nI 1))], [.int (nI 1), .int (nI c)], wM M)) ok_r_escalate rfl ?_
            refine aq_if_eq ok_r_escalate rfl (fun h8 => ?_) (fun h8 => ?_)
            · exact absurd h8 (by decide)
            · refine aq_gn (n := 6) (c1 := (65, [some (.ref 0), some (.int (nI t)), some (.int (nI o)), some (.int (nI 1)), some (.int ((nI c) + (nI 1))), some (.int ((nI i) + 1)), some (.int (nI 1))], [], wM M)) ok_r_escalate rfl ?_
              rw [nI_add, nI_1]
              refine aq_drop 6 ?_
              have e : xwF (g_he M) t o (f + 1) i true c = xwF (g_he M) t o f (i + 1) true (c + 1) := by rw [xwF, hx]; rfl
              rw [e] at K
              exact ih (i + 1) (by omega) _ _ K
          · have hw := (bI_0 _).mp h5
            subst hw
            refine aq_gn (n := 1) (c1 := (104, [some (.ref 0), some (.int (nI t)), some (.int (nI o)), some (.int (bI false)), some (.int (nI c)), some (.int (nI i)), some (.int (nI 1))], [.int (nI 1)], wM M)) ok_r_escalate rfl ?_
            refine aq_if_eq ok_r_escalate rfl (fun h6 => ?_) (fun h6 => ?_)
            · exact absurd h6 (by decide)
            · refine aq_gn (n := 3) (c1 := (111, [some (.ref 0), some (.int (nI t)), some (.int (nI o)), some (.int (bI false)), some (.int (nI c)), some (.int (nI i)), some (.int (nI 1))], [.int (nI i), .int (nI t), .ref 0], wM M)) ok_r_escalate rfl ?_
              refine aq_callV (as := [.int (nI t), .int (nI i)]) (st := []) ok_r_escalate rfl c1_r_modeOf (rm_modeOfM ht (show i < 85 by omega)) rfl (Nat.le_of_ble_eq_true rfl) rfl rfl rfl ?_
              refine aq_callS (as := [.int (mdI (g_he M) t i)]) (st := []) ok_r_escalate rfl c1_r_isWriting (rm_isWriting (mdI (g_he M) t i)) rfl (Nat.le_of_ble_eq_true rfl) ?_
              refine aq_if_eq ok_r_escalate rfl (fun h7 => ?_) (fun h7 => ?_)
              · have hw := (bI_0 _).mp h7
                refine aq_gn (n := 4) (c1 := (130, [some (.ref 0), some (.int (nI t)), some (.int (nI o)), some (.int (nI 0)), some (.int (nI c)), some (.int (nI i)), some (.int (nI 1))], [.int (nI 1), .int (nI c)], wM M)) ok_r_escalate rfl ?_
                refine aq_if_eq ok_r_escalate rfl (fun h8 => ?_) (fun h8 => ?_)
                · exact absurd h8 (by decide)
                · refine aq_gn (n := 6) (c1 := (65, [some (.ref 0), some (.int (nI t)), some (.int (nI o)), some (.int (nI 0)), some (.int ((nI c) + (nI 1))), some (.int ((nI i) + 1)), some (.int (nI 1))], [], wM M)) ok_r_escalate rfl ?_
                  rw [nI_add, nI_1]
                  refine aq_drop 6 ?_
                  have e : xwF (g_he M) t o (f + 1) i false c = xwF (g_he M) t o f (i + 1) false (c + 1) := by rw [xwF, hx]; simp [hw]
                  rw [e] at K
                  exact ih (i + 1) (by omega) _ _ K
              · have hw : rwI (mdI (g_he M) t i) = true := by cases hy : rwI (mdI (g_he M) t i) with | true => rfl | false => exact absurd ((bI_0 _).mpr hy) h7
                refine aq_gn (n := 5) (c1 := (130, [some (.ref 0), some (.int (nI t)), some (.int (nI o)), some (.int (nI 1)), some (.int (nI c)), some (.int (nI i)), some (.int (nI 1))], [.int (nI 1), .int (nI c)], wM M)) ok_r_escalate rfl ?_
                refine aq_if_eq ok_r_escalate rfl (fun h8 => ?_) (fun h8 => ?_)
                · exact absurd h8 (by decide)
                · refine aq_gn (n := 6) (c1 := (65, [some (.ref 0), some (.int (nI t)), some (.int (nI o)), some (.int (nI 1)), some (.int ((nI c) + (nI 1))), some (.int ((nI i) + 1)), some (.int (nI 1))], [], wM M)) ok_r_escalate rfl ?_
                  rw [nI_add, nI_1]
                  refine aq_drop 6 ?_
                  have e : xwF (g_he M) t o (f + 1) i false c = xwF (g_he M) t o f (i + 1) true (c + 1) := by rw [xwF, hx]; simp [hw]
                  rw [e] at K
                  exact ih (i + 1) (by omega) _ _ K
set_option maxHeartbeats 4000000 in
theorem lp_x2 {d : Nat} {M : MSt} {t o c : Nat} {x3 x5 : Int32} {O : aq_O} {w' : List va_E} (ht : t < 60) (ho : o < 85) : ∀ (f i : Nat), i + f = 85 → ∀ he : Nat → Option Nat, AW r_escalate (d + 1) O w' (245, [some (.ref 0), some (.int (nI t)), some (.int (nI o)), some (.int x3), some (.int (nI c)), some (.int x5), none], [], wM (m_he M (xmF t o f i he))) → AW r_escalate (d + 1) O w' (200, [some (.ref 0), some (.int (nI t)), some (.int (nI o)), some (.int x3), some (.int (nI c)), some (.int x5), some (.int (nI i))], [], wM (m_he M he)) := by
  intro f
  induction f with
  | zero =>
    intro i hif he K
    refine aq_gn (n := 2) (c1 := (204, [some (.ref 0), some (.int (nI t)), some (.int (nI o)), some (.int x3), some (.int (nI c)), some (.int x5), some (.int (nI i))], [.int (nI 85), .int (nI i)], wM (m_he M he))) ok_r_escalate rfl ?_
    refine aq_icmp_ge ok_r_escalate rfl (fun h => ?_) (fun h => ?_)
    · refine aq_drop 6 ?_
      exact K
    · exact absurd (nI_le (show 85 ≤ i by omega) (by omega)) h
  | succ f ih =>
    intro i hif he K
    refine aq_gn (n := 2) (c1 := (204, [some (.ref 0), some (.int (nI t)), some (.int (nI o)), some (.int x3), some (.int (nI c)), some (.int x5), some (.int (nI i))], [.int (nI 85), .int (nI i)], wM (m_he M he))) ok_r_escalate rfl ?_
    refine aq_icmp_ge ok_r_escalate rfl (fun h => ?_) (fun h => ?_)
    · exact absurd (q_le h (by omega) (by omega)) (by omega)
    · refine aq_gn (n := 2) (c1 := (210, [some (.ref 0), some (.int (nI t)), some (.int (nI o)), some (.int x3), some (.int (nI c)), some (.int x5), some (.int (nI i))], [.int (nI o), .int (nI i)], wM (m_he M he))) ok_r_escalate rfl ?_
      refine aq_callS (as := [.int (nI i), .int (nI o)]) (st := []) ok_r_escalate rfl c1_r_isBelow (rm_isBelow (show i < 85 by omega) ho) rfl (Nat.le_of_ble_eq_true rfl) ?_
      refine aq_if_eq ok_r_escalate rfl (fun h2 => ?_) (fun h2 => ?_)
      · have hb := (bI_0 _).mp h2
        refine aq_gn (n := 2) (c1 := (200, [some (.ref 0), some (.int (nI t)), some (.int (nI o)), some (.int x3), some (.int (nI c)), some (.int x5), some (.int ((nI i) + 1))], [], wM (m_he M he))) ok_r_escalate rfl ?_
        rw [nI_1]
        have e : xmF t o (f + 1) i he = xmF t o f (i + 1) he := by rw [xmF, show xwI he t o i = false by unfold xwI; simp [hb]]; rfl
        rw [e] at K
        exact ih (i + 1) (by omega) _ K
      · have hb : rb i o = true := by cases hy : rb i o with | true => rfl | false => exact absurd ((bI_0 _).mpr hy) h2
        refine aq_gn (n := 3) (c1 := (220, [some (.ref 0), some (.int (nI t)), some (.int (nI o)), some (.int x3), some (.int (nI c)), some (.int x5), some (.int (nI i))], [.int (nI i), .int (nI t), .ref 0], wM (m_he M he))) ok_r_escalate rfl ?_
        refine aq_callV (as := [.int (nI t), .int (nI i)]) (st := []) ok_r_escalate rfl c1_r_modeOf (rm_modeOfM (M := m_he M he) ht (show i < 85 by omega)) rfl (Nat.le_of_ble_eq_true rfl) rfl rfl rfl ?_
        refine aq_if_lt ok_r_escalate rfl (fun h3 => ?_) (fun h3 => ?_)
        · have h3 : mdI he t i < 0 := h3
          refine aq_gn (n := 2) (c1 := (200, [some (.ref 0), some (.int (nI t)), some (.int (nI o)), some (.int x3), some (.int (nI c)), some (.int x5), some (.int ((nI i) + 1))], [], wM (m_he M he))) ok_r_escalate rfl ?_
          rw [nI_1]
          have e : xmF t o (f + 1) i he = xmF t o f (i + 1) he := by rw [xmF, show xwI he t o i = false by unfold xwI; simp [h3]]; rfl
          rw [e] at K
          exact ih (i + 1) (by omega) _ K
        · have h3 : ¬ mdI he t i < 0 := h3
          show AW r_escalate _ _ _ (226, [some (.ref 0), some (.int (nI t)), some (.int (nI o)), some (.int x3), some (.int (nI c)), some (.int x5), some (.int (nI i))], [], mL (g_cd M) (g_n M) (g_pr M) (g_st M) he (g_wt M) (g_wn M) (g_cv M) (g_qs M) (g_qu M) (g_v5 M) (g_v6 M) (g_v7 M))
          refine aq_go (n := 11) (c1 := (200, [some (.ref 0), some (.int (nI t)), some (.int (nI o)), some (.int x3), some (.int (nI c)), some (.int x5), some (.int ((nI i) + 1))], [], mR (nI (g_cd M)) (nI (g_n M)) (fun ι => nI ((g_pr M) ι)) (fun ι => nI ((g_st M) ι)) (upd (fun ι => oI (he ι)) (((nI 60) * (nI i)) + (nI t)).toNatClampNeg (-1)) (fun ι => oI ((g_wt M) ι)) (fun ι => nI ((g_wn M) ι)) (fun ι => bI ((g_cv M) ι)) (fun ι => nI ((g_qs M) ι)) (fun ι => nI ((g_qu M) ι)) (nI (g_v5 M)) (nI (g_v6 M)) (nI (g_v7 M)))) (P := vp_in (((nI 60) * (nI i)) + (nI t)) 5100) ok_r_escalate rfl (in6 (show i < 85 by omega) ht) ?_
          rw [cl6 (show i < 85 by omega) ht, upd_m, nI_1]
          have e : xmF t o (f + 1) i he = xmF t o f (i + 1) (va_up he (60 * i + t) none) := by rw [xmF, show xwI he t o i = true by unfold xwI; simp [hb, h3]]; rfl
          rw [e] at K
          exact ih (i + 1) (by omega) _ K
set_option maxHeartbeats 4000000 in
theorem lp_x3 {d : Nat} {t o c : Nat} {x3 x5 : Int32} (ht : t < 60) (ho : o < 85) : ∀ (f i : Nat), i + f = 85 → ∀ M : MSt, WM M → AW r_escalate (d + 3) (.inl (some (.int (nI c)))) (wM (xfin (xsF t f i M) o)) (250, [some (.ref 0), some (.int (nI t)), some (.int (nI o)), some (.int x3), some (.int (nI c)), some (.int x5), some (.int (nI i))], [], mL (g_cd M) (g_n M) (g_pr M) (g_st M) (g_he M) (g_wt M) (g_wn M) (g_cv M) (g_qs M) (g_qu M) (g_v5 M) (g_v6 M) (g_v7 M)) := by
  intro f
  induction f with
  | zero =>
    intro i hif M hM
    refine aq_gn (n := 2) (c1 := (254, [some (.ref 0), some (.int (nI t)), some (.int (nI o)), some (.int x3), some (.int (nI c)), some (.int x5), some (.int (nI i))], [.int (nI 85), .int (nI i)], mL (g_cd M) (g_n M) (g_pr M) (g_st M) (g_he M) (g_wt M) (g_wn M) (g_cv M) (g_qs M) (g_qu M) (g_v5 M) (g_v6 M) (g_v7 M))) ok_r_escalate rfl ?_
    refine aq_icmp_ge ok_r_escalate rfl (fun h => ?_) (fun h => ?_)
    · show AW r_escalate _ _ _ (306, [some (.ref 0), some (.int (nI t)), some (.int (nI o)), some (.int x3), some (.int (nI c)), some (.int x5), some (.int (nI i))], [], mL (g_cd M) (g_n M) (g_pr M) (g_st M) (g_he M) (g_wt M) (g_wn M) (g_cv M) (g_qs M) (g_qu M) (g_v5 M) (g_v6 M) (g_v7 M))
      refine aq_gn (n := 5) (c1 := (313, [some (.ref 0), some (.int (nI t)), some (.int (nI o)), some (.int x3), some (.int (nI c)), some (.int x5), some (.int (nI i))], [.int (nI o), .ref 0, .int (nI (g_v7 M)), .ref 0], mL (g_cd M) (g_n M) (g_pr M) (g_st M) (g_he M) (g_wt M) (g_wn M) (g_cv M) (g_qs M) (g_qu M) (g_v5 M) (g_v6 M) (g_v7 M))) ok_r_escalate rfl ?_
      show AW r_escalate _ _ _ (313, [some (.ref 0), some (.int (nI t)), some (.int (nI o)), some (.int x3), some (.int (nI c)), some (.int x5), some (.int (nI i))], [.int (nI o), .ref 0, .int (nI (g_v7 M)), .ref 0], wM M)
      refine aq_callV (as := [.int (nI o)]) (st := [.int (nI (g_v7 M)), .ref 0]) ok_r_escalate rfl c1_r_serve (rm_serve hM ho) rfl (Nat.le_of_ble_eq_true rfl) rfl rfl rfl ?_
      show AW r_escalate _ _ _ (316, [some (.ref 0), some (.int (nI t)), some (.int (nI o)), some (.int x3), some (.int (nI c)), some (.int x5), some (.int (nI i))], [.int (nI (ms M o).2), .int (nI (g_v7 M)), .ref 0], mL (g_cd ((ms M o).1)) (g_n ((ms M o).1)) (g_pr ((ms M o).1)) (g_st ((ms M o).1)) (g_he ((ms M o).1)) (g_wt ((ms M o).1)) (g_wn ((ms M o).1)) (g_cv ((ms M o).1)) (g_qs ((ms M o).1)) (g_qu ((ms M o).1)) (g_v5 ((ms M o).1)) (g_v6 ((ms M o).1)) (g_v7 ((ms M o).1)))
      refine aq_go (n := 3) (c1 := (322, [some (.ref 0), some (.int (nI t)), some (.int (nI o)), some (.int x3), some (.int (nI c)), some (.int x5), some (.int (nI i))], [.int (nI c)], mR (nI (g_cd ((ms M o).1))) (nI (g_n ((ms M o).1))) (fun ι => nI ((g_pr ((ms M o).1)) ι)) (fun ι => nI ((g_st ((ms M o).1)) ι)) (fun ι => oI ((g_he ((ms M o).1)) ι)) (fun ι => oI ((g_wt ((ms M o).1)) ι)) (fun ι => nI ((g_wn ((ms M o).1)) ι)) (fun ι => bI ((g_cv ((ms M o).1)) ι)) (fun ι => nI ((g_qs ((ms M o).1)) ι)) (fun ι => nI ((g_qu ((ms M o).1)) ι)) (nI (g_v5 ((ms M o).1))) (nI (g_v6 ((ms M o).1))) ((nI (g_v7 M)) + (nI (ms M o).2)))) (P := aq_fi 1 12 = true) ok_r_escalate rfl fi1_12 ?_
      rw [ms_7]
      show AW r_escalate _ _ _ (322, [some (.ref 0), some (.int (nI t)), some (.int (nI o)), some (.int x3), some (.int (nI c)), some (.int x5), some (.int (nI i))], [.int (nI c)], wM (xfin M o))
      exact aq_ei ok_r_escalate rfl rfl rfl rfl
    · exact absurd (nI_le (show 85 ≤ i by omega) (by omega)) h
  | succ f ih =>
    intro i hif M hM
    refine aq_gn (n := 2) (c1 := (254, [some (.ref 0), some (.int (nI t)), some (.int (nI o)), some (.int x3), some (.int (nI c)), some (.int x5), some (.int (nI i))], [.int (nI 85), .int (nI i)], mL (g_cd M) (g_n M) (g_pr M) (g_st M) (g_he M) (g_wt M) (g_wn M) (g_cv M) (g_qs M) (g_qu M) (g_v5 M) (g_v6 M) (g_v7 M))) ok_r_escalate rfl ?_
    refine aq_icmp_ge ok_r_escalate rfl (fun h => ?_) (fun h => ?_)
    · exact absurd (q_le h (by omega) (by omega)) (by omega)
    · refine aq_go (n := 8) (c1 := (269, [some (.ref 0), some (.int (nI t)), some (.int (nI o)), some (.int x3), some (.int (nI c)), some (.int x5), some (.int (nI i))], [.int (oI ((g_he M) (((nI 60) * (nI i)) + (nI t)).toNatClampNeg))], mL (g_cd M) (g_n M) (g_pr M) (g_st M) (g_he M) (g_wt M) (g_wn M) (g_cv M) (g_qs M) (g_qu M) (g_v5 M) (g_v6 M) (g_v7 M))) (P := vp_in (((nI 60) * (nI i)) + (nI t)) 5100) ok_r_escalate rfl (in6 (show i < 85 by omega) ht) ?_
      rw [cl6 (show i < 85 by omega) ht]
      refine aq_if_ge ok_r_escalate rfl (fun h2 => ?_) (fun h2 => ?_)
      · obtain ⟨q, hq⟩ := oI_ge h2
        refine aq_gn (n := 2) (c1 := (250, [some (.ref 0), some (.int (nI t)), some (.int (nI o)), some (.int x3), some (.int (nI c)), some (.int x5), some (.int ((nI i) + 1))], [], mL (g_cd M) (g_n M) (g_pr M) (g_st M) (g_he M) (g_wt M) (g_wn M) (g_cv M) (g_qs M) (g_qu M) (g_v5 M) (g_v6 M) (g_v7 M))) ok_r_escalate rfl ?_
        rw [nI_1]
        have e : xsF t (f + 1) i M = xsF t f (i + 1) M := by rw [xsF, if_neg (by rw [hq]; intro q; cases q)]
        rw [e]
        exact ih (i + 1) (by omega) M hM
      · have hq := oI_nge h2 (fun x q => by have := hM.2.2.2.2.2.2.2 _ x q; omega)
        refine aq_go (n := 14) (c1 := (293, [some (.ref 0), some (.int (nI t)), some (.int (nI o)), some (.int x3), some (.int (nI c)), some (.int x5), some (.int (nI i))], [.int (nI i), .ref 0, .int (nI (g_v7 M)), .ref 0], mR (nI (g_cd M)) (nI (g_n M)) (fun ι => nI ((g_pr M) ι)) (fun ι => nI ((g_st M) ι)) (upd (fun ι => oI ((g_he M) ι)) (((nI 60) * (nI i)) + (nI t)).toNatClampNeg (nI 0)) (fun ι => oI ((g_wt M) ι)) (fun ι => nI ((g_wn M) ι)) (fun ι => bI ((g_cv M) ι)) (fun ι => nI ((g_qs M) ι)) (fun ι => nI ((g_qu M) ι)) (nI (g_v5 M)) (nI (g_v6 M)) (nI (g_v7 M)))) (P := vp_in (((nI 60) * (nI i)) + (nI t)) 5100) ok_r_escalate rfl (in6 (show i < 85 by omega) ht) ?_
        rw [cl6 (show i < 85 by omega) ht, upd_o]
        obtain ⟨Q, hQ⟩ : ∃ Q, Q = m_he M (va_up (g_he M) (60 * i + t) (some 0)) := ⟨_, rfl⟩
        have hWQ : WM Q := by rw [hQ]; exact WM_he0 hM _
        have e : xsF t (f + 1) i M = xsF t f (i + 1) (m_7 (ms Q i).1 (ms Q i).2) := by rw [xsF, if_pos hq, hQ]
        rw [e]
        show AW r_escalate _ _ _ (293, [some (.ref 0), some (.int (nI t)), some (.int (nI o)), some (.int x3), some (.int (nI c)), some (.int x5), some (.int (nI i))], [.int (nI i), .ref 0, .int (nI (g_v7 (m_he M (va_up (g_he M) (60 * i + t) (some 0))))), .ref 0], wM (m_he M (va_up (g_he M) (60 * i + t) (some 0))))
        rw [← hQ]
        refine aq_callV (as := [.int (nI i)]) (st := [.int (nI (g_v7 Q)), .ref 0]) ok_r_escalate rfl c1_r_serve (rm_serve hWQ (show i < 85 by omega)) rfl (Nat.le_of_ble_eq_true rfl) rfl rfl rfl ?_
        show AW r_escalate _ _ _ (296, [some (.ref 0), some (.int (nI t)), some (.int (nI o)), some (.int x3), some (.int (nI c)), some (.int x5), some (.int (nI i))], [.int (nI (ms Q i).2), .int (nI (g_v7 Q)), .ref 0], mL (g_cd ((ms Q i).1)) (g_n ((ms Q i).1)) (g_pr ((ms Q i).1)) (g_st ((ms Q i).1)) (g_he ((ms Q i).1)) (g_wt ((ms Q i).1)) (g_wn ((ms Q i).1)) (g_cv ((ms Q i).1)) (g_qs ((ms Q i).1)) (g_qu ((ms Q i).1)) (g_v5 ((ms Q i).1)) (g_v6 ((ms Q i).1)) (g_v7 ((ms Q i).1)))
        refine aq_go (n := 4) (c1 := (250, [some (.ref 0), some (.int (nI t)), some (.int (nI o)), some (.int x3), some (.int (nI c)), some (.int x5), some (.int ((nI i) + 1))], [], mR (nI (g_cd ((ms Q i).1))) (nI (g_n ((ms Q i).1))) (fun ι => nI ((g_pr ((ms Q i).1)) ι)) (fun ι => nI ((g_st ((ms Q i).1)) ι)) (fun ι => oI ((g_he ((ms Q i).1)) ι)) (fun ι => oI ((g_wt ((ms Q i).1)) ι)) (fun ι => nI ((g_wn ((ms Q i).1)) ι)) (fun ι => bI ((g_cv ((ms Q i).1)) ι)) (fun ι => nI ((g_qs ((ms Q i).1)) ι)) (fun ι => nI ((g_qu ((ms Q i).1)) ι)) (nI (g_v5 ((ms Q i).1))) (nI (g_v6 ((ms Q i).1))) ((nI (g_v7 Q)) + (nI (ms Q i).2)))) (P := aq_fi 1 12 = true) ok_r_escalate rfl fi1_12 ?_
        rw [ms_7, nI_1]
        exact ih (i + 1) (by omega) _ (WM_7 (WM_ms hWQ i) _)
set_option maxHeartbeats 4000000 in
theorem rm_escalate_t {d : Nat} {M : MSt} {x y : Int32} (hx : x < 0 ∨ nI (g_n M) ≤ x) : AM r_escalate (d + 1) (.inl (some (.int (nI 0)))) [.ref 0, .int x, .int y] (wM M) (wM (m_cd M 1)) := by
  refine aq_enter pl_r_escalate (Nat.le_of_ble_eq_true rfl) ?_
  refine aq_gn (n := 3) (c1 := (3, [some (.ref 0), some (.int x), some (.int y), none, none, none, none], [.int x, .ref 0, .ref 0], wM M)) ok_r_escalate rfl ?_
  refine aq_callV (as := [.int x]) (st := [.ref 0]) ok_r_escalate rfl c1_r_isTransaction (rm_isTransactionM x) rfl (Nat.le_of_ble_eq_true rfl) rfl rfl rfl ?_
  rw [isT_out hx]
  refine aq_if_eq ok_r_escalate rfl (fun h => ?_) (fun h => ?_)
  · show AW r_escalate _ _ _ (16, [some (.ref 0), some (.int x), some (.int y), none, none, none, none], [.ref 0], mL (g_cd M) (g_n M) (g_pr M) (g_st M) (g_he M) (g_wt M) (g_wn M) (g_cv M) (g_qs M) (g_qu M) (g_v5 M) (g_v6 M) (g_v7 M))
    refine aq_go (n := 5) (c1 := (50, [some (.ref 0), some (.int x), some (.int y), none, none, none, none], [.int (nI 1)], mR (nI 1) (nI (g_n M)) (fun ι => nI ((g_pr M) ι)) (fun ι => nI ((g_st M) ι)) (fun ι => oI ((g_he M) ι)) (fun ι => oI ((g_wt M) ι)) (fun ι => nI ((g_wn M) ι)) (fun ι => bI ((g_cv M) ι)) (fun ι => nI ((g_qs M) ι)) (fun ι => nI ((g_qu M) ι)) (nI (g_v5 M)) (nI (g_v6 M)) (nI (g_v7 M)))) (P := aq_fi 1 0 = true) ok_r_escalate rfl fi1_0 ?_
    show AW r_escalate _ _ _ (50, [some (.ref 0), some (.int x), some (.int y), none, none, none, none], [.int (nI 1)], wM (m_cd M 1))
    refine aq_if_le ok_r_escalate rfl (fun hz => ?_) (fun hz => ?_)
    · exact absurd hz c_le1
    · refine aq_gn (n := 1) (c1 := (54, [some (.ref 0), some (.int x), some (.int y), none, none, none, none], [.int (nI 0)], wM (m_cd M 1))) ok_r_escalate rfl ?_
      exact aq_ei ok_r_escalate rfl rfl rfl rfl
  · exact absurd rfl h
set_option maxHeartbeats 4000000 in
theorem rm_escalate_o {d : Nat} {M : MSt} {t : Nat} {y : Int32} (hM : WM M) (ht : t < g_n M) (hy : y < 0 ∨ nI 85 ≤ y) : AM r_escalate (d + 1) (.inl (some (.int (nI 0)))) [.ref 0, .int (nI t), .int y] (wM M) (wM (m_cd M 1)) := by
  refine aq_enter pl_r_escalate (Nat.le_of_ble_eq_true rfl) ?_
  have ht6 : t < 60 := Nat.lt_of_lt_of_le ht hM.1
  refine aq_gn (n := 3) (c1 := (3, [some (.ref 0), some (.int (nI t)), some (.int y), none, none, none, none], [.int (nI t), .ref 0, .ref 0], wM M)) ok_r_escalate rfl ?_
  refine aq_callV (as := [.int (nI t)]) (st := [.ref 0]) ok_r_escalate rfl c1_r_isTransaction (rm_isTransactionM (nI t)) rfl (Nat.le_of_ble_eq_true rfl) rfl rfl rfl ?_
  rw [isT_in ht (show g_n M < 2 ^ 31 by have := hM.1; omega)]
  refine aq_if_eq ok_r_escalate rfl (fun h => ?_) (fun h => ?_)
  · exact absurd h bI_t
  · refine aq_gn (n := 1) (c1 := (10, [some (.ref 0), some (.int (nI t)), some (.int y), none, none, none, none], [.int y, .ref 0], wM M)) ok_r_escalate rfl ?_
    refine aq_callS (as := [.int y]) (st := [.ref 0]) ok_r_escalate rfl c1_r_isObject (rm_isObject y) rfl (Nat.le_of_ble_eq_true rfl) ?_
    rw [isT_out hy]
    refine aq_if_ne ok_r_escalate rfl (fun h1 => ?_) (fun h1 => ?_)
    · exact absurd rfl h1
    · show AW r_escalate _ _ _ (16, [some (.ref 0), some (.int (nI t)), some (.int y), none, none, none, none], [.ref 0], mL (g_cd M) (g_n M) (g_pr M) (g_st M) (g_he M) (g_wt M) (g_wn M) (g_cv M) (g_qs M) (g_qu M) (g_v5 M) (g_v6 M) (g_v7 M))
      refine aq_go (n := 5) (c1 := (50, [some (.ref 0), some (.int (nI t)), some (.int y), none, none, none, none], [.int (nI 1)], mR (nI 1) (nI (g_n M)) (fun ι => nI ((g_pr M) ι)) (fun ι => nI ((g_st M) ι)) (fun ι => oI ((g_he M) ι)) (fun ι => oI ((g_wt M) ι)) (fun ι => nI ((g_wn M) ι)) (fun ι => bI ((g_cv M) ι)) (fun ι => nI ((g_qs M) ι)) (fun ι => nI ((g_qu M) ι)) (nI (g_v5 M)) (nI (g_v6 M)) (nI (g_v7 M)))) (P := aq_fi 1 0 = true) ok_r_escalate rfl fi1_0 ?_
      show AW r_escalate _ _ _ (50, [some (.ref 0), some (.int (nI t)), some (.int y), none, none, none, none], [.int (nI 1)], wM (m_cd M 1))
      refine aq_if_le ok_r_escalate rfl (fun hz => ?_) (fun hz => ?_)
      · exact absurd hz c_le1
      · refine aq_gn (n := 1) (c1 := (54, [some (.ref 0), some (.int (nI t)), some (.int y), none, none, none, none], [.int (nI 0)], wM (m_cd M 1))) ok_r_escalate rfl ?_
        exact aq_ei ok_r_escalate rfl rfl rfl rfl
set_option maxHeartbeats 4000000 in
theorem rm_escalate_a {d : Nat} {M : MSt} {t o : Nat} (hM : WM M) (ht : t < g_n M) (ho : o < 85) (hs : ¬ g_st M t = 0) : AM r_escalate (d + 1) (.inl (some (.int (nI 0)))) [.ref 0, .int (nI t), .int (nI o)] (wM M) (wM (m_cd M 2)) := by
  refine aq_enter pl_r_escalate (Nat.le_of_ble_eq_true rfl) ?_
  have ht6 : t < 60 := Nat.lt_of_lt_of_le ht hM.1
  refine aq_gn (n := 3) (c1 := (3, [some (.ref 0), some (.int (nI t)), some (.int (nI o)), none, none, none, none], [.int (nI t), .ref 0, .ref 0], wM M)) ok_r_escalate rfl ?_
  refine aq_callV (as := [.int (nI t)]) (st := [.ref 0]) ok_r_escalate rfl c1_r_isTransaction (rm_isTransactionM (nI t)) rfl (Nat.le_of_ble_eq_true rfl) rfl rfl rfl ?_
  rw [isT_in ht (show g_n M < 2 ^ 31 by have := hM.1; omega)]
  refine aq_if_eq ok_r_escalate rfl (fun h => ?_) (fun h => ?_)
  · exact absurd h bI_t
  · refine aq_gn (n := 1) (c1 := (10, [some (.ref 0), some (.int (nI t)), some (.int (nI o)), none, none, none, none], [.int (nI o), .ref 0], wM M)) ok_r_escalate rfl ?_
    refine aq_callS (as := [.int (nI o)]) (st := [.ref 0]) ok_r_escalate rfl c1_r_isObject (rm_isObject (nI o)) rfl (Nat.le_of_ble_eq_true rfl) ?_
    rw [isT_in ho (by omega)]
    refine aq_if_ne ok_r_escalate rfl (fun h1 => ?_) (fun h1 => ?_)
    · show AW r_escalate _ _ _ (20, [some (.ref 0), some (.int (nI t)), some (.int (nI o)), none, none, none, none], [.ref 0], mL (g_cd M) (g_n M) (g_pr M) (g_st M) (g_he M) (g_wt M) (g_wn M) (g_cv M) (g_qs M) (g_qu M) (g_v5 M) (g_v6 M) (g_v7 M))
      refine aq_go (n := 4) (c1 := (26, [some (.ref 0), some (.int (nI t)), some (.int (nI o)), none, none, none, none], [.int (nI ((g_st M) (nI t).toNatClampNeg)), .ref 0], mL (g_cd M) (g_n M) (g_pr M) (g_st M) (g_he M) (g_wt M) (g_wn M) (g_cv M) (g_qs M) (g_qu M) (g_v5 M) (g_v6 M) (g_v7 M))) (P := vp_in (nI t) 60) ok_r_escalate rfl (in60 ht6) ?_
      rw [cl60 ht6]
      refine aq_if_ne ok_r_escalate rfl (fun h3 => ?_) (fun h3 => ?_)
      · refine aq_go (n := 5) (c1 := (50, [some (.ref 0), some (.int (nI t)), some (.int (nI o)), none, none, none, none], [.int (nI 2)], mR (nI 2) (nI (g_n M)) (fun ι => nI ((g_pr M) ι)) (fun ι => nI ((g_st M) ι)) (fun ι => oI ((g_he M) ι)) (fun ι => oI ((g_wt M) ι)) (fun ι => nI ((g_wn M) ι)) (fun ι => bI ((g_cv M) ι)) (fun ι => nI ((g_qs M) ι)) (fun ι => nI ((g_qu M) ι)) (nI (g_v5 M)) (nI (g_v6 M)) (nI (g_v7 M)))) (P := aq_fi 1 0 = true) ok_r_escalate rfl fi1_0 ?_
        show AW r_escalate _ _ _ (50, [some (.ref 0), some (.int (nI t)), some (.int (nI o)), none, none, none, none], [.int (nI 2)], wM (m_cd M 2))
        refine aq_if_le ok_r_escalate rfl (fun hz => ?_) (fun hz => ?_)
        · exact absurd hz c_le2
        · refine aq_gn (n := 1) (c1 := (54, [some (.ref 0), some (.int (nI t)), some (.int (nI o)), none, none, none, none], [.int (nI 0)], wM (m_cd M 2))) ok_r_escalate rfl ?_
          exact aq_ei ok_r_escalate rfl rfl rfl rfl
      · exact absurd (q_eq (b := 0) h3 (by have := hM.2.2.2.2.1 t; omega) (by omega)) hs
    · exact absurd h1 bI_t
set_option maxHeartbeats 4000000 in
theorem rm_escalate_h {d : Nat} {M : MSt} {t o : Nat} (hM : WM M) (ht : t < g_n M) (ho : o < 85) (hs : g_st M t = 0) (hh : ¬ 0 ≤ mdI (g_he M) t o) : AM r_escalate (d + 1) (.inl (some (.int (nI 0)))) [.ref 0, .int (nI t), .int (nI o)] (wM M) (wM (m_cd M 2)) := by
  refine aq_enter pl_r_escalate (Nat.le_of_ble_eq_true rfl) ?_
  have ht6 : t < 60 := Nat.lt_of_lt_of_le ht hM.1
  refine aq_gn (n := 3) (c1 := (3, [some (.ref 0), some (.int (nI t)), some (.int (nI o)), none, none, none, none], [.int (nI t), .ref 0, .ref 0], wM M)) ok_r_escalate rfl ?_
  refine aq_callV (as := [.int (nI t)]) (st := [.ref 0]) ok_r_escalate rfl c1_r_isTransaction (rm_isTransactionM (nI t)) rfl (Nat.le_of_ble_eq_true rfl) rfl rfl rfl ?_
  rw [isT_in ht (show g_n M < 2 ^ 31 by have := hM.1; omega)]
  refine aq_if_eq ok_r_escalate rfl (fun h => ?_) (fun h => ?_)
  · exact absurd h bI_t
  · refine aq_gn (n := 1) (c1 := (10, [some (.ref 0), some (.int (nI t)), some (.int (nI o)), none, none, none, none], [.int (nI o), .ref 0], wM M)) ok_r_escalate rfl ?_
    refine aq_callS (as := [.int (nI o)]) (st := [.ref 0]) ok_r_escalate rfl c1_r_isObject (rm_isObject (nI o)) rfl (Nat.le_of_ble_eq_true rfl) ?_
    rw [isT_in ho (by omega)]
    refine aq_if_ne ok_r_escalate rfl (fun h1 => ?_) (fun h1 => ?_)
    · show AW r_escalate _ _ _ (20, [some (.ref 0), some (.int (nI t)), some (.int (nI o)), none, none, none, none], [.ref 0], mL (g_cd M) (g_n M) (g_pr M) (g_st M) (g_he M) (g_wt M) (g_wn M) (g_cv M) (g_qs M) (g_qu M) (g_v5 M) (g_v6 M) (g_v7 M))
      refine aq_go (n := 4) (c1 := (26, [some (.ref 0), some (.int (nI t)), some (.int (nI o)), none, none, none, none], [.int (nI ((g_st M) (nI t).toNatClampNeg)), .ref 0], mL (g_cd M) (g_n M) (g_pr M) (g_st M) (g_he M) (g_wt M) (g_wn M) (g_cv M) (g_qs M) (g_qu M) (g_v5 M) (g_v6 M) (g_v7 M))) (P := vp_in (nI t) 60) ok_r_escalate rfl (in60 ht6) ?_
      rw [cl60 ht6]
      refine aq_if_ne ok_r_escalate rfl (fun h3 => ?_) (fun h3 => ?_)
      · exact absurd (by rw [hs]; rfl) h3
      · show AW r_escalate _ _ _ (29, [some (.ref 0), some (.int (nI t)), some (.int (nI o)), none, none, none, none], [.ref 0], wM M)
        refine aq_gn (n := 3) (c1 := (32, [some (.ref 0), some (.int (nI t)), some (.int (nI o)), none, none, none, none], [.int (nI o), .int (nI t), .ref 0, .ref 0], wM M)) ok_r_escalate rfl ?_
        refine aq_callV (as := [.int (nI t), .int (nI o)]) (st := [.ref 0]) ok_r_escalate rfl c1_r_modeOf (rm_modeOfM ht6 ho) rfl (Nat.le_of_ble_eq_true rfl) rfl rfl rfl ?_
        show AW r_escalate _ _ _ (35, [some (.ref 0), some (.int (nI t)), some (.int (nI o)), none, none, none, none], [.int (mdI (g_he M) t o), .ref 0], mL (g_cd M) (g_n M) (g_pr M) (g_st M) (g_he M) (g_wt M) (g_wn M) (g_cv M) (g_qs M) (g_qu M) (g_v5 M) (g_v6 M) (g_v7 M))
        refine aq_if_ge ok_r_escalate rfl (fun h4 => ?_) (fun h4 => ?_)
        · exact absurd h4 hh
        · refine aq_go (n := 5) (c1 := (50, [some (.ref 0), some (.int (nI t)), some (.int (nI o)), none, none, none, none], [.int (nI 2)], mR (nI 2) (nI (g_n M)) (fun ι => nI ((g_pr M) ι)) (fun ι => nI ((g_st M) ι)) (fun ι => oI ((g_he M) ι)) (fun ι => oI ((g_wt M) ι)) (fun ι => nI ((g_wn M) ι)) (fun ι => bI ((g_cv M) ι)) (fun ι => nI ((g_qs M) ι)) (fun ι => nI ((g_qu M) ι)) (nI (g_v5 M)) (nI (g_v6 M)) (nI (g_v7 M)))) (P := aq_fi 1 0 = true) ok_r_escalate rfl fi1_0 ?_
          show AW r_escalate _ _ _ (50, [some (.ref 0), some (.int (nI t)), some (.int (nI o)), none, none, none, none], [.int (nI 2)], wM (m_cd M 2))
          refine aq_if_le ok_r_escalate rfl (fun hz => ?_) (fun hz => ?_)
          · exact absurd hz c_le2
          · refine aq_gn (n := 1) (c1 := (54, [some (.ref 0), some (.int (nI t)), some (.int (nI o)), none, none, none, none], [.int (nI 0)], wM (m_cd M 2))) ok_r_escalate rfl ?_
            exact aq_ei ok_r_escalate rfl rfl rfl rfl
    · exact absurd h1 bI_t
set_option maxHeartbeats 4000000 in
theorem rm_escalate {d : Nat} {M : MSt} {t o : Nat} (hM : WM M) (hN : WN M) (ht : t < g_n M) (ho : o < 85) (hs : g_st M t = 0) (hh : 0 ≤ mdI (g_he M) t o) : AM r_escalate (d + 3) (.inl (some (.int ((mesc (m_cd M 0) t o).2)))) [.ref 0, .int (nI t), .int (nI o)] (wM M) (wM (mesc (m_cd M 0) t o).1) := by
  refine aq_enter pl_r_escalate (Nat.le_of_ble_eq_true rfl) ?_
  have ht6 : t < 60 := Nat.lt_of_lt_of_le ht hM.1
  refine aq_gn (n := 3) (c1 := (3, [some (.ref 0), some (.int (nI t)), some (.int (nI o)), none, none, none, none], [.int (nI t), .ref 0, .ref 0], wM M)) ok_r_escalate rfl ?_
  refine aq_callV (as := [.int (nI t)]) (st := [.ref 0]) ok_r_escalate rfl c1_r_isTransaction (rm_isTransactionM (nI t)) rfl (Nat.le_of_ble_eq_true rfl) rfl rfl rfl ?_
  rw [isT_in ht (show g_n M < 2 ^ 31 by have := hM.1; omega)]
  refine aq_if_eq ok_r_escalate rfl (fun h => ?_) (fun h => ?_)
  · exact absurd h bI_t
  · refine aq_gn (n := 1) (c1 := (10, [some (.ref 0), some (.int (nI t)), some (.int (nI o)), none, none, none, none], [.int (nI o), .ref 0], wM M)) ok_r_escalate rfl ?_
    refine aq_callS (as := [.int (nI o)]) (st := [.ref 0]) ok_r_escalate rfl c1_r_isObject (rm_isObject (nI o)) rfl (Nat.le_of_ble_eq_true rfl) ?_
    rw [isT_in ho (by omega)]
    refine aq_if_ne ok_r_escalate rfl (fun h1 => ?_) (fun h1 => ?_)
    · show AW r_escalate _ _ _ (20, [some (.ref 0), some (.int (nI t)), some (.int (nI o)), none, none, none, none], [.ref 0], mL (g_cd M) (g_n M) (g_pr M) (g_st M) (g_he M) (g_wt M) (g_wn M) (g_cv M) (g_qs M) (g_qu M) (g_v5 M) (g_v6 M) (g_v7 M))
      refine aq_go (n := 4) (c1 := (26, [some (.ref 0), some (.int (nI t)), some (.int (nI o)), none, none, none, none], [.int (nI ((g_st M) (nI t).toNatClampNeg)), .ref 0], mL (g_cd M) (g_n M) (g_pr M) (g_st M) (g_he M) (g_wt M) (g_wn M) (g_cv M) (g_qs M) (g_qu M) (g_v5 M) (g_v6 M) (g_v7 M))) (P := vp_in (nI t) 60) ok_r_escalate rfl (in60 ht6) ?_
      rw [cl60 ht6]
      refine aq_if_ne ok_r_escalate rfl (fun h3 => ?_) (fun h3 => ?_)
      · exact absurd (by rw [hs]; rfl) h3
      · show AW r_escalate _ _ _ (29, [some (.ref 0), some (.int (nI t)), some (.int (nI o)), none, none, none, none], [.ref 0], wM M)
        refine aq_gn (n := 3) (c1 := (32, [some (.ref 0), some (.int (nI t)), some (.int (nI o)), none, none, none, none], [.int (nI o), .int (nI t), .ref 0, .ref 0], wM M)) ok_r_escalate rfl ?_
        refine aq_callV (as := [.int (nI t), .int (nI o)]) (st := [.ref 0]) ok_r_escalate rfl c1_r_modeOf (rm_modeOfM ht6 ho) rfl (Nat.le_of_ble_eq_true rfl) rfl rfl rfl ?_
        show AW r_escalate _ _ _ (35, [some (.ref 0), some (.int (nI t)), some (.int (nI o)), none, none, none, none], [.int (mdI (g_he M) t o), .ref 0], mL (g_cd M) (g_n M) (g_pr M) (g_st M) (g_he M) (g_wt M) (g_wn M) (g_cv M) (g_qs M) (g_qu M) (g_v5 M) (g_v6 M) (g_v7 M))
        refine aq_if_ge ok_r_escalate rfl (fun h4 => ?_) (fun h4 => ?_)
        · refine aq_go (n := 4) (c1 := (50, [some (.ref 0), some (.int (nI t)), some (.int (nI o)), none, none, none, none], [.int (nI 0)], mR (nI 0) (nI (g_n M)) (fun ι => nI ((g_pr M) ι)) (fun ι => nI ((g_st M) ι)) (fun ι => oI ((g_he M) ι)) (fun ι => oI ((g_wt M) ι)) (fun ι => nI ((g_wn M) ι)) (fun ι => bI ((g_cv M) ι)) (fun ι => nI ((g_qs M) ι)) (fun ι => nI ((g_qu M) ι)) (nI (g_v5 M)) (nI (g_v6 M)) (nI (g_v7 M)))) (P := aq_fi 1 0 = true) ok_r_escalate rfl fi1_0 ?_
          show AW r_escalate _ _ _ (50, [some (.ref 0), some (.int (nI t)), some (.int (nI o)), none, none, none, none], [.int (nI 0)], wM (m_cd M 0))
          refine aq_if_le ok_r_escalate rfl (fun hz => ?_) (fun hz => ?_)
          · refine aq_gn (n := 8) (c1 := (65, [some (.ref 0), some (.int (nI t)), some (.int (nI o)), some (.int (nI 0)), some (.int (nI 0)), some (.int ((nI o) + (nI 1))), none], [], wM (m_cd M 0))) ok_r_escalate rfl ?_
            rw [nI_add]
            refine lp_x1 (d := d + 2) (M := m_cd M 0) ht6 ho (84 - o) (o + 1) (by omega) false 0 ?_
            have hne := hN (60 * o + t)
            have hq := mdI_v hne
            show AW r_escalate _ _ _ (147, [some (.ref 0), some (.int (nI t)), some (.int (nI o)), some (.int (bI (xwF (g_he M) t o (84 - o) (o + 1) false 0).1)), some (.int (nI (xwF (g_he M) t o (84 - o) (o + 1) false 0).2)), none, none], [], wM (m_cd M 0))
            refine aq_gn (n := 3) (c1 := (150, [some (.ref 0), some (.int (nI t)), some (.int (nI o)), some (.int (bI (xwF (g_he M) t o (84 - o) (o + 1) false 0).1)), some (.int (nI (xwF (g_he M) t o (84 - o) (o + 1) false 0).2)), none, none], [.int (nI o), .int (nI t), .ref 0], wM (m_cd M 0))) ok_r_escalate rfl ?_
            refine aq_callV (as := [.int (nI t), .int (nI o)]) (st := []) ok_r_escalate rfl c1_r_modeOf (rm_modeOfM (M := m_cd M 0) ht6 ho) rfl (Nat.le_of_ble_eq_true rfl) rfl rfl rfl ?_
            refine aq_gn (n := 1) (c1 := (154, [some (.ref 0), some (.int (nI t)), some (.int (nI o)), some (.int (bI (xwF (g_he M) t o (84 - o) (o + 1) false 0).1)), some (.int (nI (xwF (g_he M) t o (84 - o) (o + 1) false 0).2)), none, none], [.int (bI (xwF (g_he M) t o (84 - o) (o + 1) false 0).1), .int (mdI (g_he M) t o)], wM (m_cd M 0))) ok_r_escalate rfl ?_
            refine aq_if_eq ok_r_escalate rfl (fun h6 => ?_) (fun h6 => ?_)
            · have hw := (bI_0 _).mp h6
              refine aq_gn (n := 1) (c1 := (162, [some (.ref 0), some (.int (nI t)), some (.int (nI o)), some (.int (bI (xwF (g_he M) t o (84 - o) (o + 1) false 0).1)), some (.int (nI (xwF (g_he M) t o (84 - o) (o + 1) false 0).2)), none, none], [.int (nI 2), .int (mdI (g_he M) t o)], wM (m_cd M 0))) ok_r_escalate rfl ?_
              have hx4 : lub (hv (g_he M (60 * o + t))) 2 = xww M t o := by rw [xww, hw]; rfl
              refine aq_callS (as := [.int (mdI (g_he M) t o), .int (nI 2)]) (st := []) ok_r_escalate rfl c1_r_leastAbove (rm_leastAbove (mdI (g_he M) t o) (nI 2)) rfl (Nat.le_of_ble_eq_true rfl) ?_
              have hr : rlI (mdI (g_he M) t o) (nI 2) = nI (xww M t o) := by
                rw [← hx4, hq]
                cases hc : hv (g_he M (60 * o + t)) with
                | none => rw [hq, hc] at hh; exact absurd hh (by decide)
                | some a => exact rlI_lub a (hv_lt (hM.2.2.2.2.2.2.2 _) a hc) 2 (by omega)
              have hX5 := xww_lt hM t o
              rw [hr]
              refine aq_gn (n := 5) (c1 := (172, [some (.ref 0), some (.int (nI t)), some (.int (nI o)), some (.int (bI (xwF (g_he M) t o (84 - o) (o + 1) false 0).1)), some (.int (nI (xwF (g_he M) t o (84 - o) (o + 1) false 0).2)), some (.int (nI (xww M t o))), none], [.int (nI (xww M t o)), .int (nI o), .int (nI t), .ref 0], wM (m_cd M 0))) ok_r_escalate rfl ?_
              refine aq_callV (as := [.int (nI t), .int (nI o), .int (nI (xww M t o))]) (st := []) ok_r_escalate rfl c1_r_fits (rm_fitsM (M := m_cd M 0) hM ht6 ho) rfl (Nat.le_of_ble_eq_true rfl) rfl rfl rfl ?_
              refine aq_if_ne ok_r_escalate rfl (fun h7 => ?_) (fun h7 => ?_)
              · have hf : ftF (g_he M) t o (nI (xww M t o)) (g_n M) 0 true = true := by cases hy : ftF (g_he M) t o (nI (xww M t o)) (g_n M) 0 true with | true => rfl | false => exact absurd ((bI_0 _).mpr hy) h7
                have e : mesc (m_cd M 0) t o = (xfin (xsF t (84 - o) (o + 1) (x_M (m_cd M 0) t o (xww M t o))) o, nI (xwF (g_he M) t o (84 - o) (o + 1) false 0).2) := by unfold mesc; exact if_pos hf
                rw [e]
                show AW r_escalate _ _ _ (180, [some (.ref 0), some (.int (nI t)), some (.int (nI o)), some (.int (bI (xwF (g_he M) t o (84 - o) (o + 1) false 0).1)), some (.int (nI (xwF (g_he M) t o (84 - o) (o + 1) false 0).2)), some (.int (nI (xww M t o))), none], [], mL (g_cd (m_cd M 0)) (g_n (m_cd M 0)) (g_pr (m_cd M 0)) (g_st (m_cd M 0)) (g_he (m_cd M 0)) (g_wt (m_cd M 0)) (g_wn (m_cd M 0)) (g_cv (m_cd M 0)) (g_qs (m_cd M 0)) (g_qu (m_cd M 0)) (g_v5 (m_cd M 0)) (g_v6 (m_cd M 0)) (g_v7 (m_cd M 0)))
                refine aq_go (n := 15) (c1 := (200, [some (.ref 0), some (.int (nI t)), some (.int (nI o)), some (.int (bI (xwF (g_he M) t o (84 - o) (o + 1) false 0).1)), some (.int (nI (xwF (g_he M) t o (84 - o) (o + 1) false 0).2)), some (.int (nI (xww M t o))), some (.int ((nI o) + (nI 1)))], [], mR (nI (g_cd (m_cd M 0))) (nI (g_n (m_cd M 0))) (fun ι => nI ((g_pr (m_cd M 0)) ι)) (fun ι => nI ((g_st (m_cd M 0)) ι)) (upd (fun ι => oI ((g_he (m_cd M 0)) ι)) (((nI 60) * (nI o)) + (nI t)).toNatClampNeg ((nI (xww M t o)) + (nI 1))) (fun ι => oI ((g_wt (m_cd M 0)) ι)) (fun ι => nI ((g_wn (m_cd M 0)) ι)) (fun ι => bI ((g_cv (m_cd M 0)) ι)) (fun ι => nI ((g_qs (m_cd M 0)) ι)) (fun ι => nI ((g_qu (m_cd M 0)) ι)) (nI (g_v5 (m_cd M 0))) (nI (g_v6 (m_cd M 0))) (nI (g_v7 (m_cd M 0))))) (P := vp_in (((nI 60) * (nI o)) + (nI t)) 5100) ok_r_escalate rfl (in6 ho ht6) ?_
                rw [cl6 ho ht6, show (nI (xww M t o)) + (nI 1) = nI (xww M t o + 1) from nI_add _ _, upd_o, nI_add]
                refine lp_x2 (d := d + 2) (M := m_cd M 0) ht6 ho (84 - o) (o + 1) (by omega) _ ?_
                obtain ⟨Q, hQ⟩ : ∃ Q, Q = x_M (m_cd M 0) t o (xww M t o) := ⟨_, rfl⟩
                have hWQ : WM Q := by rw [hQ]; exact WM_xM hM t o hX5
                show AW r_escalate _ _ _ (245, [some (.ref 0), some (.int (nI t)), some (.int (nI o)), some (.int (bI (xwF (g_he M) t o (84 - o) (o + 1) false 0).1)), some (.int (nI (xwF (g_he M) t o (84 - o) (o + 1) false 0).2)), some (.int (nI (xww M t o))), none], [], wM (x_M (m_cd M 0) t o (xww M t o)))
                rw [← hQ]
                refine aq_gn (n := 4) (c1 := (250, [some (.ref 0), some (.int (nI t)), some (.int (nI o)), some (.int (bI (xwF (g_he M) t o (84 - o) (o + 1) false 0).1)), some (.int (nI (xwF (g_he M) t o (84 - o) (o + 1) false 0).2)), some (.int (nI (xww M t o))), some (.int ((nI o) + (nI 1)))], [], wM Q)) ok_r_escalate rfl ?_
                rw [nI_add]
                exact lp_x3 ht6 ho (84 - o) (o + 1) (by omega) Q hWQ
              · have hf := (bI_0 _).mp h7
                have e : mesc (m_cd M 0) t o = (m_cd M 0, -1) := by unfold mesc; exact if_neg (by rw [show ftF (g_he (m_cd M 0)) t o (nI (xww (m_cd M 0) t o)) (g_n (m_cd M 0)) 0 true = false from hf]; exact fun q => by cases q)
                rw [e]
                refine aq_gn (n := 1) (c1 := (179, [some (.ref 0), some (.int (nI t)), some (.int (nI o)), some (.int (bI (xwF (g_he M) t o (84 - o) (o + 1) false 0).1)), some (.int (nI (xwF (g_he M) t o (84 - o) (o + 1) false 0).2)), some (.int (nI (xww M t o))), none], [.int (-1)], wM (m_cd M 0))) ok_r_escalate rfl ?_
                exact aq_ei ok_r_escalate rfl rfl rfl rfl
            · have hw : (xwF (g_he M) t o (84 - o) (o + 1) false 0).1 = true := by cases hy : (xwF (g_he M) t o (84 - o) (o + 1) false 0).1 with | true => rfl | false => exact absurd ((bI_0 _).mpr hy) h6
              refine aq_gn (n := 2) (c1 := (162, [some (.ref 0), some (.int (nI t)), some (.int (nI o)), some (.int (bI (xwF (g_he M) t o (84 - o) (o + 1) false 0).1)), some (.int (nI (xwF (g_he M) t o (84 - o) (o + 1) false 0).2)), none, none], [.int (nI 4), .int (mdI (g_he M) t o)], wM (m_cd M 0))) ok_r_escalate rfl ?_
              have hx4 : lub (hv (g_he M (60 * o + t))) 4 = xww M t o := by rw [xww, hw]; rfl
              refine aq_callS (as := [.int (mdI (g_he M) t o), .int (nI 4)]) (st := []) ok_r_escalate rfl c1_r_leastAbove (rm_leastAbove (mdI (g_he M) t o) (nI 4)) rfl (Nat.le_of_ble_eq_true rfl) ?_
              have hr : rlI (mdI (g_he M) t o) (nI 4) = nI (xww M t o) := by
                rw [← hx4, hq]
                cases hc : hv (g_he M (60 * o + t)) with
                | none => rw [hq, hc] at hh; exact absurd hh (by decide)
                | some a => exact rlI_lub a (hv_lt (hM.2.2.2.2.2.2.2 _) a hc) 4 (by omega)
              have hX5 := xww_lt hM t o
              rw [hr]
              refine aq_gn (n := 5) (c1 := (172, [some (.ref 0), some (.int (nI t)), some (.int (nI o)), some (.int (bI (xwF (g_he M) t o (84 - o) (o + 1) false 0).1)), some (.int (nI (xwF (g_he M) t o (84 - o) (o + 1) false 0).2)), some (.int (nI (xww M t o))), none], [.int (nI (xww M t o)), .int (nI o), .int (nI t), .ref 0], wM (m_cd M 0))) ok_r_escalate rfl ?_
              refine aq_callV (as := [.int (nI t), .int (nI o), .int (nI (xww M t o))]) (st := []) ok_r_escalate rfl c1_r_fits (rm_fitsM (M := m_cd M 0) hM ht6 ho) rfl (Nat.le_of_ble_eq_true rfl) rfl rfl rfl ?_
              refine aq_if_ne ok_r_escalate rfl (fun h7 => ?_) (fun h7 => ?_)
              · have hf : ftF (g_he M) t o (nI (xww M t o)) (g_n M) 0 true = true := by cases hy : ftF (g_he M) t o (nI (xww M t o)) (g_n M) 0 true with | true => rfl | false => exact absurd ((bI_0 _).mpr hy) h7
                have e : mesc (m_cd M 0) t o = (xfin (xsF t (84 - o) (o + 1) (x_M (m_cd M 0) t o (xww M t o))) o, nI (xwF (g_he M) t o (84 - o) (o + 1) false 0).2) := by unfold mesc; exact if_pos hf
                rw [e]
                show AW r_escalate _ _ _ (180, [some (.ref 0), some (.int (nI t)), some (.int (nI o)), some (.int (bI (xwF (g_he M) t o (84 - o) (o + 1) false 0).1)), some (.int (nI (xwF (g_he M) t o (84 - o) (o + 1) false 0).2)), some (.int (nI (xww M t o))), none], [], mL (g_cd (m_cd M 0)) (g_n (m_cd M 0)) (g_pr (m_cd M 0)) (g_st (m_cd M 0)) (g_he (m_cd M 0)) (g_wt (m_cd M 0)) (g_wn (m_cd M 0)) (g_cv (m_cd M 0)) (g_qs (m_cd M 0)) (g_qu (m_cd M 0)) (g_v5 (m_cd M 0)) (g_v6 (m_cd M 0)) (g_v7 (m_cd M 0)))
                refine aq_go (n := 15) (c1 := (200, [some (.ref 0), some (.int (nI t)), some (.int (nI o)), some (.int (bI (xwF (g_he M) t o (84 - o) (o + 1) false 0).1)), some (.int (nI (xwF (g_he M) t o (84 - o) (o + 1) false 0).2)), some (.int (nI (xww M t o))), some (.int ((nI o) + (nI 1)))], [], mR (nI (g_cd (m_cd M 0))) (nI (g_n (m_cd M 0))) (fun ι => nI ((g_pr (m_cd M 0)) ι)) (fun ι => nI ((g_st (m_cd M 0)) ι)) (upd (fun ι => oI ((g_he (m_cd M 0)) ι)) (((nI 60) * (nI o)) + (nI t)).toNatClampNeg ((nI (xww M t o)) + (nI 1))) (fun ι => oI ((g_wt (m_cd M 0)) ι)) (fun ι => nI ((g_wn (m_cd M 0)) ι)) (fun ι => bI ((g_cv (m_cd M 0)) ι)) (fun ι => nI ((g_qs (m_cd M 0)) ι)) (fun ι => nI ((g_qu (m_cd M 0)) ι)) (nI (g_v5 (m_cd M 0))) (nI (g_v6 (m_cd M 0))) (nI (g_v7 (m_cd M 0))))) (P := vp_in (((nI 60) * (nI o)) + (nI t)) 5100) ok_r_escalate rfl (in6 ho ht6) ?_
                rw [cl6 ho ht6, show (nI (xww M t o)) + (nI 1) = nI (xww M t o + 1) from nI_add _ _, upd_o, nI_add]
                refine lp_x2 (d := d + 2) (M := m_cd M 0) ht6 ho (84 - o) (o + 1) (by omega) _ ?_
                obtain ⟨Q, hQ⟩ : ∃ Q, Q = x_M (m_cd M 0) t o (xww M t o) := ⟨_, rfl⟩
                have hWQ : WM Q := by rw [hQ]; exact WM_xM hM t o hX5
                show AW r_escalate _ _ _ (245, [some (.ref 0), some (.int (nI t)), some (.int (nI o)), some (.int (bI (xwF (g_he M) t o (84 - o) (o + 1) false 0).1)), some (.int (nI (xwF (g_he M) t o (84 - o) (o + 1) false 0).2)), some (.int (nI (xww M t o))), none], [], wM (x_M (m_cd M 0) t o (xww M t o)))
                rw [← hQ]
                refine aq_gn (n := 4) (c1 := (250, [some (.ref 0), some (.int (nI t)), some (.int (nI o)), some (.int (bI (xwF (g_he M) t o (84 - o) (o + 1) false 0).1)), some (.int (nI (xwF (g_he M) t o (84 - o) (o + 1) false 0).2)), some (.int (nI (xww M t o))), some (.int ((nI o) + (nI 1)))], [], wM Q)) ok_r_escalate rfl ?_
                rw [nI_add]
                exact lp_x3 ht6 ho (84 - o) (o + 1) (by omega) Q hWQ
              · have hf := (bI_0 _).mp h7
                have e : mesc (m_cd M 0) t o = (m_cd M 0, -1) := by unfold mesc; exact if_neg (by rw [show ftF (g_he (m_cd M 0)) t o (nI (xww (m_cd M 0) t o)) (g_n (m_cd M 0)) 0 true = false from hf]; exact fun q => by cases q)
                rw [e]
                refine aq_gn (n := 1) (c1 := (179, [some (.ref 0), some (.int (nI t)), some (.int (nI o)), some (.int (bI (xwF (g_he M) t o (84 - o) (o + 1) false 0).1)), some (.int (nI (xwF (g_he M) t o (84 - o) (o + 1) false 0).2)), some (.int (nI (xww M t o))), none], [.int (-1)], wM (m_cd M 0))) ok_r_escalate rfl ?_
                exact aq_ei ok_r_escalate rfl rfl rfl rfl
          · exact absurd c_le0 hz
        · exact absurd hh h4
    · exact absurd h1 bI_t
