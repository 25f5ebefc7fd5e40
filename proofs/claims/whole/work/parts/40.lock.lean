/-! THE CLASS: breakCircles, the tree, lock, commit, abort -/
def s_wl (S : LSt) (r : Nat → Int64) : LSt := (s_st S, s_pr S, s_aw S, s_wa S, s_ha S, s_la S, r, s_n S, s_k S, s_c5 S, s_c6 S, s_c7 S)
def s_5 (S : LSt) : LSt := (s_st S, s_pr S, s_aw S, s_wa S, s_ha S, s_la S, s_wr S, s_n S, s_k S, s_c5 S + 1, s_c6 S, s_c7 S)
def s_sl (S : LSt) (t x : Nat) : LSt := (va_up (s_st S) t x, s_pr S, s_aw S, s_wa S, s_ha S, s_la S, s_wr S, s_n S, s_k S, s_c5 S, s_c6 S, s_c7 S)
theorem WF_wl {S : LSt} (h : WF S) (r : Nat → Int64) : WF (s_wl S r) := h
theorem WF_5 {S : LSt} (h : WF S) : WF (s_5 S) := h
theorem WF_sl {S : LSt} (h : WF S) (t x : Nat) (hx : x < 4) : WF (s_sl S t x) := ⟨h.1, h.2.1, h.2.2.1, h.2.2.2.1, h.2.2.2.2.1, h.2.2.2.2.2.1, fun u => va_up_lt h.2.2.2.2.2.2.1 hx u, h.2.2.2.2.2.2.2⟩
/-- the rows of the search, and the circle of t -/
def cirR (S : LSt) : Nat → Int64 := crF (wrw (s_aw S) (s_wa S) (s_ha S) (s_la S) (s_k S)) (s_n S) 0 (s_wr S)
def cirB (S : LSt) (t : Nat) : Int64 := rfO (cirR S) (s_n S) 60 (cirR S t) &&& rgO (cirR S) (s_n S) 60 (lbit t)
def vic (S : LSt) (t : Nat) : Option Nat := wkF (s_pr S) (cirB S t) (s_n S) 0 none
def bcF (t : Nat) : Nat → LSt → LSt
  | 0, S => S
  | f + 1, S => if s_st S t = 1 then (match vic S t with
    | none => s_wl S (cirR S)
    | some v => bcF t f (en (s_5 (s_wl S (cirR S))) v 3).1) else S
theorem wkF_lt {pr : Nat → Nat} {c : Int64} : ∀ (f i : Nat) (w : Option Nat), (∀ u, w = some u → u < i) → ∀ v, wkF pr c f i w = some v → v < i + f := by
  intro f
  induction f with
  | zero => intro i w hw v h; exact hw v h
  | succ f ih =>
    intro i w hw v h
    unfold wkF at h
    have := ih (i + 1) _ (by
      intro u q
      split at q
      · cases q; omega
      · have := hw u q; omega) v h
    omega
theorem vic_lt {S : LSt} {t v : Nat} (h : vic S t = some v) : v < s_n S := by have := wkF_lt _ _ _ (fun u q => by cases q) _ h; omega
theorem WF_bcF {t : Nat} : ∀ (f : Nat) (S : LSt), WF S → WF (bcF t f S) := by
  intro f
  induction f with
  | zero => intro S h; exact h
  | succ f ih =>
    intro S h
    unfold bcF
    split
    · split
      · exact WF_wl h _
      · exact ih _ (WF_en (WF_5 (WF_wl h _)) _ _ (by omega))
    · exact h
set_option maxHeartbeats 4000000 in
theorem am_circleS {d : Nat} {S : LSt} {t : Nat} (h : WF S) (ht : t < 60) : AM m_circleOf (d + 3) (.inl (some (.long (cirB S t)))) [.ref 0, .int (nI t)] (wS S) (wS (s_wl S (cirR S))) := am_circle ht h.2.2.1 h.2.1 h.1 h.2.2.2.1
set_option maxHeartbeats 4000000 in
theorem am_weakestS {d : Nat} {S : LSt} {c : Int64} (h : WF S) : AM m_weakestOf (d + 1) (.inl (some (.int (oI (wkF (s_pr S) c (s_n S) 0 none))))) [.ref 0, .long c] (wS S) (wS S) := am_weakest h.2.2.1 h.2.2.2.2.2.2.2
set_option maxHeartbeats 4000000 in
theorem lp_break {d : Nat} {t : Nat} (ht : t < 60) : ∀ (f i : Nat), i + f = 60 → ∀ S : LSt, WF S → AW m_breakCircles (d + 5) (.inl none) (wS (bcF t f S)) (2, [some (.ref 0), some (.int (nI t)), some (.int (nI i)), none], [], wL (s_st S) (s_pr S) (s_aw S) (s_wa S) (s_ha S) (s_la S) (s_wr S) (s_n S) (s_k S) (s_c5 S) (s_c6 S) (s_c7 S)) := by
  intro f
  induction f with
  | zero =>
    intro i hif S hS
    refine aq_gn (n := 2) (c1 := (5, [some (.ref 0), some (.int (nI t)), some (.int (nI i)), none], [.int (nI 60), .int (nI i)], wL (s_st S) (s_pr S) (s_aw S) (s_wa S) (s_ha S) (s_la S) (s_wr S) (s_n S) (s_k S) (s_c5 S) (s_c6 S) (s_c7 S))) ok_m_breakCircles rfl ?_
    refine aq_icmp_ge ok_m_breakCircles rfl (fun h => ?_) (fun h => ?_)
    · exact aq_ev ok_m_breakCircles rfl rfl rfl
    · exact absurd (nI_le (show 60 ≤ i by omega) (by omega)) h
  | succ f ih =>
    intro i hif S hS
    refine aq_gn (n := 2) (c1 := (5, [some (.ref 0), some (.int (nI t)), some (.int (nI i)), none], [.int (nI 60), .int (nI i)], wL (s_st S) (s_pr S) (s_aw S) (s_wa S) (s_ha S) (s_la S) (s_wr S) (s_n S) (s_k S) (s_c5 S) (s_c6 S) (s_c7 S))) ok_m_breakCircles rfl ?_
    refine aq_icmp_ge ok_m_breakCircles rfl (fun h => ?_) (fun h => ?_)
    · exact absurd (q_le h (by omega) (by omega)) (by omega)
    · refine aq_go (n := 5) (c1 := (15, [some (.ref 0), some (.int (nI t)), some (.int (nI i)), none], [.int (nI 1), .int (nI ((s_st S) (nI t).toNatClampNeg))], wL (s_st S) (s_pr S) (s_aw S) (s_wa S) (s_ha S) (s_la S) (s_wr S) (s_n S) (s_k S) (s_c5 S) (s_c6 S) (s_c7 S))) (P := vp_in (nI t) 60) ok_m_breakCircles rfl (in60 ht) ?_
      rw [cl60 ht]
      refine aq_icmp_ne ok_m_breakCircles rfl (fun h2 => ?_) (fun h2 => ?_)
      · have hb := q_ne h2
        have e : bcF t (f + 1) S = S := by rw [bcF, if_neg hb]
        rw [e]
        exact aq_ev ok_m_breakCircles rfl rfl rfl
      · have hb := q_eq h2 (by have := hS.2.2.2.2.2.2.1 t; omega) (by omega)
        refine aq_gn (n := 3) (c1 := (21, [some (.ref 0), some (.int (nI t)), some (.int (nI i)), none], [.int (nI t), .ref 0, .ref 0], wS S)) ok_m_breakCircles rfl ?_
        refine aq_callV (as := [.int (nI t)]) (st := [.ref 0]) ok_m_breakCircles rfl c0_m_circleOf (am_circleS (d := d + 1) hS ht) rfl (Nat.le_of_ble_eq_true rfl) rfl rfl rfl ?_
        refine aq_callV (as := [.long (cirB S t)]) (st := []) ok_m_breakCircles rfl c0_m_weakestOf (am_weakestS (d := d + 3) (S := (s_wl S (cirR S))) (WF_wl hS _)) rfl (Nat.le_of_ble_eq_true rfl) rfl rfl rfl ?_
        refine aq_gn (n := 3) (c1 := (30, [some (.ref 0), some (.int (nI t)), some (.int (nI i)), some (.int (oI (vic S t)))], [.int (-1), .int (oI (vic S t))], wS (s_wl S (cirR S)))) ok_m_breakCircles rfl ?_
        refine aq_icmp_ne ok_m_breakCircles rfl (fun h3 => ?_) (fun h3 => ?_)
        · obtain ⟨v, hv⟩ := oI_nm1 h3
          have hv6 : v < 60 := Nat.lt_of_lt_of_le (vic_lt hv) hS.2.2.1
          obtain ⟨Q, hQ⟩ : ∃ Q, Q = (s_wl S (cirR S)) := ⟨_, rfl⟩
          have hWQ : WF Q := by rw [hQ]; exact WF_wl hS _
          have e : bcF t (f + 1) S = bcF t f (en (s_5 Q) v 3).1 := by rw [bcF, if_pos hb, hv, hQ]
          rw [e, hv, ← hQ]
          clear e hQ hS
          show AW m_breakCircles _ _ _ (34, [some (.ref 0), some (.int (nI t)), some (.int (nI i)), some (.int (nI v))], [], wL (s_st Q) (s_pr Q) (s_aw Q) (s_wa Q) (s_ha Q) (s_la Q) (s_wr Q) (s_n Q) (s_k Q) (s_c5 Q) (s_c6 Q) (s_c7 Q))
          refine aq_go (n := 9) (c1 := (47, [some (.ref 0), some (.int (nI t)), some (.int (nI i)), some (.int (nI v))], [.int (nI 3), .int (nI v), .ref 0], wR (fun i => nI ((s_st Q) i)) (fun i => nI ((s_pr Q) i)) (fun i => oI ((s_aw Q) i)) (fun i => oI ((s_wa Q) i)) (s_ha Q) (fun i => nI ((s_la Q) i)) (s_wr Q) (nI (s_n Q)) (nI (s_k Q)) ((nI (s_c5 Q)) + (nI 1)) (nI (s_c6 Q)) (nI (s_c7 Q)))) (P := aq_fi 0 9 = true) ok_m_breakCircles rfl fi0_9 ?_
          rw [nI_add]
          show AW m_breakCircles _ _ _ (47, [some (.ref 0), some (.int (nI t)), some (.int (nI i)), some (.int (nI v))], [.int (nI 3), .int (nI v), .ref 0], wS (s_5 Q))
          refine aq_callV (as := [.int (nI v), .int (nI 3)]) (st := []) ok_m_breakCircles rfl c0_m_end (am_end (S := s_5 Q) (WF_5 hWQ) hv6 (by omega)) rfl (Nat.le_of_ble_eq_true rfl) rfl rfl rfl ?_
          refine aq_gn (n := 3) (c1 := (2, [some (.ref 0), some (.int (nI t)), some (.int ((nI i) + 1)), some (.int (nI v))], [], wS (en (s_5 Q) v 3).1)) ok_m_breakCircles rfl ?_
          rw [nI_1]
          refine aq_drop 3 ?_
          exact ih (i + 1) (by omega) _ (WF_en (WF_5 hWQ) _ _ (by omega))
        · have hv := oI_m1 h3 (fun x q => by have := vic_lt q; have := hS.2.2.1; omega)
          have e : bcF t (f + 1) S = (s_wl S (cirR S)) := by rw [bcF, if_pos hb, hv]
          rw [e]
          exact aq_ev ok_m_breakCircles rfl rfl rfl
set_option maxHeartbeats 4000000 in
theorem am_break {d : Nat} {t : Nat} {S : LSt} (hS : WF S) (ht : t < 60) : AM m_breakCircles (d + 5) (.inl none) [.ref 0, .int (nI t)] (wS S) (wS (bcF t 60 S)) := by
  refine aq_enter pl_m_breakCircles (Nat.le_of_ble_eq_true rfl) ?_
  refine aq_gn (n := 2) (c1 := (2, [some (.ref 0), some (.int (nI t)), some (.int (nI 0)), none], [], wS S)) ok_m_breakCircles rfl ?_
  exact lp_break ht 60 0 rfl S hS
set_option maxHeartbeats 4000000 in
theorem am_answer {d : Nat} {st pr : Nat → Nat} {aw wa : Nat → Option Nat} {ha : Nat → Int64} {la : Nat → Nat} {wr : Nat → Int64} {n k c5 c6 c7 : Nat} {t : Nat} (ht : t < 60) (hst : ∀ t, st t < 4) : AM m_answerFor (d) (.inl (some (.int (if st t = 0 then (1 : Int32) else if st t = 1 then 0 else -1)))) [.ref 0, .int (nI t)] (wL st pr aw wa ha la wr n k c5 c6 c7) (wL st pr aw wa ha la wr n k c5 c6 c7) := by
  refine aq_enter pl_m_answerFor (Nat.le_of_ble_eq_true rfl) ?_
  refine aq_go (n := 4) (c1 := (6, [some (.ref 0), some (.int (nI t))], [.int (nI (st (nI t).toNatClampNeg))], wL st pr aw wa ha la wr n k c5 c6 c7)) (P := vp_in (nI t) 60) ok_m_answerFor rfl (in60 ht) ?_
  rw [cl60 ht]
  refine aq_if_ne ok_m_answerFor rfl (fun h => ?_) (fun h => ?_)
  · have hb : ¬ st t = 0 := fun q => h (by rw [q]; rfl)
    refine aq_go (n := 5) (c1 := (18, [some (.ref 0), some (.int (nI t))], [.int (nI 1), .int (nI (st (nI t).toNatClampNeg))], wL st pr aw wa ha la wr n k c5 c6 c7)) (P := vp_in (nI t) 60) ok_m_answerFor rfl (in60 ht) ?_
    rw [cl60 ht]
    refine aq_icmp_ne ok_m_answerFor rfl (fun h2 => ?_) (fun h2 => ?_)
    · have hc := q_ne h2
      refine aq_gn (n := 1) (c1 := (26, [some (.ref 0), some (.int (nI t))], [.int (-1)], wL st pr aw wa ha la wr n k c5 c6 c7)) ok_m_answerFor rfl ?_
      exact aq_ei ok_m_answerFor rfl rfl (by rw [if_neg hb, if_neg hc]) rfl
    · have hc := q_eq h2 (by have := hst t; omega) (by omega)
      refine aq_gn (n := 2) (c1 := (26, [some (.ref 0), some (.int (nI t))], [.int (nI 0)], wL st pr aw wa ha la wr n k c5 c6 c7)) ok_m_answerFor rfl ?_
      exact aq_ei ok_m_answerFor rfl rfl (by rw [if_neg hb, if_pos hc]; rfl) rfl
  · have hb := q_eq (b := 0) h (by have := hst t; omega) (by omega)
    refine aq_gn (n := 1) (c1 := (10, [some (.ref 0), some (.int (nI t))], [.int (nI 1)], wL st pr aw wa ha la wr n k c5 c6 c7)) ok_m_answerFor rfl ?_
    exact aq_ei ok_m_answerFor rfl rfl (by rw [if_pos hb]; rfl) rfl
def fdI (x y : Int32) : Int32 := if 0 ≤ x ^^^ y then x / y else if x / y * y = x then x / y else x / y - 1
def avI (x : Int32) : Int32 := fdI (x - 1) 4
def abv (v : Option Nat) : Option Nat := match v with
  | none => none
  | some 0 => none
  | some (o + 1) => some (o / 4)
theorem avI_d : ∀ o, o < 85 → avI (nI o) = oI (abv (some o)) := by decide +kernel
theorem avI_o {v : Option Nat} (h : ∀ x, v = some x → x < 85) : avI (oI v) = oI (abv v) := by
  cases v with
  | none => decide +kernel
  | some o => exact avI_d o (h o rfl)
theorem abv_lt {v : Option Nat} (h : ∀ x, v = some x → x < 85) : ∀ x, abv v = some x → x < 85 := by
  intro x hx
  match v, hx, h with
  | none, hx, _ => cases hx
  | some 0, hx, _ => cases hx
  | some (o + 1), hx, h =>
    have := h (o + 1) rfl
    cases hx
    omega
def wrN (v : Option Nat) : Bool := wrI (oI v)
def lub (h : Option Nat) (m : Nat) : Nat := match h with
  | none => m
  | some a => if (a = 1 ∧ m = 2) ∨ (a = 2 ∧ m = 1) then 3 else if a < m then m else a
theorem lub_d : ∀ a, a < 5 → ∀ m, m < 5 → laI (nI a) (nI m) = nI (lub (some a) m) ∧ lub (some a) m < 5 := by decide +kernel
theorem lub_n : ∀ m, m < 5 → laI (-1) (nI m) = nI m := by decide +kernel
theorem lub_o {h : Option Nat} {m : Nat} (hh : ∀ x, h = some x → x < 5) (hm : m < 5) : laI (oI h) (nI m) = nI (lub h m) ∧ lub h m < 5 := by
  cases h with
  | none => exact ⟨lub_n m hm, hm⟩
  | some a => exact lub_d a (hh a rfl) m hm
set_option maxHeartbeats 4000000 in
theorem am_floorDiv {d : Nat} {w : List va_E} (x y : Int32) (hy : ¬ y = 0) : AM j_floorDiv d (.inl (some (.int (fdI x y)))) [.int x, .int y] w w := by
  refine aq_enter pl_j_floorDiv (Nat.le_of_ble_eq_true rfl) ?_
  refine aq_go (n := 7) (c1 := (7, [some (.int x), some (.int y), some (.int (x / y))], [.int (x ^^^ y)], w)) (P := ¬ y = 0) ok_j_floorDiv rfl hy ?_
  refine aq_if_ge ok_j_floorDiv rfl (fun h => ?_) (fun h => ?_)
  · refine aq_gn (n := 1) (c1 := (22, [some (.int x), some (.int y), some (.int (x / y))], [.int (x / y)], w)) ok_j_floorDiv rfl ?_
    exact aq_ei ok_j_floorDiv rfl rfl (by unfold fdI; rw [if_pos h]) rfl
  · refine aq_gn (n := 4) (c1 := (14, [some (.int x), some (.int y), some (.int (x / y))], [.int x, .int ((x / y) * y)], w)) ok_j_floorDiv rfl ?_
    refine aq_icmp_eq ok_j_floorDiv rfl (fun h2 => ?_) (fun h2 => ?_)
    · refine aq_gn (n := 1) (c1 := (22, [some (.int x), some (.int y), some (.int (x / y))], [.int (x / y)], w)) ok_j_floorDiv rfl ?_
      exact aq_ei ok_j_floorDiv rfl rfl (by unfold fdI; rw [if_neg h, if_pos h2]) rfl
    · refine aq_gn (n := 3) (c1 := (20, [some (.int x), some (.int y), some (.int (x / y))], [.int ((x / y) - 1)], w)) ok_j_floorDiv rfl ?_
      exact aq_ei ok_j_floorDiv rfl rfl (by unfold fdI; rw [if_neg h, if_neg h2]) rfl
set_option maxHeartbeats 4000000 in
theorem am_above {d : Nat} {w : List va_E} (x : Int32) : AM m_above (d + 1) (.inl (some (.int (avI x)))) [.int x] w w := by
  refine aq_enter pl_m_above (Nat.le_of_ble_eq_true rfl) ?_
  refine aq_gn (n := 4) (c1 := (4, [some (.int x)], [.int 4, .int (x - 1)], w)) ok_m_above rfl ?_
  refine aq_callS (as := [.int (x - 1), .int 4]) (st := []) ok_m_above rfl c0_j_floorDiv (am_floorDiv (x - 1) 4 (by decide)) rfl (Nat.le_of_ble_eq_true rfl) ?_
  exact aq_ei ok_m_above rfl rfl rfl rfl
def ma (ha : Nat → Int64) (t o m : Nat) : Bool := if o = 0 then true else if wrI (nI m) then wrI (oI (hm ha t ((o - 1) / 4))) else (hm ha t ((o - 1) / 4)).isSome
set_option maxHeartbeats 4000000 in
theorem am_mayAsk {d : Nat} {st pr : Nat → Nat} {aw wa : Nat → Option Nat} {ha : Nat → Int64} {la : Nat → Nat} {wr : Nat → Int64} {n k c5 c6 c7 : Nat} {t o m : Nat} (ht : t < 60) (ho : o < 85) : AM m_mayAsk (d + 2) (.inl (some (.int (bI (ma ha t o m))))) [.ref 0, .int (nI t), .int (nI o), .int (nI m)] (wL st pr aw wa ha la wr n k c5 c6 c7) (wL st pr aw wa ha la wr n k c5 c6 c7) := by
  refine aq_enter pl_m_mayAsk (Nat.le_of_ble_eq_true rfl) ?_
  refine aq_gn (n := 1) (c1 := (1, [some (.ref 0), some (.int (nI t)), some (.int (nI o)), some (.int (nI m)), none], [.int (nI o)], wL st pr aw wa ha la wr n k c5 c6 c7)) ok_m_mayAsk rfl ?_
  refine aq_if_ne ok_m_mayAsk rfl (fun h => ?_) (fun h => ?_)
  · have hz : ¬ o = 0 := fun q => h (by rw [q]; rfl)
    have e : avI (nI o) = nI ((o - 1) / 4) := by
      obtain ⟨j, rfl⟩ : ∃ j, o = j + 1 := ⟨o - 1, by omega⟩
      rw [avI_d _ ho]; rfl
    refine aq_gn (n := 3) (c1 := (9, [some (.ref 0), some (.int (nI t)), some (.int (nI o)), some (.int (nI m)), none], [.int (nI o), .int (nI t), .ref 0], wL st pr aw wa ha la wr n k c5 c6 c7)) ok_m_mayAsk rfl ?_
    refine aq_callS (as := [.int (nI o)]) (st := [.int (nI t), .ref 0]) ok_m_mayAsk rfl c0_m_above (am_above (nI o)) rfl (Nat.le_of_ble_eq_true rfl) ?_
    rw [e]
    refine aq_callV (as := [.int (nI t), .int (nI ((o - 1) / 4))]) (st := []) ok_m_mayAsk rfl c0_m_heldMode (am_heldMode ht (show (o - 1) / 4 < 85 by omega)) rfl (Nat.le_of_ble_eq_true rfl) rfl rfl rfl ?_
    refine aq_gn (n := 2) (c1 := (18, [some (.ref 0), some (.int (nI t)), some (.int (nI o)), some (.int (nI m)), some (.int (oI (hm ha t ((o - 1) / 4))))], [.int (nI m)], wL st pr aw wa ha la wr n k c5 c6 c7)) ok_m_mayAsk rfl ?_
    refine aq_callS (as := [.int (nI m)]) (st := []) ok_m_mayAsk rfl c0_m_isWriting (am_isWriting (nI m)) rfl (Nat.le_of_ble_eq_true rfl) ?_
    refine aq_if_eq ok_m_mayAsk rfl (fun h2 => ?_) (fun h2 => ?_)
    · have hw := (bI_0 _).mp h2
      refine aq_gn (n := 2) (c1 := (35, [some (.ref 0), some (.int (nI t)), some (.int (nI o)), some (.int (nI m)), some (.int (oI (hm ha t ((o - 1) / 4))))], [.int (-1), .int (oI (hm ha t ((o - 1) / 4)))], wL st pr aw wa ha la wr n k c5 c6 c7)) ok_m_mayAsk rfl ?_
      refine aq_icmp_eq ok_m_mayAsk rfl (fun h3 => ?_) (fun h3 => ?_)
      · have hx := oI_m1 h3 (fun x q => by have := hm_lt q; omega)
        refine aq_gn (n := 1) (c1 := (43, [some (.ref 0), some (.int (nI t)), some (.int (nI o)), some (.int (nI m)), some (.int (oI (hm ha t ((o - 1) / 4))))], [.int (nI 0)], wL st pr aw wa ha la wr n k c5 c6 c7)) ok_m_mayAsk rfl ?_
        exact aq_ez ok_m_mayAsk rfl rfl (by rw [ma, if_neg hz, hw, hx]; rfl) rfl
      · obtain ⟨y, hx⟩ := oI_nm1 h3
        refine aq_gn (n := 2) (c1 := (43, [some (.ref 0), some (.int (nI t)), some (.int (nI o)), some (.int (nI m)), some (.int (oI (hm ha t ((o - 1) / 4))))], [.int (nI 1)], wL st pr aw wa ha la wr n k c5 c6 c7)) ok_m_mayAsk rfl ?_
        exact aq_ez ok_m_mayAsk rfl rfl (by rw [ma, if_neg hz, hw, hx]; rfl) rfl
    · have hw : wrI (nI m) = true := by cases hy : wrI (nI m) with | true => rfl | false => exact absurd ((bI_0 _).mpr hy) h2
      refine aq_gn (n := 1) (c1 := (26, [some (.ref 0), some (.int (nI t)), some (.int (nI o)), some (.int (nI m)), some (.int (oI (hm ha t ((o - 1) / 4))))], [.int (oI (hm ha t ((o - 1) / 4)))], wL st pr aw wa ha la wr n k c5 c6 c7)) ok_m_mayAsk rfl ?_
      refine aq_callS (as := [.int (oI (hm ha t ((o - 1) / 4)))]) (st := []) ok_m_mayAsk rfl c0_m_isWriting (am_isWriting (oI (hm ha t ((o - 1) / 4)))) rfl (Nat.le_of_ble_eq_true rfl) ?_
      refine aq_gn (n := 1) (c1 := (43, [some (.ref 0), some (.int (nI t)), some (.int (nI o)), some (.int (nI m)), some (.int (oI (hm ha t ((o - 1) / 4))))], [.int (bI (wrI (oI (hm ha t ((o - 1) / 4)))))], wL st pr aw wa ha la wr n k c5 c6 c7)) ok_m_mayAsk rfl ?_
      exact aq_ez ok_m_mayAsk rfl rfl (by rw [ma, if_neg hz, hw]; rfl) rfl
  · have hz := q_eq (b := 0) h (by omega) (by omega)
    refine aq_gn (n := 1) (c1 := (5, [some (.ref 0), some (.int (nI t)), some (.int (nI o)), some (.int (nI m)), none], [.int (nI 1)], wL st pr aw wa ha la wr n k c5 c6 c7)) ok_m_mayAsk rfl ?_
    exact aq_ez ok_m_mayAsk rfl rfl (by rw [ma, if_pos hz]; rfl) rfl
