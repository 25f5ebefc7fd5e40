/-! THE CLASS: checks, begin, the line, grants -/
set_option maxHeartbeats 4000000 in
theorem am_chkT {d : Nat} {st pr : Nat → Nat} {aw wa : Nat → Option Nat} {ha : Nat → Int64} {la : Nat → Nat} {wr : Nat → Int64} {n k c5 c6 c7 : Nat} {t : Nat} (ht : t < n) (hn : n ≤ 60) : AM m_checkTransaction (d) (.inl none) [.ref 0, .int (nI t)] (wL st pr aw wa ha la wr n k c5 c6 c7) (wL st pr aw wa ha la wr n k c5 c6 c7) := by
  refine aq_enter pl_m_checkTransaction (Nat.le_of_ble_eq_true rfl) ?_
  refine aq_gn (n := 1) (c1 := (1, [some (.ref 0), some (.int (nI t))], [.int (nI t)], wL st pr aw wa ha la wr n k c5 c6 c7)) ok_m_checkTransaction rfl ?_
  refine aq_if_lt ok_m_checkTransaction rfl (fun h => ?_) (fun h => ?_)
  · exact absurd h (nI_pos (by omega))
  · refine aq_gn (n := 3) (c1 := (9, [some (.ref 0), some (.int (nI t))], [.int (nI n), .int (nI t)], wL st pr aw wa ha la wr n k c5 c6 c7)) ok_m_checkTransaction rfl ?_
    refine aq_icmp_lt ok_m_checkTransaction rfl (fun h2 => ?_) (fun h2 => ?_)
    · exact aq_ev ok_m_checkTransaction rfl rfl rfl
    · exact absurd (nI_lt ht (by omega)) h2
set_option maxHeartbeats 4000000 in
theorem am_chkT_x {d : Nat} {st pr : Nat → Nat} {aw wa : Nat → Option Nat} {ha : Nat → Int64} {la : Nat → Nat} {wr : Nat → Int64} {n k c5 c6 c7 : Nat} {x : Int32} (hx : x < 0 ∨ nI n ≤ x) : AM m_checkTransaction (d) (.inr 0) [.ref 0, .int x] (wL st pr aw wa ha la wr n k c5 c6 c7) (wL st pr aw wa ha la wr n k c5 c6 c7) := by
  refine aq_enter pl_m_checkTransaction (Nat.le_of_ble_eq_true rfl) ?_
  refine aq_gn (n := 1) (c1 := (1, [some (.ref 0), some (.int x)], [.int x], wL st pr aw wa ha la wr n k c5 c6 c7)) ok_m_checkTransaction rfl ?_
  refine aq_if_lt ok_m_checkTransaction rfl (fun h => ?_) (fun h => ?_)
  · exact aq_throw (text := "there is no such transaction") ok_m_checkTransaction rfl tw0 (aq_fit _) aq_upf (by decide +kernel) rfl rfl rfl rfl rfl (Nat.le_of_ble_eq_true rfl)
  · refine aq_gn (n := 3) (c1 := (9, [some (.ref 0), some (.int x)], [.int (nI n), .int x], wL st pr aw wa ha la wr n k c5 c6 c7)) ok_m_checkTransaction rfl ?_
    refine aq_icmp_lt ok_m_checkTransaction rfl (fun h2 => ?_) (fun h2 => ?_)
    · rcases hx with q | q
      · exact absurd q h
      · exact absurd h2 (Int32.not_lt.mpr q)
    · exact aq_throw (text := "there is no such transaction") ok_m_checkTransaction rfl tw0 (aq_fit _) aq_upf (by decide +kernel) rfl rfl rfl rfl rfl (Nat.le_of_ble_eq_true rfl)
set_option maxHeartbeats 4000000 in
theorem am_chkO {d : Nat} {w : List va_E} {o : Nat} (ho : o < 85) : AM m_checkObject (d) (.inl none) [.int (nI o)] (w) (w) := by
  refine aq_enter pl_m_checkObject (Nat.le_of_ble_eq_true rfl) ?_
  refine aq_gn (n := 1) (c1 := (1, [some (.int (nI o))], [.int (nI o)], w)) ok_m_checkObject rfl ?_
  refine aq_if_lt ok_m_checkObject rfl (fun h => ?_) (fun h => ?_)
  · exact absurd h (nI_pos (by omega))
  · refine aq_gn (n := 2) (c1 := (7, [some (.int (nI o))], [.int (nI 85), .int (nI o)], w)) ok_m_checkObject rfl ?_
    refine aq_icmp_lt ok_m_checkObject rfl (fun h2 => ?_) (fun h2 => ?_)
    · exact aq_ev ok_m_checkObject rfl rfl rfl
    · exact absurd (nI_lt ho (by omega)) h2
set_option maxHeartbeats 4000000 in
theorem am_chkO_x {d : Nat} {w : List va_E} {x : Int32} (hx : x < 0 ∨ nI 85 ≤ x) : AM m_checkObject (d) (.inr 0) [.int x] (w) (w) := by
  refine aq_enter pl_m_checkObject (Nat.le_of_ble_eq_true rfl) ?_
  refine aq_gn (n := 1) (c1 := (1, [some (.int x)], [.int x], w)) ok_m_checkObject rfl ?_
  refine aq_if_lt ok_m_checkObject rfl (fun h => ?_) (fun h => ?_)
  · exact aq_throw (text := "there is no such object") ok_m_checkObject rfl tw0 (aq_fit _) aq_upf (by decide +kernel) rfl rfl rfl rfl rfl (Nat.le_of_ble_eq_true rfl)
  · refine aq_gn (n := 2) (c1 := (7, [some (.int x)], [.int (nI 85), .int x], w)) ok_m_checkObject rfl ?_
    refine aq_icmp_lt ok_m_checkObject rfl (fun h2 => ?_) (fun h2 => ?_)
    · rcases hx with q | q
      · exact absurd q h
      · exact absurd h2 (Int32.not_lt.mpr q)
    · exact aq_throw (text := "there is no such object") ok_m_checkObject rfl tw0 (aq_fit _) aq_upf (by decide +kernel) rfl rfl rfl rfl rfl (Nat.le_of_ble_eq_true rfl)
set_option maxHeartbeats 4000000 in
theorem am_chkA {d : Nat} {st pr : Nat → Nat} {aw wa : Nat → Option Nat} {ha : Nat → Int64} {la : Nat → Nat} {wr : Nat → Int64} {n k c5 c6 c7 : Nat} {t : Nat} (ht : t < 60) (hs : st t = 0) : AM m_checkActive (d) (.inl none) [.ref 0, .int (nI t)] (wL st pr aw wa ha la wr n k c5 c6 c7) (wL st pr aw wa ha la wr n k c5 c6 c7) := by
  refine aq_enter pl_m_checkActive (Nat.le_of_ble_eq_true rfl) ?_
  refine aq_go (n := 4) (c1 := (6, [some (.ref 0), some (.int (nI t))], [.int (nI (st (nI t).toNatClampNeg))], wL st pr aw wa ha la wr n k c5 c6 c7)) (P := vp_in (nI t) 60) ok_m_checkActive rfl (in60 ht) ?_
  rw [cl60 ht]
  refine aq_if_eq ok_m_checkActive rfl (fun h => ?_) (fun h => ?_)
  · exact aq_ev ok_m_checkActive rfl rfl rfl
  · exact absurd (by rw [hs]; rfl) h
set_option maxHeartbeats 4000000 in
theorem am_chkA_x {d : Nat} {st pr : Nat → Nat} {aw wa : Nat → Option Nat} {ha : Nat → Int64} {la : Nat → Nat} {wr : Nat → Int64} {n k c5 c6 c7 : Nat} {t : Nat} (ht : t < 60) (hst : ∀ t, st t < 4) (hs : ¬ st t = 0) : AM m_checkActive (d) (.inr 2) [.ref 0, .int (nI t)] (wL st pr aw wa ha la wr n k c5 c6 c7) (wL st pr aw wa ha la wr n k c5 c6 c7) := by
  refine aq_enter pl_m_checkActive (Nat.le_of_ble_eq_true rfl) ?_
  refine aq_go (n := 4) (c1 := (6, [some (.ref 0), some (.int (nI t))], [.int (nI (st (nI t).toNatClampNeg))], wL st pr aw wa ha la wr n k c5 c6 c7)) (P := vp_in (nI t) 60) ok_m_checkActive rfl (in60 ht) ?_
  rw [cl60 ht]
  refine aq_if_eq ok_m_checkActive rfl (fun h => ?_) (fun h => ?_)
  · exact absurd (q_eq (b := 0) h (by have := hst t; omega) (by omega)) hs
  · exact aq_throw (text := "the transaction is not active") ok_m_checkActive rfl tw2 (aq_fit _) aq_upf (by decide +kernel) rfl rfl rfl rfl rfl (Nat.le_of_ble_eq_true rfl)
set_option maxHeartbeats 4000000 in
theorem am_begin {d : Nat} {st pr : Nat → Nat} {aw wa : Nat → Option Nat} {ha : Nat → Int64} {la : Nat → Nat} {wr : Nat → Int64} {n k c5 c6 c7 : Nat} {x : Nat} (hx : x ≤ 99) (hn : n < 60) : AM m_begin (d) (.inl (some (.int (nI n)))) [.ref 0, .int (nI x)] (wL st pr aw wa ha la wr n k c5 c6 c7) (wL (va_up st n 0) (va_up pr n x) (va_up aw n none) (va_up wa n none) ha la wr (n + 1) k c5 c6 c7) := by
  refine aq_enter pl_m_begin (Nat.le_of_ble_eq_true rfl) ?_
  refine aq_gn (n := 1) (c1 := (1, [some (.ref 0), some (.int (nI x)), none], [.int (nI x)], wL st pr aw wa ha la wr n k c5 c6 c7)) ok_m_begin rfl ?_
  refine aq_if_lt ok_m_begin rfl (fun h => ?_) (fun h => ?_)
  · exact absurd h (nI_pos (by omega))
  · refine aq_gn (n := 2) (c1 := (7, [some (.ref 0), some (.int (nI x)), none], [.int (nI 99), .int (nI x)], wL st pr aw wa ha la wr n k c5 c6 c7)) ok_m_begin rfl ?_
    refine aq_icmp_le ok_m_begin rfl (fun h2 => ?_) (fun h2 => ?_)
    · refine aq_gn (n := 3) (c1 := (26, [some (.ref 0), some (.int (nI x)), none], [.int (nI 60), .int (nI n)], wL st pr aw wa ha la wr n k c5 c6 c7)) ok_m_begin rfl ?_
      refine aq_icmp_lt ok_m_begin rfl (fun h3 => ?_) (fun h3 => ?_)
      · refine aq_go (n := 30) (c1 := (83, [some (.ref 0), some (.int (nI x)), some (.int (nI n))], [.int (nI n)], wR (upd (fun i => nI (st i)) (nI n).toNatClampNeg (nI 0)) (upd (fun i => nI (pr i)) (nI n).toNatClampNeg (nI x)) (upd (fun i => oI (aw i)) (nI n).toNatClampNeg (-1)) (upd (fun i => oI (wa i)) (nI n).toNatClampNeg (-1)) ha (fun i => nI (la i)) wr ((nI n) + (nI 1)) (nI k) (nI c5) (nI c6) (nI c7))) (P := vp_in (nI n) 60 ∧ vp_in (nI n) 60 ∧ vp_in (nI n) 60 ∧ vp_in (nI n) 60 ∧ aq_fi 0 4 = true) ok_m_begin rfl ⟨(in60 hn), (in60 hn), (in60 hn), (in60 hn), fi0_4⟩ ?_
        rw [cl60 hn, upd_n, upd_n, upd_m, upd_m, nI_add]
        exact aq_ei ok_m_begin rfl rfl rfl rfl
      · exact absurd (nI_lt hn (by omega)) h3
    · exact absurd (nI_le (show x ≤ 99 by omega) (by omega)) h2
set_option maxHeartbeats 4000000 in
theorem am_begin_x {d : Nat} {st pr : Nat → Nat} {aw wa : Nat → Option Nat} {ha : Nat → Int64} {la : Nat → Nat} {wr : Nat → Int64} {n k c5 c6 c7 : Nat} {x : Int32} (hx : x < 0 ∨ nI 99 < x) : AM m_begin (d) (.inr 1) [.ref 0, .int x] (wL st pr aw wa ha la wr n k c5 c6 c7) (wL st pr aw wa ha la wr n k c5 c6 c7) := by
  refine aq_enter pl_m_begin (Nat.le_of_ble_eq_true rfl) ?_
  refine aq_gn (n := 1) (c1 := (1, [some (.ref 0), some (.int x), none], [.int x], wL st pr aw wa ha la wr n k c5 c6 c7)) ok_m_begin rfl ?_
  refine aq_if_lt ok_m_begin rfl (fun h => ?_) (fun h => ?_)
  · exact aq_throw (text := "the priority is not 0 .. 99") ok_m_begin rfl tw1 (aq_fit _) aq_upf (by decide +kernel) rfl rfl rfl rfl rfl (Nat.le_of_ble_eq_true rfl)
  · refine aq_gn (n := 2) (c1 := (7, [some (.ref 0), some (.int x), none], [.int (nI 99), .int x], wL st pr aw wa ha la wr n k c5 c6 c7)) ok_m_begin rfl ?_
    refine aq_icmp_le ok_m_begin rfl (fun h2 => ?_) (fun h2 => ?_)
    · rcases hx with q | q
      · exact absurd q h
      · exact absurd q (Int32.not_lt.mpr h2)
    · exact aq_throw (text := "the priority is not 0 .. 99") ok_m_begin rfl tw1 (aq_fit _) aq_upf (by decide +kernel) rfl rfl rfl rfl rfl (Nat.le_of_ble_eq_true rfl)
set_option maxHeartbeats 4000000 in
theorem am_begin_f {d : Nat} {st pr : Nat → Nat} {aw wa : Nat → Option Nat} {ha : Nat → Int64} {la : Nat → Nat} {wr : Nat → Int64} {n k c5 c6 c7 : Nat} {x : Nat} (hx : x ≤ 99) (hn : n = 60) : AM m_begin (d) (.inr 2) [.ref 0, .int (nI x)] (wL st pr aw wa ha la wr n k c5 c6 c7) (wL st pr aw wa ha la wr n k c5 c6 c7) := by
  refine aq_enter pl_m_begin (Nat.le_of_ble_eq_true rfl) ?_
  refine aq_gn (n := 1) (c1 := (1, [some (.ref 0), some (.int (nI x)), none], [.int (nI x)], wL st pr aw wa ha la wr n k c5 c6 c7)) ok_m_begin rfl ?_
  refine aq_if_lt ok_m_begin rfl (fun h => ?_) (fun h => ?_)
  · exact absurd h (nI_pos (by omega))
  · refine aq_gn (n := 2) (c1 := (7, [some (.ref 0), some (.int (nI x)), none], [.int (nI 99), .int (nI x)], wL st pr aw wa ha la wr n k c5 c6 c7)) ok_m_begin rfl ?_
    refine aq_icmp_le ok_m_begin rfl (fun h2 => ?_) (fun h2 => ?_)
    · refine aq_gn (n := 3) (c1 := (26, [some (.ref 0), some (.int (nI x)), none], [.int (nI 60), .int (nI n)], wL st pr aw wa ha la wr n k c5 c6 c7)) ok_m_begin rfl ?_
      refine aq_icmp_lt ok_m_begin rfl (fun h3 => ?_) (fun h3 => ?_)
      · exact absurd (q_lt h3 (by omega) (by omega)) (by omega)
      · exact aq_throw (text := "there are 60 transactions") ok_m_begin rfl tw2 (aq_fit _) aq_upf (by decide +kernel) rfl rfl rfl rfl rfl (Nat.le_of_ble_eq_true rfl)
    · exact absurd (nI_le (show x ≤ 99 by omega) (by omega)) h2
theorem pnF_le {aw : Nat → Option Nat} {ha : Nat → Int64} {la : Nat → Nat} {o : Nat} : ∀ f i : Nat, i ≤ pnF aw ha la o f i ∧ pnF aw ha la o f i ≤ i + f := by
  intro f
  induction f with
  | zero => intro i; simp [pnF]
  | succ f ih =>
    intro i
    unfold pnF
    split
    · omega
    · have := ih (i + 1); omega
/-- where a request comes to stand -/
def plc (aw : Nat → Option Nat) (ha : Nat → Int64) (la : Nat → Nat) (k t o : Nat) : Nat := if hm ha t o = none then k else pnF aw ha la o k 0
theorem plc_le {aw : Nat → Option Nat} {ha : Nat → Int64} {la : Nat → Nat} {k t o : Nat} : plc aw ha la k t o ≤ k := by
  unfold plc
  split
  · omega
  · have := pnF_le (aw := aw) (ha := ha) (la := la) (o := o) k 0; omega
set_option maxHeartbeats 4000000 in
theorem lp_join {d : Nat} {st pr : Nat → Nat} {aw wa : Nat → Option Nat} {ha : Nat → Int64} {wr : Nat → Int64} {n k c5 c6 c7 : Nat} {t o m q : Nat} (ht : t < 60) (hk : k < 60) : ∀ (f i : Nat), i = q + f → i ≤ k → ∀ l : Nat → Nat, AW m_joinQueue d (.inl none) (wL st pr (va_up aw t (some o)) (va_up wa t (some m)) ha (va_up (shF f i l) q t) wr n (k + 1) c5 c6 c7) (30, [some (.ref 0), some (.int (nI t)), some (.int (nI o)), some (.int (nI m)), some (.int (nI q)), some (.int (nI i))], [], wL st pr aw wa ha l wr n k c5 c6 c7) := by
  intro f
  induction f with
  | zero =>
    intro i hif hik l
    refine aq_gn (n := 2) (c1 := (34, [some (.ref 0), some (.int (nI t)), some (.int (nI o)), some (.int (nI m)), some (.int (nI q)), some (.int (nI i))], [.int (nI q), .int (nI i)], wL st pr aw wa ha l wr n k c5 c6 c7)) ok_m_joinQueue rfl ?_
    refine aq_icmp_le ok_m_joinQueue rfl (fun h => ?_) (fun h => ?_)
    · refine aq_go (n := 21) (c1 := (91, [some (.ref 0), some (.int (nI t)), some (.int (nI o)), some (.int (nI m)), some (.int (nI q)), some (.int (nI i))], [], wR (fun i => nI (st i)) (fun i => nI (pr i)) (upd (fun i => oI (aw i)) (nI t).toNatClampNeg (nI o)) (upd (fun i => oI (wa i)) (nI t).toNatClampNeg (nI m)) ha (upd (fun i => nI (l i)) (nI q).toNatClampNeg (nI t)) wr (nI n) ((nI k) + (nI 1)) (nI c5) (nI c6) (nI c7))) (P := vp_in (nI q) 60 ∧ aq_fi 0 7 = true ∧ vp_in (nI t) 60 ∧ vp_in (nI t) 60) ok_m_joinQueue rfl ⟨(in60 (by omega)), fi0_7, (in60 ht), (in60 ht)⟩ ?_
      rw [cl60 (show q < 60 by omega), cl60 ht, upd_n, nI_add, upd_o, upd_o]
      exact aq_ev ok_m_joinQueue rfl rfl rfl
    · exact absurd (nI_le (show i ≤ q by omega) (by omega)) h
  | succ f ih =>
    intro i hif hik l
    obtain ⟨j, rfl⟩ : ∃ j, i = j + 1 := ⟨i - 1, by omega⟩
    refine aq_gn (n := 2) (c1 := (34, [some (.ref 0), some (.int (nI t)), some (.int (nI o)), some (.int (nI m)), some (.int (nI q)), some (.int (nI (j + 1)))], [.int (nI q), .int (nI (j + 1))], wL st pr aw wa ha l wr n k c5 c6 c7)) ok_m_joinQueue rfl ?_
    refine aq_icmp_le ok_m_joinQueue rfl (fun h => ?_) (fun h => ?_)
    · exact absurd (q_le h (by omega) (by omega)) (by omega)
    · refine aq_go (n := 12) (c1 := (30, [some (.ref 0), some (.int (nI t)), some (.int (nI o)), some (.int (nI m)), some (.int (nI q)), some (.int ((nI (j + 1)) + (-1)))], [], wR (fun i => nI (st i)) (fun i => nI (pr i)) (fun i => oI (aw i)) (fun i => oI (wa i)) ha (upd (fun i => nI (l i)) (nI (j + 1)).toNatClampNeg (nI (l ((nI (j + 1)) - (nI 1)).toNatClampNeg))) wr (nI n) (nI k) (nI c5) (nI c6) (nI c7))) (P := vp_in ((nI (j + 1)) - (nI 1)) 60 ∧ vp_in (nI (j + 1)) 60) ok_m_joinQueue rfl ⟨(by rw [show nI (j + 1) - nI 1 = nI j from nI_pred j]; exact in60 (by omega)), (in60 (by omega))⟩ ?_
      rw [show nI (j + 1) - nI 1 = nI j from nI_pred j, pk_m1, cl60 (show j < 60 by omega), cl60 (show j + 1 < 60 by omega), upd_n]
      exact ih j (by omega) (by omega) (va_up l (j + 1) (l j))
set_option maxHeartbeats 4000000 in
theorem am_join {d : Nat} {st pr : Nat → Nat} {aw wa : Nat → Option Nat} {ha : Nat → Int64} {la : Nat → Nat} {wr : Nat → Int64} {n k c5 c6 c7 : Nat} {t o m : Nat} (ht : t < 60) (ho : o < 85) (hk : k < 60) (hla : ∀ i, la i < 60) (haw : ∀ t x, aw t = some x → x < 85) : AM m_joinQueue (d + 3) (.inl none) [.ref 0, .int (nI t), .int (nI o), .int (nI m)] (wL st pr aw wa ha la wr n k c5 c6 c7) (wL st pr (va_up aw t (some o)) (va_up wa t (some m)) ha (va_up (shF (k - plc aw ha la k t o) k la) (plc aw ha la k t o) t) wr n (k + 1) c5 c6 c7) := by
  refine aq_enter pl_m_joinQueue (Nat.le_of_ble_eq_true rfl) ?_
  refine aq_gn (n := 3) (c1 := (3, [some (.ref 0), some (.int (nI t)), some (.int (nI o)), some (.int (nI m)), none, none], [.int (nI o), .int (nI t), .ref 0], wL st pr aw wa ha la wr n k c5 c6 c7)) ok_m_joinQueue rfl ?_
  refine aq_callV (as := [.int (nI t), .int (nI o)]) (st := []) ok_m_joinQueue rfl c0_m_heldMode (am_heldMode ht ho) rfl (Nat.le_of_ble_eq_true rfl) rfl rfl rfl ?_
  refine aq_gn (n := 1) (c1 := (7, [some (.ref 0), some (.int (nI t)), some (.int (nI o)), some (.int (nI m)), none, none], [.int (-1), .int (oI (hm ha t o))], wL st pr aw wa ha la wr n k c5 c6 c7)) ok_m_joinQueue rfl ?_
  refine aq_icmp_ne ok_m_joinQueue rfl (fun h => ?_) (fun h => ?_)
  · obtain ⟨y, hy⟩ := oI_nm1 h
    have e : plc aw ha la k t o = pnF aw ha la o k 0 := by simp [plc, hy]
    have hq := plc_le (aw := aw) (ha := ha) (la := la) (k := k) (t := t) (o := o)
    rw [e] at hq ⊢
    refine aq_gn (n := 2) (c1 := (19, [some (.ref 0), some (.int (nI t)), some (.int (nI o)), some (.int (nI m)), none, none], [.int (nI o), .ref 0], wL st pr aw wa ha la wr n k c5 c6 c7)) ok_m_joinQueue rfl ?_
    refine aq_callV (as := [.int (nI o)]) (st := []) ok_m_joinQueue rfl c0_m_placeOfNewcomers (am_place ho (by omega) hla haw) rfl (Nat.le_of_ble_eq_true rfl) rfl rfl rfl ?_
    refine aq_gn (n := 4) (c1 := (30, [some (.ref 0), some (.int (nI t)), some (.int (nI o)), some (.int (nI m)), some (.int (nI (pnF aw ha la o k 0))), some (.int (nI k))], [], wL st pr aw wa ha la wr n k c5 c6 c7)) ok_m_joinQueue rfl ?_
    exact lp_join ht hk (k - pnF aw ha la o k 0) k (by omega) (Nat.le_refl k) la
  · have hy := oI_m1 h (fun x q => by have := hm_lt q; omega)
    have e : plc aw ha la k t o = k := by simp [plc, hy]
    rw [e]
    refine aq_gn (n := 7) (c1 := (30, [some (.ref 0), some (.int (nI t)), some (.int (nI o)), some (.int (nI m)), some (.int (nI k)), some (.int (nI k))], [], wL st pr aw wa ha la wr n k c5 c6 c7)) ok_m_joinQueue rfl ?_
    exact lp_join ht hk (k - k) k (by omega) (Nat.le_refl k) la
set_option maxHeartbeats 4000000 in
theorem am_grant {d : Nat} {st pr : Nat → Nat} {aw wa : Nat → Option Nat} {ha : Nat → Int64} {la : Nat → Nat} {wr : Nat → Int64} {n k c5 c6 c7 : Nat} {t o m : Nat} (ht : t < 60) (hx : aw t = some o) (hy : wa t = some m) (ho : o < 85) (hm : m < 5) (hst : ∀ t, st t < 4) (hk : k ≤ 60) (hla : ∀ i, la i < 60) : AM m_grant (d + 2) (.inl none) [.ref 0, .int (nI t)] (wL st pr aw wa ha la wr n k c5 c6 c7) (wL (va_up st t 0) pr (va_up aw t none) (va_up wa t none) (hd ha t o m) ((lqF t k 0 0 la).1) wr n ((lqF t k 0 0 la).2) c5 (if st t = 1 then c6 else c6 + 1) (if st t = 1 then c7 + 1 else c7)) := by
  refine aq_enter pl_m_grant (Nat.le_of_ble_eq_true rfl) ?_
  refine aq_go (n := 10) (c1 := (14, [some (.ref 0), some (.int (nI t))], [.int (oI (wa (nI t).toNatClampNeg)), .int (oI (aw (nI t).toNatClampNeg)), .int (nI t), .ref 0], wL st pr aw wa ha la wr n k c5 c6 c7)) (P := vp_in (nI t) 60 ∧ vp_in (nI t) 60) ok_m_grant rfl ⟨(in60 ht), (in60 ht)⟩ ?_
  rw [cl60 ht, hx, hy]
  show AW m_grant _ _ _ (14, [some (.ref 0), some (.int (nI t))], [.int (nI m), .int (nI o), .int (nI t), .ref 0], wL st pr aw wa ha la wr n k c5 c6 c7)
  refine aq_callV (as := [.int (nI t), .int (nI o), .int (nI m)]) (st := []) ok_m_grant rfl c0_m_hold (am_hold ho hm) rfl (Nat.le_of_ble_eq_true rfl) rfl rfl rfl ?_
  refine aq_gn (n := 2) (c1 := (19, [some (.ref 0), some (.int (nI t))], [.int (nI t), .ref 0], wL st pr aw wa (hd ha t o m) la wr n k c5 c6 c7)) ok_m_grant rfl ?_
  refine aq_callV (as := [.int (nI t)]) (st := []) ok_m_grant rfl c0_m_leaveQueue (am_leaveQueue ht hk hla) rfl (Nat.le_of_ble_eq_true rfl) rfl rfl rfl ?_
  refine aq_go (n := 5) (c1 := (29, [some (.ref 0), some (.int (nI t))], [.int (nI 1), .int (nI (st (nI t).toNatClampNeg))], wL st pr (va_up aw t none) (va_up wa t none) (hd ha t o m) ((lqF t k 0 0 la).1) wr n ((lqF t k 0 0 la).2) c5 c6 c7)) (P := vp_in (nI t) 60) ok_m_grant rfl (in60 ht) ?_
  rw [cl60 ht]
  refine aq_icmp_ne ok_m_grant rfl (fun h => ?_) (fun h => ?_)
  · have hz := q_ne h
    rw [if_neg hz, if_neg hz]
    refine aq_go (n := 11) (c1 := (62, [some (.ref 0), some (.int (nI t))], [], wR (upd (fun i => nI (st i)) (nI t).toNatClampNeg (nI 0)) (fun i => nI (pr i)) (fun i => oI ((va_up aw t none) i)) (fun i => oI ((va_up wa t none) i)) (hd ha t o m) (fun i => nI (((lqF t k 0 0 la).1) i)) wr (nI n) (nI ((lqF t k 0 0 la).2)) (nI c5) ((nI c6) + (nI 1)) (nI c7))) (P := aq_fi 0 10 = true ∧ vp_in (nI t) 60) ok_m_grant rfl ⟨fi0_10, (in60 ht)⟩ ?_
    rw [cl60 ht, upd_n, nI_add]
    exact aq_ev ok_m_grant rfl rfl rfl
  · have hz := q_eq h (by have := hst t; omega) (by omega)
    rw [if_pos hz, if_pos hz]
    refine aq_go (n := 12) (c1 := (62, [some (.ref 0), some (.int (nI t))], [], wR (upd (fun i => nI (st i)) (nI t).toNatClampNeg (nI 0)) (fun i => nI (pr i)) (fun i => oI ((va_up aw t none) i)) (fun i => oI ((va_up wa t none) i)) (hd ha t o m) (fun i => nI (((lqF t k 0 0 la).1) i)) wr (nI n) (nI ((lqF t k 0 0 la).2)) (nI c5) (nI c6) ((nI c7) + (nI 1)))) (P := aq_fi 0 11 = true ∧ vp_in (nI t) 60) ok_m_grant rfl ⟨fi0_11, (in60 ht)⟩ ?_
    rw [cl60 ht, upd_n, nI_add]
    exact aq_ev ok_m_grant rfl rfl rfl
