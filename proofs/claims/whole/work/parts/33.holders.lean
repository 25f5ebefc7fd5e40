/-! THE CLASS: holders -/
/-- t's bit is taken out of all five modes of o -/
def clF (t o : Nat) : Nat → Nat → (Nat → Int64) → (Nat → Int64)
  | 0, _, h => h
  | f + 1, i, h => clF t o f (i + 1) (vp_updL h (o * 5 + i) (h (o * 5 + i) &&& (lbit t ^^^ (-1))))
def hd (ha : Nat → Int64) (t o m : Nat) : Nat → Int64 := vp_updL (clF t o 5 0 ha) (o * 5 + m) (clF t o 5 0 ha (o * 5 + m) ||| lbit t)
def lg (ha : Nat → Int64) (t o : Nat) : Nat → Int64 := match hm ha t o with
  | none => ha
  | some m => vp_updL ha (o * 5 + m) (ha (o * 5 + m) &&& (lbit t ^^^ (-1)))
/-- how many of i, i + 1 .. (f of them) are so, beside a -/
def cnt (q : Nat → Bool) : Nat → Nat → Nat → Nat
  | 0, _, a => a
  | f + 1, i, a => cnt q f (i + 1) (if q i then a + 1 else a)
def aoF (ha : Nat → Int64) (o : Nat) : Nat → Nat → Int64 → Int64
  | 0, _, a => a
  | f + 1, m, a => aoF ha o f (m + 1) (a ||| ha (o * 5 + m))
def ao (ha : Nat → Int64) (o : Nat) : Int64 := aoF ha o 5 0 0
def owF (ha : Nat → Int64) (o : Nat) (x : Int32) : Nat → Nat → Int64 → Int64
  | 0, _, a => a
  | f + 1, h, a => owF ha o x f (h + 1) (if gTI (nI h) x then a else a ||| ha (o * 5 + h))
def ow (ha : Nat → Int64) (t o : Nat) (x : Int32) : Int64 := owF ha o x 5 0 0 &&& (lbit t ^^^ (-1))
def ahF (all : Int64) (x : Int32) : Nat → Nat → Nat → Option Nat
  | 0, _, _ => none
  | f + 1, t, q => if lb all t then (if nI q = x then some t else ahF all x f (t + 1) (q + 1)) else ahF all x f (t + 1) q
set_option maxHeartbeats 4000000 in
theorem lp_hold {d : Nat} {st pr : Nat → Nat} {aw wa : Nat → Option Nat} {la : Nat → Nat} {wr : Nat → Int64} {n k c5 c6 c7 : Nat} {t o m : Nat} (ho : o < 85) (hm : m < 5) : ∀ (f i : Nat), i + f = 5 → ∀ (hh : Nat → Int64), AW m_hold (d + 1) (.inl none) (wL st pr aw wa (vp_updL (clF t o f i hh) (o * 5 + m) (clF t o f i hh (o * 5 + m) ||| lbit t)) la wr n k c5 c6 c7) (3, [some (.ref 0), some (.int (nI t)), some (.int (nI o)), some (.int (nI m)), some (.int (nI i))], [], wL st pr aw wa hh la wr n k c5 c6 c7) := by
  intro f
  induction f with
  | zero =>
    intro i hif hh
    refine aq_gn (n := 2) (c1 := (6, [some (.ref 0), some (.int (nI t)), some (.int (nI o)), some (.int (nI m)), some (.int (nI i))], [.int (nI 5), .int (nI i)], wL st pr aw wa hh la wr n k c5 c6 c7)) ok_m_hold rfl ?_
    refine aq_icmp_ge ok_m_hold rfl (fun h => ?_) (fun h => ?_)
    · refine aq_go (n := 10) (c1 := (49, [some (.ref 0), some (.int (nI t)), some (.int (nI o)), some (.int (nI m)), some (.int (nI i))], [.int (nI t), .long (hh (((nI o) * (nI 5)) + (nI m)).toNatClampNeg), .int (((nI o) * (nI 5)) + (nI m)), .ref 5], wL st pr aw wa hh la wr n k c5 c6 c7)) (P := vp_in (((nI o) * (nI 5)) + (nI m)) 425) ok_m_hold rfl (in5 ho hm) ?_
      rw [cl5 ho hm]
      refine aq_callS (as := [.int (nI t)]) (st := [.long (hh (o * 5 + m)), .int (((nI o) * (nI 5)) + (nI m)), .ref 5]) ok_m_hold rfl c0_m_bit (am_bit t) rfl (Nat.le_of_ble_eq_true rfl) ?_
      refine aq_go (n := 2) (c1 := (54, [some (.ref 0), some (.int (nI t)), some (.int (nI o)), some (.int (nI m)), some (.int (nI i))], [], wR (fun i => nI (st i)) (fun i => nI (pr i)) (fun i => oI (aw i)) (fun i => oI (wa i)) (vp_updL (hh) (((nI o) * (nI 5)) + (nI m)).toNatClampNeg ((hh (o * 5 + m)) ||| (lbit t))) (fun i => nI (la i)) wr (nI n) (nI k) (nI c5) (nI c6) (nI c7))) (P := vp_in (((nI o) * (nI 5)) + (nI m)) 425) ok_m_hold rfl (in5 ho hm) ?_
      rw [cl5 ho hm]
      exact aq_ev ok_m_hold rfl rfl rfl
    · exact absurd (nI_le (show 5 ≤ i by omega) (by omega)) h
  | succ f ih =>
    intro i hif hh
    refine aq_gn (n := 2) (c1 := (6, [some (.ref 0), some (.int (nI t)), some (.int (nI o)), some (.int (nI m)), some (.int (nI i))], [.int (nI 5), .int (nI i)], wL st pr aw wa hh la wr n k c5 c6 c7)) ok_m_hold rfl ?_
    refine aq_icmp_ge ok_m_hold rfl (fun h => ?_) (fun h => ?_)
    · exact absurd (q_le h (by omega) (by omega)) (by omega)
    · refine aq_go (n := 10) (c1 := (22, [some (.ref 0), some (.int (nI t)), some (.int (nI o)), some (.int (nI m)), some (.int (nI i))], [.int (nI t), .long (hh (((nI o) * (nI 5)) + (nI i)).toNatClampNeg), .int (((nI o) * (nI 5)) + (nI i)), .ref 5], wL st pr aw wa hh la wr n k c5 c6 c7)) (P := vp_in (((nI o) * (nI 5)) + (nI i)) 425) ok_m_hold rfl (in5 ho (by omega)) ?_
      rw [cl5 ho (show i < 5 by omega)]
      refine aq_callS (as := [.int (nI t)]) (st := [.long (hh (o * 5 + i)), .int (((nI o) * (nI 5)) + (nI i)), .ref 5]) ok_m_hold rfl c0_m_bit (am_bit t) rfl (Nat.le_of_ble_eq_true rfl) ?_
      refine aq_go (n := 6) (c1 := (3, [some (.ref 0), some (.int (nI t)), some (.int (nI o)), some (.int (nI m)), some (.int ((nI i) + 1))], [], wR (fun i => nI (st i)) (fun i => nI (pr i)) (fun i => oI (aw i)) (fun i => oI (wa i)) (vp_updL (hh) (((nI o) * (nI 5)) + (nI i)).toNatClampNeg ((hh (o * 5 + i)) &&& ((lbit t) ^^^ (-1)))) (fun i => nI (la i)) wr (nI n) (nI k) (nI c5) (nI c6) (nI c7))) (P := vp_in (((nI o) * (nI 5)) + (nI i)) 425) ok_m_hold rfl (in5 ho (by omega)) ?_
      rw [cl5 ho (show i < 5 by omega), nI_1]
      exact ih (i + 1) (by omega) _
set_option maxHeartbeats 4000000 in
theorem am_hold {d : Nat} {st pr : Nat → Nat} {aw wa : Nat → Option Nat} {ha : Nat → Int64} {la : Nat → Nat} {wr : Nat → Int64} {n k c5 c6 c7 : Nat} {t o m : Nat} (ho : o < 85) (hm : m < 5) : AM m_hold (d + 1) (.inl none) [.ref 0, .int (nI t), .int (nI o), .int (nI m)] (wL st pr aw wa ha la wr n k c5 c6 c7) (wL st pr aw wa (hd ha t o m) la wr n k c5 c6 c7) := by
  refine aq_enter pl_m_hold (Nat.le_of_ble_eq_true rfl) ?_
  refine aq_gn (n := 2) (c1 := (3, [some (.ref 0), some (.int (nI t)), some (.int (nI o)), some (.int (nI m)), some (.int (nI 0))], [], wL st pr aw wa ha la wr n k c5 c6 c7)) ok_m_hold rfl ?_
  exact lp_hold ho hm 5 0 rfl ha
set_option maxHeartbeats 4000000 in
theorem am_letGo {d : Nat} {st pr : Nat → Nat} {aw wa : Nat → Option Nat} {ha : Nat → Int64} {la : Nat → Nat} {wr : Nat → Int64} {n k c5 c6 c7 : Nat} {t o : Nat} (ht : t < 60) (ho : o < 85) : AM m_letGo (d + 2) (.inl (some (.int (bI (hm ha t o).isSome)))) [.ref 0, .int (nI t), .int (nI o)] (wL st pr aw wa ha la wr n k c5 c6 c7) (wL st pr aw wa (lg ha t o) la wr n k c5 c6 c7) := by
  refine aq_enter pl_m_letGo (Nat.le_of_ble_eq_true rfl) ?_
  refine aq_gn (n := 3) (c1 := (3, [some (.ref 0), some (.int (nI t)), some (.int (nI o)), none], [.int (nI o), .int (nI t), .ref 0], wL st pr aw wa ha la wr n k c5 c6 c7)) ok_m_letGo rfl ?_
  refine aq_callV (as := [.int (nI t), .int (nI o)]) (st := []) ok_m_letGo rfl c0_m_heldMode (am_heldMode ht ho) rfl (Nat.le_of_ble_eq_true rfl) rfl rfl rfl ?_
  refine aq_gn (n := 3) (c1 := (9, [some (.ref 0), some (.int (nI t)), some (.int (nI o)), some (.int (oI (hm ha t o)))], [.int (-1), .int (oI (hm ha t o))], wL st pr aw wa ha la wr n k c5 c6 c7)) ok_m_letGo rfl ?_
  refine aq_icmp_ne ok_m_letGo rfl (fun h => ?_) (fun h => ?_)
  · obtain ⟨m, hx⟩ := oI_nm1 h
    have hm5 := hm_lt hx
    rw [hx]
    have e : lg ha t o = vp_updL ha (o * 5 + m) (ha (o * 5 + m) &&& (lbit t ^^^ (-1))) := by unfold lg; rw [hx]
    rw [e]
    show AW m_letGo (d + 2) (.inl (some (.int (bI true)))) _ (14, [some (.ref 0), some (.int (nI t)), some (.int (nI o)), some (.int (nI m))], [], wL st pr aw wa ha la wr n k c5 c6 c7)
    refine aq_go (n := 10) (c1 := (26, [some (.ref 0), some (.int (nI t)), some (.int (nI o)), some (.int (nI m))], [.int (nI t), .long (ha (((nI o) * (nI 5)) + (nI m)).toNatClampNeg), .int (((nI o) * (nI 5)) + (nI m)), .ref 5], wL st pr aw wa ha la wr n k c5 c6 c7)) (P := vp_in (((nI o) * (nI 5)) + (nI m)) 425) ok_m_letGo rfl (in5 ho hm5) ?_
    rw [cl5 ho hm5]
    refine aq_callS (as := [.int (nI t)]) (st := [.long (ha (o * 5 + m)), .int (((nI o) * (nI 5)) + (nI m)), .ref 5]) ok_m_letGo rfl c0_m_bit (am_bit t) rfl (Nat.le_of_ble_eq_true rfl) ?_
    refine aq_go (n := 5) (c1 := (36, [some (.ref 0), some (.int (nI t)), some (.int (nI o)), some (.int (nI m))], [.int (nI 1)], wR (fun i => nI (st i)) (fun i => nI (pr i)) (fun i => oI (aw i)) (fun i => oI (wa i)) (vp_updL (ha) (((nI o) * (nI 5)) + (nI m)).toNatClampNeg ((ha (o * 5 + m)) &&& ((lbit t) ^^^ (-1)))) (fun i => nI (la i)) wr (nI n) (nI k) (nI c5) (nI c6) (nI c7))) (P := vp_in (((nI o) * (nI 5)) + (nI m)) 425) ok_m_letGo rfl (in5 ho hm5) ?_
    rw [cl5 ho hm5]
    exact aq_ez ok_m_letGo rfl rfl rfl rfl
  · have hx := oI_m1 h (fun x q => by have := hm_lt q; omega)
    have e : lg ha t o = ha := by unfold lg; rw [hx]
    rw [e]
    refine aq_gn (n := 1) (c1 := (13, [some (.ref 0), some (.int (nI t)), some (.int (nI o)), some (.int (oI (hm ha t o)))], [.int (nI 0)], wL st pr aw wa ha la wr n k c5 c6 c7)) ok_m_letGo rfl ?_
    exact aq_ez ok_m_letGo rfl rfl (by rw [hx]; rfl) rfl
set_option maxHeartbeats 4000000 in
theorem lp_heldObjects {d : Nat} {st pr : Nat → Nat} {aw wa : Nat → Option Nat} {ha : Nat → Int64} {la : Nat → Nat} {wr : Nat → Int64} {n k c5 c6 c7 : Nat} {t : Nat} (ht : t < 60) : ∀ (f i : Nat), i + f = 85 → ∀ a : Nat, AW m_heldObjects (d + 2) (.inl (some (.int (nI (cnt (fun o => (hm ha t o).isSome) f i a))))) (wL st pr aw wa ha la wr n k c5 c6 c7) (4, [some (.ref 0), some (.int (nI t)), some (.int (nI a)), some (.int (nI i))], [], wL st pr aw wa ha la wr n k c5 c6 c7) := by
  intro f
  induction f with
  | zero =>
    intro i hif a
    refine aq_gn (n := 2) (c1 := (7, [some (.ref 0), some (.int (nI t)), some (.int (nI a)), some (.int (nI i))], [.int (nI 85), .int (nI i)], wL st pr aw wa ha la wr n k c5 c6 c7)) ok_m_heldObjects rfl ?_
    refine aq_icmp_ge ok_m_heldObjects rfl (fun h => ?_) (fun h => ?_)
    · refine aq_gn (n := 1) (c1 := (30, [some (.ref 0), some (.int (nI t)), some (.int (nI a)), some (.int (nI i))], [.int (nI a)], wL st pr aw wa ha la wr n k c5 c6 c7)) ok_m_heldObjects rfl ?_
      exact aq_ei ok_m_heldObjects rfl rfl rfl rfl
    · exact absurd (nI_le (show 85 ≤ i by omega) (by omega)) h
  | succ f ih =>
    intro i hif a
    refine aq_gn (n := 2) (c1 := (7, [some (.ref 0), some (.int (nI t)), some (.int (nI a)), some (.int (nI i))], [.int (nI 85), .int (nI i)], wL st pr aw wa ha la wr n k c5 c6 c7)) ok_m_heldObjects rfl ?_
    refine aq_icmp_ge ok_m_heldObjects rfl (fun h => ?_) (fun h => ?_)
    · exact absurd (q_le h (by omega) (by omega)) (by omega)
    · refine aq_gn (n := 3) (c1 := (13, [some (.ref 0), some (.int (nI t)), some (.int (nI a)), some (.int (nI i))], [.int (nI i), .int (nI t), .ref 0], wL st pr aw wa ha la wr n k c5 c6 c7)) ok_m_heldObjects rfl ?_
      refine aq_callV (as := [.int (nI t), .int (nI i)]) (st := []) ok_m_heldObjects rfl c0_m_heldMode (am_heldMode ht (show i < 85 by omega)) rfl (Nat.le_of_ble_eq_true rfl) rfl rfl rfl ?_
      refine aq_gn (n := 1) (c1 := (17, [some (.ref 0), some (.int (nI t)), some (.int (nI a)), some (.int (nI i))], [.int (-1), .int (oI (hm ha t i))], wL st pr aw wa ha la wr n k c5 c6 c7)) ok_m_heldObjects rfl ?_
      refine aq_icmp_eq ok_m_heldObjects rfl (fun h2 => ?_) (fun h2 => ?_)
      · have hx := oI_m1 h2 (fun x q => by have := hm_lt q; omega)
        refine aq_gn (n := 2) (c1 := (4, [some (.ref 0), some (.int (nI t)), some (.int (nI a)), some (.int ((nI i) + 1))], [], wL st pr aw wa ha la wr n k c5 c6 c7)) ok_m_heldObjects rfl ?_
        rw [nI_1]
        have e : cnt (fun o => (hm ha t o).isSome) (f + 1) i a = cnt (fun o => (hm ha t o).isSome) f (i + 1) a := by simp [cnt, hx]
        rw [e]
        exact ih (i + 1) (by omega) a
      · obtain ⟨x, hx⟩ := oI_nm1 h2
        refine aq_gn (n := 3) (c1 := (4, [some (.ref 0), some (.int (nI t)), some (.int ((nI a) + 1)), some (.int ((nI i) + 1))], [], wL st pr aw wa ha la wr n k c5 c6 c7)) ok_m_heldObjects rfl ?_
        rw [nI_1, nI_1]
        have e : cnt (fun o => (hm ha t o).isSome) (f + 1) i a = cnt (fun o => (hm ha t o).isSome) f (i + 1) (a + 1) := by simp [cnt, hx]
        rw [e]
        exact ih (i + 1) (by omega) (a + 1)
set_option maxHeartbeats 4000000 in
theorem am_heldObjects {d : Nat} {st pr : Nat → Nat} {aw wa : Nat → Option Nat} {ha : Nat → Int64} {la : Nat → Nat} {wr : Nat → Int64} {n k c5 c6 c7 : Nat} {t : Nat} (ht : t < 60) : AM m_heldObjects (d + 2) (.inl (some (.int (nI (cnt (fun o => (hm ha t o).isSome) 85 0 0))))) [.ref 0, .int (nI t)] (wL st pr aw wa ha la wr n k c5 c6 c7) (wL st pr aw wa ha la wr n k c5 c6 c7) := by
  refine aq_enter pl_m_heldObjects (Nat.le_of_ble_eq_true rfl) ?_
  refine aq_gn (n := 4) (c1 := (4, [some (.ref 0), some (.int (nI t)), some (.int (nI 0)), some (.int (nI 0))], [], wL st pr aw wa ha la wr n k c5 c6 c7)) ok_m_heldObjects rfl ?_
  exact lp_heldObjects ht 85 0 rfl 0
set_option maxHeartbeats 4000000 in
theorem lp_allHolders {d : Nat} {st pr : Nat → Nat} {aw wa : Nat → Option Nat} {ha : Nat → Int64} {la : Nat → Nat} {wr : Nat → Int64} {n k c5 c6 c7 : Nat} {o : Nat} (ho : o < 85) : ∀ (f i : Nat), i + f = 5 → ∀ a : Int64, AW m_allHolders (d) (.inl (some (.long (aoF ha o f i a)))) (wL st pr aw wa ha la wr n k c5 c6 c7) (5, [some (.ref 0), some (.int (nI o)), some (.long a), none, some (.int (nI i))], [], wL st pr aw wa ha la wr n k c5 c6 c7) := by
  intro f
  induction f with
  | zero =>
    intro i hif a
    refine aq_gn (n := 2) (c1 := (8, [some (.ref 0), some (.int (nI o)), some (.long a), none, some (.int (nI i))], [.int (nI 5), .int (nI i)], wL st pr aw wa ha la wr n k c5 c6 c7)) ok_m_allHolders rfl ?_
    refine aq_icmp_ge ok_m_allHolders rfl (fun h => ?_) (fun h => ?_)
    · refine aq_gn (n := 1) (c1 := (32, [some (.ref 0), some (.int (nI o)), some (.long a), none, some (.int (nI i))], [.long a], wL st pr aw wa ha la wr n k c5 c6 c7)) ok_m_allHolders rfl ?_
      exact aq_el ok_m_allHolders rfl rfl rfl rfl
    · exact absurd (nI_le (show 5 ≤ i by omega) (by omega)) h
  | succ f ih =>
    intro i hif a
    refine aq_gn (n := 2) (c1 := (8, [some (.ref 0), some (.int (nI o)), some (.long a), none, some (.int (nI i))], [.int (nI 5), .int (nI i)], wL st pr aw wa ha la wr n k c5 c6 c7)) ok_m_allHolders rfl ?_
    refine aq_icmp_ge ok_m_allHolders rfl (fun h => ?_) (fun h => ?_)
    · exact absurd (q_le h (by omega) (by omega)) (by omega)
    · refine aq_go (n := 13) (c1 := (5, [some (.ref 0), some (.int (nI o)), some (.long (a ||| (ha (((nI o) * (nI 5)) + (nI i)).toNatClampNeg))), none, some (.int ((nI i) + 1))], [], wL st pr aw wa ha la wr n k c5 c6 c7)) (P := vp_in (((nI o) * (nI 5)) + (nI i)) 425) ok_m_allHolders rfl (in5 ho (by omega)) ?_
      rw [cl5 ho (show i < 5 by omega), nI_1]
      exact ih (i + 1) (by omega) _
set_option maxHeartbeats 4000000 in
theorem am_allHolders {d : Nat} {st pr : Nat → Nat} {aw wa : Nat → Option Nat} {ha : Nat → Int64} {la : Nat → Nat} {wr : Nat → Int64} {n k c5 c6 c7 : Nat} {o : Nat} (ho : o < 85) : AM m_allHolders (d) (.inl (some (.long (ao ha o)))) [.ref 0, .int (nI o)] (wL st pr aw wa ha la wr n k c5 c6 c7) (wL st pr aw wa ha la wr n k c5 c6 c7) := by
  refine aq_enter pl_m_allHolders (Nat.le_of_ble_eq_true rfl) ?_
  refine aq_gn (n := 4) (c1 := (5, [some (.ref 0), some (.int (nI o)), some (.long 0), none, some (.int (nI 0))], [], wL st pr aw wa ha la wr n k c5 c6 c7)) ok_m_allHolders rfl ?_
  exact lp_allHolders ho 5 0 rfl 0
set_option maxHeartbeats 4000000 in
theorem lp_others {d : Nat} {st pr : Nat → Nat} {aw wa : Nat → Option Nat} {ha : Nat → Int64} {la : Nat → Nat} {wr : Nat → Int64} {n k c5 c6 c7 : Nat} {t o : Nat} {x : Int32} (ho : o < 85) : ∀ (f i : Nat), i + f = 5 → ∀ a : Int64, AW m_othersInTheWay (d + 1) (.inl (some (.long (owF ha o x f i a &&& (lbit t ^^^ (-1)))))) (wL st pr aw wa ha la wr n k c5 c6 c7) (6, [some (.ref 0), some (.int (nI t)), some (.int (nI o)), some (.int x), some (.long a), none, some (.int (nI i))], [], wL st pr aw wa ha la wr n k c5 c6 c7) := by
  intro f
  induction f with
  | zero =>
    intro i hif a
    refine aq_gn (n := 2) (c1 := (9, [some (.ref 0), some (.int (nI t)), some (.int (nI o)), some (.int x), some (.long a), none, some (.int (nI i))], [.int (nI 5), .int (nI i)], wL st pr aw wa ha la wr n k c5 c6 c7)) ok_m_othersInTheWay rfl ?_
    refine aq_icmp_ge ok_m_othersInTheWay rfl (fun h => ?_) (fun h => ?_)
    · refine aq_gn (n := 2) (c1 := (46, [some (.ref 0), some (.int (nI t)), some (.int (nI o)), some (.int x), some (.long a), none, some (.int (nI i))], [.int (nI t), .long a], wL st pr aw wa ha la wr n k c5 c6 c7)) ok_m_othersInTheWay rfl ?_
      refine aq_callS (as := [.int (nI t)]) (st := [.long a]) ok_m_othersInTheWay rfl c0_m_bit (am_bit t) rfl (Nat.le_of_ble_eq_true rfl) ?_
      refine aq_gn (n := 3) (c1 := (54, [some (.ref 0), some (.int (nI t)), some (.int (nI o)), some (.int x), some (.long a), none, some (.int (nI i))], [.long (a &&& ((lbit t) ^^^ (-1)))], wL st pr aw wa ha la wr n k c5 c6 c7)) ok_m_othersInTheWay rfl ?_
      exact aq_el ok_m_othersInTheWay rfl rfl rfl rfl
    · exact absurd (nI_le (show 5 ≤ i by omega) (by omega)) h
  | succ f ih =>
    intro i hif a
    refine aq_gn (n := 2) (c1 := (9, [some (.ref 0), some (.int (nI t)), some (.int (nI o)), some (.int x), some (.long a), none, some (.int (nI i))], [.int (nI 5), .int (nI i)], wL st pr aw wa ha la wr n k c5 c6 c7)) ok_m_othersInTheWay rfl ?_
    refine aq_icmp_ge ok_m_othersInTheWay rfl (fun h => ?_) (fun h => ?_)
    · exact absurd (q_le h (by omega) (by omega)) (by omega)
    · refine aq_gn (n := 2) (c1 := (15, [some (.ref 0), some (.int (nI t)), some (.int (nI o)), some (.int x), some (.long a), none, some (.int (nI i))], [.int x, .int (nI i)], wL st pr aw wa ha la wr n k c5 c6 c7)) ok_m_othersInTheWay rfl ?_
      refine aq_callS (as := [.int (nI i), .int x]) (st := []) ok_m_othersInTheWay rfl c0_m_goTogether (am_goTogether (nI i) x) rfl (Nat.le_of_ble_eq_true rfl) ?_
      refine aq_if_ne ok_m_othersInTheWay rfl (fun h2 => ?_) (fun h2 => ?_)
      · have hx : gTI (nI i) x = true := by cases hy : gTI (nI i) x with | true => rfl | false => exact absurd ((bI_0 _).mpr hy) h2
        refine aq_gn (n := 2) (c1 := (6, [some (.ref 0), some (.int (nI t)), some (.int (nI o)), some (.int x), some (.long a), none, some (.int ((nI i) + 1))], [], wL st pr aw wa ha la wr n k c5 c6 c7)) ok_m_othersInTheWay rfl ?_
        rw [nI_1]
        have e : owF ha o x (f + 1) i a = owF ha o x f (i + 1) a := by simp [owF, hx]
        rw [e]
        exact ih (i + 1) (by omega) a
      · have hx : gTI (nI i) x = false := (bI_0 _).mp h2
        refine aq_go (n := 13) (c1 := (6, [some (.ref 0), some (.int (nI t)), some (.int (nI o)), some (.int x), some (.long (a ||| (ha (((nI o) * (nI 5)) + (nI i)).toNatClampNeg))), none, some (.int ((nI i) + 1))], [], wL st pr aw wa ha la wr n k c5 c6 c7)) (P := vp_in (((nI o) * (nI 5)) + (nI i)) 425) ok_m_othersInTheWay rfl (in5 ho (by omega)) ?_
        rw [cl5 ho (show i < 5 by omega), nI_1]
        have e : owF ha o x (f + 1) i a = owF ha o x f (i + 1) (a ||| ha (o * 5 + i)) := by simp [owF, hx]
        rw [e]
        exact ih (i + 1) (by omega) _
set_option maxHeartbeats 4000000 in
theorem am_others {d : Nat} {st pr : Nat → Nat} {aw wa : Nat → Option Nat} {ha : Nat → Int64} {la : Nat → Nat} {wr : Nat → Int64} {n k c5 c6 c7 : Nat} {t o : Nat} {x : Int32} (ho : o < 85) : AM m_othersInTheWay (d + 1) (.inl (some (.long (ow ha t o x)))) [.ref 0, .int (nI t), .int (nI o), .int x] (wL st pr aw wa ha la wr n k c5 c6 c7) (wL st pr aw wa ha la wr n k c5 c6 c7) := by
  refine aq_enter pl_m_othersInTheWay (Nat.le_of_ble_eq_true rfl) ?_
  refine aq_gn (n := 4) (c1 := (6, [some (.ref 0), some (.int (nI t)), some (.int (nI o)), some (.int x), some (.long 0), none, some (.int (nI 0))], [], wL st pr aw wa ha la wr n k c5 c6 c7)) ok_m_othersInTheWay rfl ?_
  exact lp_others ho 5 0 rfl 0
