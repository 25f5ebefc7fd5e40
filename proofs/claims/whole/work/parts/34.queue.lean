/-! THE CLASS: the queue -/
theorem fi0_4 : aq_fi 0 4 = true := by decide +kernel
theorem fi0_7 : aq_fi 0 7 = true := by decide +kernel
theorem fi0_9 : aq_fi 0 9 = true := by decide +kernel
theorem fi0_10 : aq_fi 0 10 = true := by decide +kernel
theorem fi0_11 : aq_fi 0 11 = true := by decide +kernel
theorem fi1_0 : aq_fi 1 0 = true := by decide +kernel
theorem fi1_1 : aq_fi 1 1 = true := by decide +kernel
theorem fi1_10 : aq_fi 1 10 = true := by decide +kernel
theorem fi1_11 : aq_fi 1 11 = true := by decide +kernel
theorem fi1_12 : aq_fi 1 12 = true := by decide +kernel
def iqF (aw : Nat → Option Nat) (la : Nat → Nat) (o : Nat) (x : Int32) : Nat → Nat → Nat → Option Nat
  | 0, _, _ => none
  | f + 1, j, q => if aw (la j) = some o then (if nI q = x then some (la j) else iqF aw la o x f (j + 1) (q + 1)) else iqF aw la o x f (j + 1) q
def pnF (aw : Nat → Option Nat) (ha : Nat → Int64) (la : Nat → Nat) (o : Nat) : Nat → Nat → Nat
  | 0, i => i
  | f + 1, i => if aw (la i) = some o ∧ hm ha (la i) o = none then i else pnF aw ha la o f (i + 1)
def lqF (t : Nat) : Nat → Nat → Nat → (Nat → Nat) → (Nat → Nat) × Nat
  | 0, _, j, l => (l, j)
  | f + 1, i, j, l => if l i = t then lqF t f (i + 1) j l else lqF t f (i + 1) (j + 1) (va_up l j (l i))
def sbF (aw : Nat → Option Nat) (la : Nat → Nat) (t o : Nat) : Nat → Nat → Int64 → Int64
  | 0, _, a => a
  | f + 1, i, a => if la i = t then a else sbF aw la t o f (i + 1) (if aw (la i) = some o then a ||| lbit (la i) else a)
def wrw (aw wa : Nat → Option Nat) (ha : Nat → Int64) (la : Nat → Nat) (k t : Nat) : Int64 := match aw t with
  | none => 0
  | some o => ow ha t o (oI (wa t)) ||| sbF aw la t o k 0 0
def ftg (aw wa : Nat → Option Nat) (ha : Nat → Int64) (la : Nat → Nat) (k o : Nat) : Option Nat := match iqF aw la o 0 k 0 0 with
  | none => none
  | some t => if ow ha t o (oI (wa t)) = 0 then some t else none
/-- a step down: line[i] = line[i - 1], f times from i on -/
def shF : Nat → Nat → (Nat → Nat) → (Nat → Nat)
  | 0, _, l => l
  | f + 1, i, l => shF f (i - 1) (va_up l i (l (i - 1)))
theorem va_up_lt {l : Nat → Nat} {j x b : Nat} (hl : ∀ i, l i < b) (hx : x < b) : ∀ i, va_up l j x i < b := fun i => by
  unfold va_up
  split
  · exact hx
  · exact hl i
set_option maxHeartbeats 4000000 in
theorem lp_queueLength {d : Nat} {st pr : Nat → Nat} {aw wa : Nat → Option Nat} {ha : Nat → Int64} {la : Nat → Nat} {wr : Nat → Int64} {n k c5 c6 c7 : Nat} {o : Nat} (ho : o < 85) (hk : k ≤ 60) (hla : ∀ i, la i < 60) (haw : ∀ t x, aw t = some x → x < 85) : ∀ (f i : Nat), i + f = k → ∀ a : Nat,  AW m_queueLength (d) (.inl (some (.int (nI (cnt (fun i => decide (aw (la i) = some o)) f i a))))) (wL st pr aw wa ha la wr n k c5 c6 c7) (4, [some (.ref 0), some (.int (nI o)), some (.int (nI a)), some (.int (nI i))], [], wL st pr aw wa ha la wr n k c5 c6 c7) := by
  intro f
  induction f with
  | zero =>
    intro i hif a
    refine aq_gn (n := 3) (c1 := (9, [some (.ref 0), some (.int (nI o)), some (.int (nI a)), some (.int (nI i))], [.int (nI k), .int (nI i)], wL st pr aw wa ha la wr n k c5 c6 c7)) ok_m_queueLength rfl ?_
    refine aq_icmp_ge ok_m_queueLength rfl (fun h => ?_) (fun h => ?_)
    · refine aq_gn (n := 1) (c1 := (37, [some (.ref 0), some (.int (nI o)), some (.int (nI a)), some (.int (nI i))], [.int (nI a)], wL st pr aw wa ha la wr n k c5 c6 c7)) ok_m_queueLength rfl ?_
      exact aq_ei ok_m_queueLength rfl rfl rfl rfl
    · exact absurd (nI_le (show k ≤ i by omega) (by omega)) h
  | succ f ih =>
    intro i hif a
    refine aq_gn (n := 3) (c1 := (9, [some (.ref 0), some (.int (nI o)), some (.int (nI a)), some (.int (nI i))], [.int (nI k), .int (nI i)], wL st pr aw wa ha la wr n k c5 c6 c7)) ok_m_queueLength rfl ?_
    refine aq_icmp_ge ok_m_queueLength rfl (fun h => ?_) (fun h => ?_)
    · exact absurd (q_le h (by omega) (by omega)) (by omega)
    · refine aq_go (n := 8) (c1 := (24, [some (.ref 0), some (.int (nI o)), some (.int (nI a)), some (.int (nI i))], [.int (nI o), .int (oI (aw (nI (la (nI i).toNatClampNeg)).toNatClampNeg))], wL st pr aw wa ha la wr n k c5 c6 c7)) (P := vp_in (nI i) 60 ∧ vp_in (nI (la (nI i).toNatClampNeg)) 60) ok_m_queueLength rfl ⟨(in60 (by omega)), (by rw [cl60 (show i < 60 by omega)]; exact in60 (hla i))⟩ ?_
      rw [cl60 (show i < 60 by omega), cl60 (hla i)]
      refine aq_icmp_ne ok_m_queueLength rfl (fun h2 => ?_) (fun h2 => ?_)
      · have hx := oI_ne h2
        refine aq_gn (n := 2) (c1 := (4, [some (.ref 0), some (.int (nI o)), some (.int (nI a)), some (.int ((nI i) + 1))], [], wL st pr aw wa ha la wr n k c5 c6 c7)) ok_m_queueLength rfl ?_
        rw [nI_1]
        have e : cnt (fun i => decide (aw (la i) = some o)) (f + 1) i a = cnt (fun i => decide (aw (la i) = some o)) f (i + 1) a := by simp [cnt, hx]
        rw [e]
        exact ih (i + 1) (by omega) a
      · have hx := oI_eq h2 (by omega) (fun x q => by have := haw _ x q; omega)
        refine aq_gn (n := 3) (c1 := (4, [some (.ref 0), some (.int (nI o)), some (.int ((nI a) + 1)), some (.int ((nI i) + 1))], [], wL st pr aw wa ha la wr n k c5 c6 c7)) ok_m_queueLength rfl ?_
        rw [nI_1, nI_1]
        have e : cnt (fun i => decide (aw (la i) = some o)) (f + 1) i a = cnt (fun i => decide (aw (la i) = some o)) f (i + 1) (a + 1) := by simp [cnt, hx]
        rw [e]
        exact ih (i + 1) (by omega) (a + 1)
set_option maxHeartbeats 4000000 in
theorem am_queueLength {d : Nat} {st pr : Nat → Nat} {aw wa : Nat → Option Nat} {ha : Nat → Int64} {la : Nat → Nat} {wr : Nat → Int64} {n k c5 c6 c7 : Nat} {o : Nat} (ho : o < 85) (hk : k ≤ 60) (hla : ∀ i, la i < 60) (haw : ∀ t x, aw t = some x → x < 85) : AM m_queueLength (d) (.inl (some (.int (nI (cnt (fun i => decide (aw (la i) = some o)) k 0 0))))) [.ref 0, .int (nI o)] (wL st pr aw wa ha la wr n k c5 c6 c7) (wL st pr aw wa ha la wr n k c5 c6 c7) := by
  refine aq_enter pl_m_queueLength (Nat.le_of_ble_eq_true rfl) ?_
  refine aq_gn (n := 4) (c1 := (4, [some (.ref 0), some (.int (nI o)), some (.int (nI 0)), some (.int (nI 0))], [], wL st pr aw wa ha la wr n k c5 c6 c7)) ok_m_queueLength rfl ?_
  exact lp_queueLength ho hk hla haw k 0 (by omega) 0
set_option maxHeartbeats 4000000 in
theorem lp_inQueue {d : Nat} {st pr : Nat → Nat} {aw wa : Nat → Option Nat} {ha : Nat → Int64} {la : Nat → Nat} {wr : Nat → Int64} {n k c5 c6 c7 : Nat} {o : Nat} {x : Int32} (ho : o < 85) (hk : k ≤ 60) (hla : ∀ i, la i < 60) (haw : ∀ t x, aw t = some x → x < 85) : ∀ (f i : Nat), i + f = k → ∀ a : Nat,  AW m_inQueue (d) (.inl (some (.int (oI (iqF aw la o x f i a))))) (wL st pr aw wa ha la wr n k c5 c6 c7) (5, [some (.ref 0), some (.int (nI o)), some (.int x), some (.int (nI a)), some (.int (nI i))], [], wL st pr aw wa ha la wr n k c5 c6 c7) := by
  intro f
  induction f with
  | zero =>
    intro i hif a
    refine aq_gn (n := 3) (c1 := (11, [some (.ref 0), some (.int (nI o)), some (.int x), some (.int (nI a)), some (.int (nI i))], [.int (nI k), .int (nI i)], wL st pr aw wa ha la wr n k c5 c6 c7)) ok_m_inQueue rfl ?_
    refine aq_icmp_ge ok_m_inQueue rfl (fun h => ?_) (fun h => ?_)
    · refine aq_gn (n := 1) (c1 := (53, [some (.ref 0), some (.int (nI o)), some (.int x), some (.int (nI a)), some (.int (nI i))], [.int (-1)], wL st pr aw wa ha la wr n k c5 c6 c7)) ok_m_inQueue rfl ?_
      exact aq_ei ok_m_inQueue rfl rfl rfl rfl
    · exact absurd (nI_le (show k ≤ i by omega) (by omega)) h
  | succ f ih =>
    intro i hif a
    refine aq_gn (n := 3) (c1 := (11, [some (.ref 0), some (.int (nI o)), some (.int x), some (.int (nI a)), some (.int (nI i))], [.int (nI k), .int (nI i)], wL st pr aw wa ha la wr n k c5 c6 c7)) ok_m_inQueue rfl ?_
    refine aq_icmp_ge ok_m_inQueue rfl (fun h => ?_) (fun h => ?_)
    · exact absurd (q_le h (by omega) (by omega)) (by omega)
    · refine aq_go (n := 8) (c1 := (27, [some (.ref 0), some (.int (nI o)), some (.int x), some (.int (nI a)), some (.int (nI i))], [.int (nI o), .int (oI (aw (nI (la (nI i).toNatClampNeg)).toNatClampNeg))], wL st pr aw wa ha la wr n k c5 c6 c7)) (P := vp_in (nI i) 60 ∧ vp_in (nI (la (nI i).toNatClampNeg)) 60) ok_m_inQueue rfl ⟨(in60 (by omega)), (by rw [cl60 (show i < 60 by omega)]; exact in60 (hla i))⟩ ?_
      rw [cl60 (show i < 60 by omega), cl60 (hla i)]
      refine aq_icmp_ne ok_m_inQueue rfl (fun h2 => ?_) (fun h2 => ?_)
      · have hx := oI_ne h2
        refine aq_gn (n := 2) (c1 := (5, [some (.ref 0), some (.int (nI o)), some (.int x), some (.int (nI a)), some (.int ((nI i) + 1))], [], wL st pr aw wa ha la wr n k c5 c6 c7)) ok_m_inQueue rfl ?_
        rw [nI_1]
        have e : iqF aw la o x (f + 1) i a = iqF aw la o x f (i + 1) a := by simp [iqF, hx]
        rw [e]
        exact ih (i + 1) (by omega) a
      · have hx := oI_eq h2 (by omega) (fun x q => by have := haw _ x q; omega)
        refine aq_gn (n := 2) (c1 := (32, [some (.ref 0), some (.int (nI o)), some (.int x), some (.int (nI a)), some (.int (nI i))], [.int x, .int (nI a)], wL st pr aw wa ha la wr n k c5 c6 c7)) ok_m_inQueue rfl ?_
        refine aq_icmp_ne ok_m_inQueue rfl (fun h3 => ?_) (fun h3 => ?_)
        · refine aq_gn (n := 3) (c1 := (5, [some (.ref 0), some (.int (nI o)), some (.int x), some (.int ((nI a) + 1)), some (.int ((nI i) + 1))], [], wL st pr aw wa ha la wr n k c5 c6 c7)) ok_m_inQueue rfl ?_
          rw [nI_1, nI_1]
          have e : iqF aw la o x (f + 1) i a = iqF aw la o x f (i + 1) (a + 1) := by simp [iqF, hx, h3]
          rw [e]
          exact ih (i + 1) (by omega) (a + 1)
        · refine aq_go (n := 4) (c1 := (42, [some (.ref 0), some (.int (nI o)), some (.int x), some (.int (nI a)), some (.int (nI i))], [.int (nI (la (nI i).toNatClampNeg))], wL st pr aw wa ha la wr n k c5 c6 c7)) (P := vp_in (nI i) 60) ok_m_inQueue rfl (in60 (by omega)) ?_
          rw [cl60 (show i < 60 by omega)]
          exact aq_ei ok_m_inQueue rfl rfl (by simp [iqF, hx, h3, oI]) rfl
set_option maxHeartbeats 4000000 in
theorem am_inQueue {d : Nat} {st pr : Nat → Nat} {aw wa : Nat → Option Nat} {ha : Nat → Int64} {la : Nat → Nat} {wr : Nat → Int64} {n k c5 c6 c7 : Nat} {o : Nat} {x : Int32} (ho : o < 85) (hk : k ≤ 60) (hla : ∀ i, la i < 60) (haw : ∀ t x, aw t = some x → x < 85) : AM m_inQueue (d) (.inl (some (.int (oI (iqF aw la o x k 0 0))))) [.ref 0, .int (nI o), .int x] (wL st pr aw wa ha la wr n k c5 c6 c7) (wL st pr aw wa ha la wr n k c5 c6 c7) := by
  refine aq_enter pl_m_inQueue (Nat.le_of_ble_eq_true rfl) ?_
  refine aq_gn (n := 4) (c1 := (5, [some (.ref 0), some (.int (nI o)), some (.int x), some (.int (nI 0)), some (.int (nI 0))], [], wL st pr aw wa ha la wr n k c5 c6 c7)) ok_m_inQueue rfl ?_
  exact lp_inQueue ho hk hla haw k 0 (by omega) 0
set_option maxHeartbeats 4000000 in
theorem lp_place {d : Nat} {st pr : Nat → Nat} {aw wa : Nat → Option Nat} {ha : Nat → Int64} {la : Nat → Nat} {wr : Nat → Int64} {n k c5 c6 c7 : Nat} {o : Nat} (ho : o < 85) (hk : k ≤ 60) (hla : ∀ i, la i < 60) (haw : ∀ t x, aw t = some x → x < 85) : ∀ (f i : Nat), i + f = k → AW m_placeOfNewcomers (d + 2) (.inl (some (.int (nI (pnF aw ha la o f i))))) (wL st pr aw wa ha la wr n k c5 c6 c7) (2, [some (.ref 0), some (.int (nI o)), some (.int (nI i))], [], wL st pr aw wa ha la wr n k c5 c6 c7) := by
  intro f
  induction f with
  | zero =>
    intro i hif 
    refine aq_gn (n := 3) (c1 := (7, [some (.ref 0), some (.int (nI o)), some (.int (nI i))], [.int (nI k), .int (nI i)], wL st pr aw wa ha la wr n k c5 c6 c7)) ok_m_placeOfNewcomers rfl ?_
    refine aq_icmp_ge ok_m_placeOfNewcomers rfl (fun h => ?_) (fun h => ?_)
    · refine aq_gn (n := 2) (c1 := (52, [some (.ref 0), some (.int (nI o)), some (.int (nI i))], [.int (nI k)], wL st pr aw wa ha la wr n k c5 c6 c7)) ok_m_placeOfNewcomers rfl ?_
      have e : k = i := by omega
      exact aq_ei ok_m_placeOfNewcomers rfl rfl (by rw [e]; rfl) rfl
    · exact absurd (nI_le (show k ≤ i by omega) (by omega)) h
  | succ f ih =>
    intro i hif 
    refine aq_gn (n := 3) (c1 := (7, [some (.ref 0), some (.int (nI o)), some (.int (nI i))], [.int (nI k), .int (nI i)], wL st pr aw wa ha la wr n k c5 c6 c7)) ok_m_placeOfNewcomers rfl ?_
    refine aq_icmp_ge ok_m_placeOfNewcomers rfl (fun h => ?_) (fun h => ?_)
    · exact absurd (q_le h (by omega) (by omega)) (by omega)
    · refine aq_go (n := 8) (c1 := (22, [some (.ref 0), some (.int (nI o)), some (.int (nI i))], [.int (nI o), .int (oI (aw (nI (la (nI i).toNatClampNeg)).toNatClampNeg))], wL st pr aw wa ha la wr n k c5 c6 c7)) (P := vp_in (nI i) 60 ∧ vp_in (nI (la (nI i).toNatClampNeg)) 60) ok_m_placeOfNewcomers rfl ⟨(in60 (by omega)), (by rw [cl60 (show i < 60 by omega)]; exact in60 (hla i))⟩ ?_
      rw [cl60 (show i < 60 by omega), cl60 (hla i)]
      refine aq_icmp_ne ok_m_placeOfNewcomers rfl (fun h2 => ?_) (fun h2 => ?_)
      · have hx := oI_ne h2
        refine aq_gn (n := 2) (c1 := (2, [some (.ref 0), some (.int (nI o)), some (.int ((nI i) + 1))], [], wL st pr aw wa ha la wr n k c5 c6 c7)) ok_m_placeOfNewcomers rfl ?_
        rw [nI_1]
        have e : pnF aw ha la o (f + 1) i = pnF aw ha la o f (i + 1) := by simp [pnF, hx]
        rw [e]
        exact ih (i + 1) (by omega)
      · have hx := oI_eq h2 (by omega) (fun x q => by have := haw _ x q; omega)
        refine aq_go (n := 6) (c1 := (33, [some (.ref 0), some (.int (nI o)), some (.int (nI i))], [.int (nI o), .int (nI (la (nI i).toNatClampNeg)), .ref 0], wL st pr aw wa ha la wr n k c5 c6 c7)) (P := vp_in (nI i) 60) ok_m_placeOfNewcomers rfl (in60 (by omega)) ?_
        rw [cl60 (show i < 60 by omega)]
        refine aq_callV (as := [.int (nI (la i)), .int (nI o)]) (st := []) ok_m_placeOfNewcomers rfl c0_m_heldMode (am_heldMode (hla i) ho) rfl (Nat.le_of_ble_eq_true rfl) rfl rfl rfl ?_
        refine aq_gn (n := 1) (c1 := (37, [some (.ref 0), some (.int (nI o)), some (.int (nI i))], [.int (-1), .int (oI (hm ha (la i) o))], wL st pr aw wa ha la wr n k c5 c6 c7)) ok_m_placeOfNewcomers rfl ?_
        refine aq_icmp_ne ok_m_placeOfNewcomers rfl (fun h3 => ?_) (fun h3 => ?_)
        · obtain ⟨y, hy⟩ := oI_nm1 h3
          refine aq_gn (n := 2) (c1 := (2, [some (.ref 0), some (.int (nI o)), some (.int ((nI i) + 1))], [], wL st pr aw wa ha la wr n k c5 c6 c7)) ok_m_placeOfNewcomers rfl ?_
          rw [nI_1]
          have e : pnF aw ha la o (f + 1) i = pnF aw ha la o f (i + 1) := by simp [pnF, hy]
          rw [e]
          exact ih (i + 1) (by omega)
        · have hy := oI_m1 h3 (fun x q => by have := hm_lt q; omega)
          refine aq_gn (n := 1) (c1 := (41, [some (.ref 0), some (.int (nI o)), some (.int (nI i))], [.int (nI i)], wL st pr aw wa ha la wr n k c5 c6 c7)) ok_m_placeOfNewcomers rfl ?_
          exact aq_ei ok_m_placeOfNewcomers rfl rfl (by simp [pnF, hx, hy]) rfl
set_option maxHeartbeats 4000000 in
theorem am_place {d : Nat} {st pr : Nat → Nat} {aw wa : Nat → Option Nat} {ha : Nat → Int64} {la : Nat → Nat} {wr : Nat → Int64} {n k c5 c6 c7 : Nat} {o : Nat} (ho : o < 85) (hk : k ≤ 60) (hla : ∀ i, la i < 60) (haw : ∀ t x, aw t = some x → x < 85) : AM m_placeOfNewcomers (d + 2) (.inl (some (.int (nI (pnF aw ha la o k 0))))) [.ref 0, .int (nI o)] (wL st pr aw wa ha la wr n k c5 c6 c7) (wL st pr aw wa ha la wr n k c5 c6 c7) := by
  refine aq_enter pl_m_placeOfNewcomers (Nat.le_of_ble_eq_true rfl) ?_
  refine aq_gn (n := 2) (c1 := (2, [some (.ref 0), some (.int (nI o)), some (.int (nI 0))], [], wL st pr aw wa ha la wr n k c5 c6 c7)) ok_m_placeOfNewcomers rfl ?_
  exact lp_place ho hk hla haw k 0 (by omega)
set_option maxHeartbeats 4000000 in
theorem lp_leave {d : Nat} {st pr : Nat → Nat} {aw wa : Nat → Option Nat} {ha : Nat → Int64} {wr : Nat → Int64} {n k c5 c6 c7 : Nat} {t : Nat} (ht : t < 60) (hk : k ≤ 60) : ∀ (f i : Nat), i + f = k → ∀ (j : Nat) (l : Nat → Nat), j ≤ i → (∀ i, l i < 60) → AW m_leaveQueue (d) (.inl none) (wL st pr (va_up aw t none) (va_up wa t none) ha ((lqF t f i j l).1) wr n ((lqF t f i j l).2) c5 c6 c7) (4, [some (.ref 0), some (.int (nI t)), some (.int (nI j)), some (.int (nI i))], [], wL st pr aw wa ha l wr n k c5 c6 c7) := by
  intro f
  induction f with
  | zero =>
    intro i hif j l hj hl
    refine aq_gn (n := 3) (c1 := (9, [some (.ref 0), some (.int (nI t)), some (.int (nI j)), some (.int (nI i))], [.int (nI k), .int (nI i)], wL st pr aw wa ha l wr n k c5 c6 c7)) ok_m_leaveQueue rfl ?_
    refine aq_icmp_ge ok_m_leaveQueue rfl (fun h => ?_) (fun h => ?_)
    · refine aq_go (n := 13) (c1 := (62, [some (.ref 0), some (.int (nI t)), some (.int (nI j)), some (.int (nI i))], [], wR (fun i => nI (st i)) (fun i => nI (pr i)) (upd (fun i => oI (aw i)) (nI t).toNatClampNeg (-1)) (upd (fun i => oI (wa i)) (nI t).toNatClampNeg (-1)) ha (fun i => nI (l i)) wr (nI n) (nI j) (nI c5) (nI c6) (nI c7))) (P := aq_fi 0 7 = true ∧ vp_in (nI t) 60 ∧ vp_in (nI t) 60) ok_m_leaveQueue rfl ⟨fi0_7, (in60 ht), (in60 ht)⟩ ?_
      rw [cl60 ht, upd_m, upd_m]
      exact aq_ev ok_m_leaveQueue rfl rfl rfl
    · exact absurd (nI_le (show k ≤ i by omega) (by omega)) h
  | succ f ih =>
    intro i hif j l hj hl
    refine aq_gn (n := 3) (c1 := (9, [some (.ref 0), some (.int (nI t)), some (.int (nI j)), some (.int (nI i))], [.int (nI k), .int (nI i)], wL st pr aw wa ha l wr n k c5 c6 c7)) ok_m_leaveQueue rfl ?_
    refine aq_icmp_ge ok_m_leaveQueue rfl (fun h => ?_) (fun h => ?_)
    · exact absurd (q_le h (by omega) (by omega)) (by omega)
    · refine aq_go (n := 5) (c1 := (19, [some (.ref 0), some (.int (nI t)), some (.int (nI j)), some (.int (nI i))], [.int (nI t), .int (nI (l (nI i).toNatClampNeg))], wL st pr aw wa ha l wr n k c5 c6 c7)) (P := vp_in (nI i) 60) ok_m_leaveQueue rfl (in60 (by omega)) ?_
      rw [cl60 (show i < 60 by omega)]
      refine aq_icmp_eq ok_m_leaveQueue rfl (fun h2 => ?_) (fun h2 => ?_)
      · have hx := q_eq h2 (by have := hl i; omega) (by omega)
        refine aq_gn (n := 2) (c1 := (4, [some (.ref 0), some (.int (nI t)), some (.int (nI j)), some (.int ((nI i) + 1))], [], wL st pr aw wa ha l wr n k c5 c6 c7)) ok_m_leaveQueue rfl ?_
        rw [nI_1]
        have e : lqF t (f + 1) i j l = lqF t f (i + 1) j l := by simp [lqF, hx]
        rw [e]
        exact ih (i + 1) (by omega) j l (by omega) hl
      · have hx := q_ne h2
        refine aq_go (n := 11) (c1 := (4, [some (.ref 0), some (.int (nI t)), some (.int ((nI j) + 1)), some (.int ((nI i) + 1))], [], wR (fun i => nI (st i)) (fun i => nI (pr i)) (fun i => oI (aw i)) (fun i => oI (wa i)) ha (upd (fun i => nI (l i)) (nI j).toNatClampNeg (nI (l (nI i).toNatClampNeg))) wr (nI n) (nI k) (nI c5) (nI c6) (nI c7))) (P := vp_in (nI i) 60 ∧ vp_in (nI j) 60) ok_m_leaveQueue rfl ⟨(in60 (by omega)), (in60 (by omega))⟩ ?_
        rw [cl60 (show i < 60 by omega), cl60 (show j < 60 by omega), upd_n, nI_1, nI_1]
        have e : lqF t (f + 1) i j l = lqF t f (i + 1) (j + 1) (va_up l j (l i)) := by simp [lqF, hx]
        rw [e]
        exact ih (i + 1) (by omega) (j + 1) (va_up l j (l i)) (by omega) (va_up_lt hl (hl i))
set_option maxHeartbeats 4000000 in
theorem am_leaveQueue {d : Nat} {st pr : Nat → Nat} {aw wa : Nat → Option Nat} {ha : Nat → Int64} {la : Nat → Nat} {wr : Nat → Int64} {n k c5 c6 c7 : Nat} {t : Nat} (ht : t < 60) (hk : k ≤ 60) (hla : ∀ i, la i < 60) : AM m_leaveQueue (d) (.inl none) [.ref 0, .int (nI t)] (wL st pr aw wa ha la wr n k c5 c6 c7) (wL st pr (va_up aw t none) (va_up wa t none) ha ((lqF t k 0 0 la).1) wr n ((lqF t k 0 0 la).2) c5 c6 c7) := by
  refine aq_enter pl_m_leaveQueue (Nat.le_of_ble_eq_true rfl) ?_
  refine aq_gn (n := 4) (c1 := (4, [some (.ref 0), some (.int (nI t)), some (.int (nI 0)), some (.int (nI 0))], [], wL st pr aw wa ha la wr n k c5 c6 c7)) ok_m_leaveQueue rfl ?_
  exact lp_leave ht hk k 0 (by omega) 0 la (Nat.le_refl 0) hla
set_option maxHeartbeats 4000000 in
theorem lp_before {d : Nat} {st pr : Nat → Nat} {aw wa : Nat → Option Nat} {ha : Nat → Int64} {la : Nat → Nat} {wr : Nat → Int64} {n k c5 c6 c7 : Nat} {t o : Nat} (ht : t < 60) (ho : o < 85) (hk : k ≤ 60) (hla : ∀ i, la i < 60) (haw : ∀ t x, aw t = some x → x < 85) : ∀ (f i : Nat), i + f = k → ∀ a : Int64,  AW m_standingBefore (d + 1) (.inl (some (.long (sbF aw la t o f i a)))) (wL st pr aw wa ha la wr n k c5 c6 c7) (5, [some (.ref 0), some (.int (nI t)), some (.int (nI o)), some (.long a), none, some (.int (nI i))], [], wL st pr aw wa ha la wr n k c5 c6 c7) := by
  intro f
  induction f with
  | zero =>
    intro i hif a
    refine aq_gn (n := 3) (c1 := (11, [some (.ref 0), some (.int (nI t)), some (.int (nI o)), some (.long a), none, some (.int (nI i))], [.int (nI k), .int (nI i)], wL st pr aw wa ha la wr n k c5 c6 c7)) ok_m_standingBefore rfl ?_
    refine aq_icmp_ge ok_m_standingBefore rfl (fun h => ?_) (fun h => ?_)
    · refine aq_gn (n := 1) (c1 := (61, [some (.ref 0), some (.int (nI t)), some (.int (nI o)), some (.long a), none, some (.int (nI i))], [.long a], wL st pr aw wa ha la wr n k c5 c6 c7)) ok_m_standingBefore rfl ?_
      exact aq_el ok_m_standingBefore rfl rfl rfl rfl
    · exact absurd (nI_le (show k ≤ i by omega) (by omega)) h
  | succ f ih =>
    intro i hif a
    refine aq_gn (n := 3) (c1 := (11, [some (.ref 0), some (.int (nI t)), some (.int (nI o)), some (.long a), none, some (.int (nI i))], [.int (nI k), .int (nI i)], wL st pr aw wa ha la wr n k c5 c6 c7)) ok_m_standingBefore rfl ?_
    refine aq_icmp_ge ok_m_standingBefore rfl (fun h => ?_) (fun h => ?_)
    · exact absurd (q_le h (by omega) (by omega)) (by omega)
    · refine aq_go (n := 5) (c1 := (22, [some (.ref 0), some (.int (nI t)), some (.int (nI o)), some (.long a), none, some (.int (nI i))], [.int (nI t), .int (nI (la (nI i).toNatClampNeg))], wL st pr aw wa ha la wr n k c5 c6 c7)) (P := vp_in (nI i) 60) ok_m_standingBefore rfl (in60 (by omega)) ?_
      rw [cl60 (show i < 60 by omega)]
      refine aq_icmp_eq ok_m_standingBefore rfl (fun h2 => ?_) (fun h2 => ?_)
      · have hx := q_eq h2 (by have := hla i; omega) (by omega)
        refine aq_gn (n := 1) (c1 := (61, [some (.ref 0), some (.int (nI t)), some (.int (nI o)), some (.long a), none, some (.int (nI i))], [.long a], wL st pr aw wa ha la wr n k c5 c6 c7)) ok_m_standingBefore rfl ?_
        exact aq_el ok_m_standingBefore rfl rfl (by simp [sbF, hx]) rfl
      · have hx := q_ne h2
        refine aq_go (n := 8) (c1 := (38, [some (.ref 0), some (.int (nI t)), some (.int (nI o)), some (.long a), none, some (.int (nI i))], [.int (nI o), .int (oI (aw (nI (la (nI i).toNatClampNeg)).toNatClampNeg))], wL st pr aw wa ha la wr n k c5 c6 c7)) (P := vp_in (nI i) 60 ∧ vp_in (nI (la (nI i).toNatClampNeg)) 60) ok_m_standingBefore rfl ⟨(in60 (by omega)), (by rw [cl60 (show i < 60 by omega)]; exact in60 (hla i))⟩ ?_
        rw [cl60 (show i < 60 by omega), cl60 (hla i)]
        refine aq_icmp_ne ok_m_standingBefore rfl (fun h3 => ?_) (fun h3 => ?_)
        · have hy := oI_ne h3
          refine aq_gn (n := 2) (c1 := (5, [some (.ref 0), some (.int (nI t)), some (.int (nI o)), some (.long a), none, some (.int ((nI i) + 1))], [], wL st pr aw wa ha la wr n k c5 c6 c7)) ok_m_standingBefore rfl ?_
          rw [nI_1]
          have e : sbF aw la t o (f + 1) i a = sbF aw la t o f (i + 1) a := by simp [sbF, hx, hy]
          rw [e]
          exact ih (i + 1) (by omega) a
        · have hy := oI_eq h3 (by omega) (fun x q => by have := haw _ x q; omega)
          refine aq_go (n := 5) (c1 := (49, [some (.ref 0), some (.int (nI t)), some (.int (nI o)), some (.long a), none, some (.int (nI i))], [.int (nI (la (nI i).toNatClampNeg)), .long a], wL st pr aw wa ha la wr n k c5 c6 c7)) (P := vp_in (nI i) 60) ok_m_standingBefore rfl (in60 (by omega)) ?_
          rw [cl60 (show i < 60 by omega)]
          refine aq_callS (as := [.int (nI (la i))]) (st := [.long a]) ok_m_standingBefore rfl c0_m_bit (am_bit (la i)) rfl (Nat.le_of_ble_eq_true rfl) ?_
          refine aq_gn (n := 4) (c1 := (5, [some (.ref 0), some (.int (nI t)), some (.int (nI o)), some (.long (a ||| (lbit (la i)))), none, some (.int ((nI i) + 1))], [], wL st pr aw wa ha la wr n k c5 c6 c7)) ok_m_standingBefore rfl ?_
          rw [nI_1]
          have e : sbF aw la t o (f + 1) i a = sbF aw la t o f (i + 1) (a ||| lbit (la i)) := by simp [sbF, hx, hy]
          rw [e]
          exact ih (i + 1) (by omega) _
set_option maxHeartbeats 4000000 in
theorem am_before {d : Nat} {st pr : Nat → Nat} {aw wa : Nat → Option Nat} {ha : Nat → Int64} {la : Nat → Nat} {wr : Nat → Int64} {n k c5 c6 c7 : Nat} {t o : Nat} (ht : t < 60) (ho : o < 85) (hk : k ≤ 60) (hla : ∀ i, la i < 60) (haw : ∀ t x, aw t = some x → x < 85) : AM m_standingBefore (d + 1) (.inl (some (.long (sbF aw la t o k 0 0)))) [.ref 0, .int (nI t), .int (nI o)] (wL st pr aw wa ha la wr n k c5 c6 c7) (wL st pr aw wa ha la wr n k c5 c6 c7) := by
  refine aq_enter pl_m_standingBefore (Nat.le_of_ble_eq_true rfl) ?_
  refine aq_gn (n := 4) (c1 := (5, [some (.ref 0), some (.int (nI t)), some (.int (nI o)), some (.long 0), none, some (.int (nI 0))], [], wL st pr aw wa ha la wr n k c5 c6 c7)) ok_m_standingBefore rfl ?_
  exact lp_before ht ho hk hla haw k 0 (by omega) 0
set_option maxHeartbeats 4000000 in
theorem lp_inState {d : Nat} {st pr : Nat → Nat} {aw wa : Nat → Option Nat} {ha : Nat → Int64} {la : Nat → Nat} {wr : Nat → Int64} {n k c5 c6 c7 : Nat} {x : Int32} (hn : n ≤ 60) : ∀ (f i : Nat), i + f = n → ∀ a : Nat,  AW m_inState (d) (.inl (some (.int (nI (cnt (fun i => decide (nI (st i) = x)) f i a))))) (wL st pr aw wa ha la wr n k c5 c6 c7) (4, [some (.ref 0), some (.int x), some (.int (nI a)), some (.int (nI i))], [], wL st pr aw wa ha la wr n k c5 c6 c7) := by
  intro f
  induction f with
  | zero =>
    intro i hif a
    refine aq_gn (n := 3) (c1 := (9, [some (.ref 0), some (.int x), some (.int (nI a)), some (.int (nI i))], [.int (nI n), .int (nI i)], wL st pr aw wa ha la wr n k c5 c6 c7)) ok_m_inState rfl ?_
    refine aq_icmp_ge ok_m_inState rfl (fun h => ?_) (fun h => ?_)
    · refine aq_gn (n := 1) (c1 := (32, [some (.ref 0), some (.int x), some (.int (nI a)), some (.int (nI i))], [.int (nI a)], wL st pr aw wa ha la wr n k c5 c6 c7)) ok_m_inState rfl ?_
      exact aq_ei ok_m_inState rfl rfl rfl rfl
    · exact absurd (nI_le (show n ≤ i by omega) (by omega)) h
  | succ f ih =>
    intro i hif a
    refine aq_gn (n := 3) (c1 := (9, [some (.ref 0), some (.int x), some (.int (nI a)), some (.int (nI i))], [.int (nI n), .int (nI i)], wL st pr aw wa ha la wr n k c5 c6 c7)) ok_m_inState rfl ?_
    refine aq_icmp_ge ok_m_inState rfl (fun h => ?_) (fun h => ?_)
    · exact absurd (q_le h (by omega) (by omega)) (by omega)
    · refine aq_go (n := 5) (c1 := (19, [some (.ref 0), some (.int x), some (.int (nI a)), some (.int (nI i))], [.int x, .int (nI (st (nI i).toNatClampNeg))], wL st pr aw wa ha la wr n k c5 c6 c7)) (P := vp_in (nI i) 60) ok_m_inState rfl (in60 (by omega)) ?_
      rw [cl60 (show i < 60 by omega)]
      refine aq_icmp_ne ok_m_inState rfl (fun h2 => ?_) (fun h2 => ?_)
      · refine aq_gn (n := 2) (c1 := (4, [some (.ref 0), some (.int x), some (.int (nI a)), some (.int ((nI i) + 1))], [], wL st pr aw wa ha la wr n k c5 c6 c7)) ok_m_inState rfl ?_
        rw [nI_1]
        have e : cnt (fun i => decide (nI (st i) = x)) (f + 1) i a = cnt (fun i => decide (nI (st i) = x)) f (i + 1) a := by simp [cnt, h2]
        rw [e]
        exact ih (i + 1) (by omega) a
      · refine aq_gn (n := 3) (c1 := (4, [some (.ref 0), some (.int x), some (.int ((nI a) + 1)), some (.int ((nI i) + 1))], [], wL st pr aw wa ha la wr n k c5 c6 c7)) ok_m_inState rfl ?_
        rw [nI_1, nI_1]
        have e : cnt (fun i => decide (nI (st i) = x)) (f + 1) i a = cnt (fun i => decide (nI (st i) = x)) f (i + 1) (a + 1) := by simp [cnt, h2]
        rw [e]
        exact ih (i + 1) (by omega) (a + 1)
set_option maxHeartbeats 4000000 in
theorem am_inState {d : Nat} {st pr : Nat → Nat} {aw wa : Nat → Option Nat} {ha : Nat → Int64} {la : Nat → Nat} {wr : Nat → Int64} {n k c5 c6 c7 : Nat} {x : Int32} (hn : n ≤ 60) : AM m_inState (d) (.inl (some (.int (nI (cnt (fun i => decide (nI (st i) = x)) n 0 0))))) [.ref 0, .int x] (wL st pr aw wa ha la wr n k c5 c6 c7) (wL st pr aw wa ha la wr n k c5 c6 c7) := by
  refine aq_enter pl_m_inState (Nat.le_of_ble_eq_true rfl) ?_
  refine aq_gn (n := 4) (c1 := (4, [some (.ref 0), some (.int x), some (.int (nI 0)), some (.int (nI 0))], [], wL st pr aw wa ha la wr n k c5 c6 c7)) ok_m_inState rfl ?_
  exact lp_inState hn n 0 (by omega) 0
set_option maxHeartbeats 4000000 in
theorem am_waitRow {d : Nat} {st pr : Nat → Nat} {aw wa : Nat → Option Nat} {ha : Nat → Int64} {la : Nat → Nat} {wr : Nat → Int64} {n k c5 c6 c7 : Nat} {t : Nat} (ht : t < 60) (hk : k ≤ 60) (hla : ∀ i, la i < 60) (haw : ∀ t x, aw t = some x → x < 85) : AM m_waitRow (d + 2) (.inl (some (.long (wrw aw wa ha la k t)))) [.ref 0, .int (nI t)] (wL st pr aw wa ha la wr n k c5 c6 c7) (wL st pr aw wa ha la wr n k c5 c6 c7) := by
  refine aq_enter pl_m_waitRow (Nat.le_of_ble_eq_true rfl) ?_
  refine aq_go (n := 7) (c1 := (9, [some (.ref 0), some (.int (nI t)), some (.int (oI (aw (nI t).toNatClampNeg)))], [.int (-1), .int (oI (aw (nI t).toNatClampNeg))], wL st pr aw wa ha la wr n k c5 c6 c7)) (P := vp_in (nI t) 60) ok_m_waitRow rfl (in60 ht) ?_
  rw [cl60 ht]
  refine aq_icmp_ne ok_m_waitRow rfl (fun h => ?_) (fun h => ?_)
  · obtain ⟨o, hx⟩ := oI_nm1 h
    have ho := haw _ o hx
    rw [hx]
    have e : wrw aw wa ha la k t = ow ha t o (oI (wa t)) ||| sbF aw la t o k 0 0 := by unfold wrw; rw [hx]
    rw [e]
    show AW m_waitRow _ _ _ (14, [some (.ref 0), some (.int (nI t)), some (.int (nI o))], [], wL st pr aw wa ha la wr n k c5 c6 c7)
    refine aq_go (n := 7) (c1 := (23, [some (.ref 0), some (.int (nI t)), some (.int (nI o))], [.int (oI (wa (nI t).toNatClampNeg)), .int (nI o), .int (nI t), .ref 0], wL st pr aw wa ha la wr n k c5 c6 c7)) (P := vp_in (nI t) 60) ok_m_waitRow rfl (in60 ht) ?_
    rw [cl60 ht]
    refine aq_callV (as := [.int (nI t), .int (nI o), .int (oI (wa t))]) (st := []) ok_m_waitRow rfl c0_m_othersInTheWay (am_others ho) rfl (Nat.le_of_ble_eq_true rfl) rfl rfl rfl ?_
    refine aq_gn (n := 3) (c1 := (29, [some (.ref 0), some (.int (nI t)), some (.int (nI o))], [.int (nI o), .int (nI t), .ref 0, .long (ow ha t o (oI (wa t)))], wL st pr aw wa ha la wr n k c5 c6 c7)) ok_m_waitRow rfl ?_
    refine aq_callV (as := [.int (nI t), .int (nI o)]) (st := [.long (ow ha t o (oI (wa t)))]) ok_m_waitRow rfl c0_m_standingBefore (am_before ht ho hk hla haw) rfl (Nat.le_of_ble_eq_true rfl) rfl rfl rfl ?_
    refine aq_gn (n := 1) (c1 := (33, [some (.ref 0), some (.int (nI t)), some (.int (nI o))], [.long ((ow ha t o (oI (wa t))) ||| (sbF aw la t o k 0 0))], wL st pr aw wa ha la wr n k c5 c6 c7)) ok_m_waitRow rfl ?_
    exact aq_el ok_m_waitRow rfl rfl rfl rfl
  · have hx := oI_m1 h (fun x q => by have := haw _ x q; omega)
    refine aq_gn (n := 1) (c1 := (13, [some (.ref 0), some (.int (nI t)), some (.int (oI (aw t)))], [.long 0], wL st pr aw wa ha la wr n k c5 c6 c7)) ok_m_waitRow rfl ?_
    exact aq_el ok_m_waitRow rfl rfl (by unfold wrw; rw [hx]) rfl
theorem iqF_in {aw : Nat → Option Nat} {la : Nat → Nat} {o : Nat} {x : Int32} : ∀ {f j q t : Nat}, iqF aw la o x f j q = some t → aw t = some o ∧ ∃ i, j ≤ i ∧ i < j + f ∧ t = la i := by
  intro f
  induction f with
  | zero => intro j q t h; cases h
  | succ f ih =>
    intro j q t h
    unfold iqF at h
    split at h
    · rename_i h1
      split at h
      · cases h
        exact ⟨h1, j, Nat.le_refl _, by omega, rfl⟩
      · obtain ⟨h3, i, h4, h5, h6⟩ := ih h
        exact ⟨h3, i, by omega, by omega, h6⟩
    · obtain ⟨h3, i, h4, h5, h6⟩ := ih h
      exact ⟨h3, i, by omega, by omega, h6⟩
set_option maxHeartbeats 4000000 in
theorem am_first {d : Nat} {st pr : Nat → Nat} {aw wa : Nat → Option Nat} {ha : Nat → Int64} {la : Nat → Nat} {wr : Nat → Int64} {n k c5 c6 c7 : Nat} {o : Nat} (ho : o < 85) (hk : k ≤ 60) (hla : ∀ i, la i < 60) (haw : ∀ t x, aw t = some x → x < 85) : AM m_firstToGrant (d + 2) (.inl (some (.int (oI (ftg aw wa ha la k o))))) [.ref 0, .int (nI o)] (wL st pr aw wa ha la wr n k c5 c6 c7) (wL st pr aw wa ha la wr n k c5 c6 c7) := by
  refine aq_enter pl_m_firstToGrant (Nat.le_of_ble_eq_true rfl) ?_
  refine aq_gn (n := 3) (c1 := (3, [some (.ref 0), some (.int (nI o)), none], [.int (nI 0), .int (nI o), .ref 0], wL st pr aw wa ha la wr n k c5 c6 c7)) ok_m_firstToGrant rfl ?_
  refine aq_callV (as := [.int (nI o), .int (nI 0)]) (st := []) ok_m_firstToGrant rfl c0_m_inQueue (am_inQueue ho hk hla haw) rfl (Nat.le_of_ble_eq_true rfl) rfl rfl rfl ?_
  refine aq_gn (n := 3) (c1 := (9, [some (.ref 0), some (.int (nI o)), some (.int (oI (iqF aw la o 0 k 0 0)))], [.int (-1), .int (oI (iqF aw la o 0 k 0 0))], wL st pr aw wa ha la wr n k c5 c6 c7)) ok_m_firstToGrant rfl ?_
  refine aq_icmp_eq ok_m_firstToGrant rfl (fun h => ?_) (fun h => ?_)
  · have hx := oI_m1 h (fun x q => by obtain ⟨-, i, -, -, e⟩ := iqF_in q; have := hla i; omega)
    refine aq_gn (n := 1) (c1 := (30, [some (.ref 0), some (.int (nI o)), some (.int (oI (iqF aw la o 0 k 0 0)))], [.int (-1)], wL st pr aw wa ha la wr n k c5 c6 c7)) ok_m_firstToGrant rfl ?_
    exact aq_ei ok_m_firstToGrant rfl rfl (by unfold ftg; rw [hx]; rfl) rfl
  · obtain ⟨t, hx⟩ := oI_nm1 h
    have ht : t < 60 := by obtain ⟨-, i, -, -, e⟩ := iqF_in hx; have := hla i; omega
    rw [hx]
    have e : ftg aw wa ha la k o = if ow ha t o (oI (wa t)) = 0 then some t else none := by unfold ftg; rw [hx]
    rw [e]
    show AW m_firstToGrant _ _ _ (12, [some (.ref 0), some (.int (nI o)), some (.int (nI t))], [], wL st pr aw wa ha la wr n k c5 c6 c7)
    refine aq_go (n := 7) (c1 := (21, [some (.ref 0), some (.int (nI o)), some (.int (nI t))], [.int (oI (wa (nI t).toNatClampNeg)), .int (nI o), .int (nI t), .ref 0], wL st pr aw wa ha la wr n k c5 c6 c7)) (P := vp_in (nI t) 60) ok_m_firstToGrant rfl (in60 ht) ?_
    rw [cl60 ht]
    refine aq_callV (as := [.int (nI t), .int (nI o), .int (oI (wa t))]) (st := []) ok_m_firstToGrant rfl c0_m_othersInTheWay (am_others ho) rfl (Nat.le_of_ble_eq_true rfl) rfl rfl rfl ?_
    refine aq_gn (n := 2) (c1 := (26, [some (.ref 0), some (.int (nI o)), some (.int (nI t))], [.int (lg_cmp (ow ha t o (oI (wa t))) 0)], wL st pr aw wa ha la wr n k c5 c6 c7)) ok_m_firstToGrant rfl ?_
    refine aq_if_eq ok_m_firstToGrant rfl (fun h3 => ?_) (fun h3 => ?_)
    · have hy := (lg_cmp_0 _ _).mp h3
      refine aq_gn (n := 1) (c1 := (32, [some (.ref 0), some (.int (nI o)), some (.int (nI t))], [.int (nI t)], wL st pr aw wa ha la wr n k c5 c6 c7)) ok_m_firstToGrant rfl ?_
      exact aq_ei ok_m_firstToGrant rfl rfl (by rw [if_pos hy]; rfl) rfl
    · have hy := fun q => h3 ((lg_cmp_0 (ow ha t o (oI (wa t))) 0).mpr q)
      refine aq_gn (n := 1) (c1 := (30, [some (.ref 0), some (.int (nI o)), some (.int (nI t))], [.int (-1)], wL st pr aw wa ha la wr n k c5 c6 c7)) ok_m_firstToGrant rfl ?_
      exact aq_ei ok_m_firstToGrant rfl rfl (by rw [if_neg hy]; rfl) rfl
