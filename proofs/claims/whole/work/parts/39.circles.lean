/-! THE CLASS: circles -/
def rfI (wr : Nat → Int64) : Nat → Nat → Int64 → Int64
  | 0, _, a => a
  | f + 1, i, a => rfI wr f (i + 1) (if lb a i then a ||| wr i else a)
def rfO (wr : Nat → Int64) (n : Nat) : Nat → Int64 → Int64
  | 0, a => a
  | f + 1, a => if rfI wr n 0 a = a then rfI wr n 0 a else rfO wr n f (rfI wr n 0 a)
def rgI (wr : Nat → Int64) : Nat → Nat → Int64 → Int64
  | 0, _, a => a
  | f + 1, i, a => rgI wr f (i + 1) (if wr i &&& a = 0 then a else a ||| lbit i)
def rgO (wr : Nat → Int64) (n : Nat) : Nat → Int64 → Int64
  | 0, a => a
  | f + 1, a => if rgI wr n 0 a = a then rgI wr n 0 a else rgO wr n f (rgI wr n 0 a)
def wkF (pr : Nat → Nat) (c : Int64) : Nat → Nat → Option Nat → Option Nat
  | 0, _, w => w
  | f + 1, t, w => wkF pr c f (t + 1) (if lb c t = true ∧ (∀ u, w = some u → pr t ≤ pr u) then some t else w)
def crF (q : Nat → Int64) : Nat → Nat → (Nat → Int64) → (Nat → Int64)
  | 0, _, r => r
  | f + 1, i, r => crF q f (i + 1) (vp_updL r i (q i))
set_option maxHeartbeats 4000000 in
theorem lp_rf1 {d : Nat} {st pr : Nat → Nat} {aw wa : Nat → Option Nat} {ha : Nat → Int64} {la : Nat → Nat} {wr : Nat → Int64} {n k c5 c6 c7 : Nat} {t r : Nat} {z : Int64} {O : aq_O} {w9 : List va_E} (hn : n ≤ 60) : ∀ (f i : Nat), i + f = n → ∀ a : Int64, AW m_reachedFrom (d + 1) O w9 (60, [some (.ref 0), some (.int (nI t)), some (.long (rfI wr f i a)), none, some (.int (nI r)), some (.long z), none, some (.int (nI n))], [], wL st pr aw wa ha la wr n k c5 c6 c7) → AW m_reachedFrom (d + 1) O w9 (23, [some (.ref 0), some (.int (nI t)), some (.long a), none, some (.int (nI r)), some (.long z), none, some (.int (nI i))], [], wL st pr aw wa ha la wr n k c5 c6 c7) := by
  intro f
  induction f with
  | zero =>
    intro i hif a K
    have e : i = n := by omega
    subst e
    refine aq_gn (n := 3) (c1 := (29, [some (.ref 0), some (.int (nI t)), some (.long a), none, some (.int (nI r)), some (.long z), none, some (.int (nI i))], [.int (nI i), .int (nI i)], wL st pr aw wa ha la wr i k c5 c6 c7)) ok_m_reachedFrom rfl ?_
    refine aq_icmp_ge ok_m_reachedFrom rfl (fun h => ?_) (fun h => ?_)
    · exact K
    · exact absurd (nI_le (Nat.le_refl i) (by omega)) h
  | succ f ih =>
    intro i hif a K
    refine aq_gn (n := 3) (c1 := (29, [some (.ref 0), some (.int (nI t)), some (.long a), none, some (.int (nI r)), some (.long z), none, some (.int (nI i))], [.int (nI n), .int (nI i)], wL st pr aw wa ha la wr n k c5 c6 c7)) ok_m_reachedFrom rfl ?_
    refine aq_icmp_ge ok_m_reachedFrom rfl (fun h => ?_) (fun h => ?_)
    · exact absurd (q_le h (by omega) (by omega)) (by omega)
    · refine aq_gn (n := 2) (c1 := (35, [some (.ref 0), some (.int (nI t)), some (.long a), none, some (.int (nI r)), some (.long z), none, some (.int (nI i))], [.int (nI i), .long a], wL st pr aw wa ha la wr n k c5 c6 c7)) ok_m_reachedFrom rfl ?_
      refine aq_callS (as := [.int (nI i)]) (st := [.long a]) ok_m_reachedFrom rfl c0_m_bit (am_bit i) rfl (Nat.le_of_ble_eq_true rfl) ?_
      refine aq_gn (n := 3) (c1 := (41, [some (.ref 0), some (.int (nI t)), some (.long a), none, some (.int (nI r)), some (.long z), none, some (.int (nI i))], [.int (lg_cmp (a &&& (lbit i)) 0)], wL st pr aw wa ha la wr n k c5 c6 c7)) ok_m_reachedFrom rfl ?_
      refine aq_if_eq ok_m_reachedFrom rfl (fun h2 => ?_) (fun h2 => ?_)
      · have hb : lb a i = false := (lb_bit_and (by omega)).mp ((lg_cmp_0 _ _).mp h2)
        refine aq_gn (n := 2) (c1 := (23, [some (.ref 0), some (.int (nI t)), some (.long a), none, some (.int (nI r)), some (.long z), none, some (.int ((nI i) + 1))], [], wL st pr aw wa ha la wr n k c5 c6 c7)) ok_m_reachedFrom rfl ?_
        rw [nI_1]
        exact ih (i + 1) (by omega) a (by rw [show rfI wr (f + 1) i a = rfI wr f (i + 1) a by simp [rfI, hb]] at K; exact K)
      · have hb : lb a i = true := by cases hx : lb a i with | true => rfl | false => exact absurd ((lg_cmp_0 _ _).mpr ((lb_bit_and (by omega)).mpr hx)) h2
        refine aq_go (n := 9) (c1 := (23, [some (.ref 0), some (.int (nI t)), some (.long (a ||| (wr (nI i).toNatClampNeg))), none, some (.int (nI r)), some (.long z), none, some (.int ((nI i) + 1))], [], wL st pr aw wa ha la wr n k c5 c6 c7)) (P := vp_in (nI i) 60) ok_m_reachedFrom rfl (in60 (by omega)) ?_
        rw [cl60 (show i < 60 by omega), nI_1]
        exact ih (i + 1) (by omega) _ (by rw [show rfI wr (f + 1) i a = rfI wr f (i + 1) (a ||| wr i) by simp [rfI, hb]] at K; exact K)
set_option maxHeartbeats 4000000 in
theorem lp_rg1 {d : Nat} {st pr : Nat → Nat} {aw wa : Nat → Option Nat} {ha : Nat → Int64} {la : Nat → Nat} {wr : Nat → Int64} {n k c5 c6 c7 : Nat} {t r : Nat} {z : Int64} {O : aq_O} {w9 : List va_E} (hn : n ≤ 60) : ∀ (f i : Nat), i + f = n → ∀ a : Int64, AW m_reaching (d + 1) O w9 (58, [some (.ref 0), some (.int (nI t)), some (.long (rgI wr f i a)), none, some (.int (nI r)), some (.long z), none, some (.int (nI n))], [], wL st pr aw wa ha la wr n k c5 c6 c7) → AW m_reaching (d + 1) O w9 (21, [some (.ref 0), some (.int (nI t)), some (.long a), none, some (.int (nI r)), some (.long z), none, some (.int (nI i))], [], wL st pr aw wa ha la wr n k c5 c6 c7) := by
  intro f
  induction f with
  | zero =>
    intro i hif a K
    have e : i = n := by omega
    subst e
    refine aq_gn (n := 3) (c1 := (27, [some (.ref 0), some (.int (nI t)), some (.long a), none, some (.int (nI r)), some (.long z), none, some (.int (nI i))], [.int (nI i), .int (nI i)], wL st pr aw wa ha la wr i k c5 c6 c7)) ok_m_reaching rfl ?_
    refine aq_icmp_ge ok_m_reaching rfl (fun h => ?_) (fun h => ?_)
    · exact K
    · exact absurd (nI_le (Nat.le_refl i) (by omega)) h
  | succ f ih =>
    intro i hif a K
    refine aq_gn (n := 3) (c1 := (27, [some (.ref 0), some (.int (nI t)), some (.long a), none, some (.int (nI r)), some (.long z), none, some (.int (nI i))], [.int (nI n), .int (nI i)], wL st pr aw wa ha la wr n k c5 c6 c7)) ok_m_reaching rfl ?_
    refine aq_icmp_ge ok_m_reaching rfl (fun h => ?_) (fun h => ?_)
    · exact absurd (q_le h (by omega) (by omega)) (by omega)
    · refine aq_go (n := 8) (c1 := (41, [some (.ref 0), some (.int (nI t)), some (.long a), none, some (.int (nI r)), some (.long z), none, some (.int (nI i))], [.int (lg_cmp ((wr (nI i).toNatClampNeg) &&& a) 0)], wL st pr aw wa ha la wr n k c5 c6 c7)) (P := vp_in (nI i) 60) ok_m_reaching rfl (in60 (by omega)) ?_
      rw [cl60 (show i < 60 by omega)]
      refine aq_if_eq ok_m_reaching rfl (fun h2 => ?_) (fun h2 => ?_)
      · have hb := (lg_cmp_0 _ _).mp h2
        refine aq_gn (n := 2) (c1 := (21, [some (.ref 0), some (.int (nI t)), some (.long a), none, some (.int (nI r)), some (.long z), none, some (.int ((nI i) + 1))], [], wL st pr aw wa ha la wr n k c5 c6 c7)) ok_m_reaching rfl ?_
        rw [nI_1]
        exact ih (i + 1) (by omega) a (by rw [show rgI wr (f + 1) i a = rgI wr f (i + 1) a by simp [rgI, hb]] at K; exact K)
      · have hb : ¬ wr i &&& a = 0 := fun q => h2 ((lg_cmp_0 _ _).mpr q)
        refine aq_gn (n := 2) (c1 := (47, [some (.ref 0), some (.int (nI t)), some (.long a), none, some (.int (nI r)), some (.long z), none, some (.int (nI i))], [.int (nI i), .long a], wL st pr aw wa ha la wr n k c5 c6 c7)) ok_m_reaching rfl ?_
        refine aq_callS (as := [.int (nI i)]) (st := [.long a]) ok_m_reaching rfl c0_m_bit (am_bit i) rfl (Nat.le_of_ble_eq_true rfl) ?_
        refine aq_gn (n := 4) (c1 := (21, [some (.ref 0), some (.int (nI t)), some (.long (a ||| (lbit i))), none, some (.int (nI r)), some (.long z), none, some (.int ((nI i) + 1))], [], wL st pr aw wa ha la wr n k c5 c6 c7)) ok_m_reaching rfl ?_
        rw [nI_1]
        exact ih (i + 1) (by omega) _ (by rw [show rgI wr (f + 1) i a = rgI wr f (i + 1) (a ||| lbit i) by simp [rgI, hb]] at K; exact K)
set_option maxHeartbeats 4000000 in
theorem lp_rf {d : Nat} {st pr : Nat → Nat} {aw wa : Nat → Option Nat} {ha : Nat → Int64} {la : Nat → Nat} {wr : Nat → Int64} {n k c5 c6 c7 : Nat} {t : Nat} (hn : n ≤ 60) : ∀ (f i : Nat), i + f = 60 → ∀ a : Int64,  AW m_reachedFrom (d + 1) (.inl (some (.long (rfO wr n f a)))) (wL st pr aw wa ha la wr n k c5 c6 c7) (10, [some (.ref 0), some (.int (nI t)), some (.long a), none, some (.int (nI i)), none, none, none], [], wL st pr aw wa ha la wr n k c5 c6 c7) := by
  intro f
  induction f with
  | zero =>
    intro i hif a
    refine aq_gn (n := 2) (c1 := (14, [some (.ref 0), some (.int (nI t)), some (.long a), none, some (.int (nI i)), none, none, none], [.int (nI 60), .int (nI i)], wL st pr aw wa ha la wr n k c5 c6 c7)) ok_m_reachedFrom rfl ?_
    refine aq_icmp_ge ok_m_reachedFrom rfl (fun h => ?_) (fun h => ?_)
    · refine aq_gn (n := 1) (c1 := (77, [some (.ref 0), some (.int (nI t)), some (.long a), none, some (.int (nI i)), none, none, none], [.long a], wL st pr aw wa ha la wr n k c5 c6 c7)) ok_m_reachedFrom rfl ?_
      exact aq_el ok_m_reachedFrom rfl rfl rfl rfl
    · exact absurd (nI_le (show 60 ≤ i by omega) (by omega)) h
  | succ f ih =>
    intro i hif a
    refine aq_gn (n := 2) (c1 := (14, [some (.ref 0), some (.int (nI t)), some (.long a), none, some (.int (nI i)), none, none, none], [.int (nI 60), .int (nI i)], wL st pr aw wa ha la wr n k c5 c6 c7)) ok_m_reachedFrom rfl ?_
    refine aq_icmp_ge ok_m_reachedFrom rfl (fun h => ?_) (fun h => ?_)
    · exact absurd (q_le h (by omega) (by omega)) (by omega)
    · refine aq_gn (n := 4) (c1 := (23, [some (.ref 0), some (.int (nI t)), some (.long a), none, some (.int (nI i)), some (.long a), none, some (.int (nI 0))], [], wL st pr aw wa ha la wr n k c5 c6 c7)) ok_m_reachedFrom rfl ?_
      refine lp_rf1 (t := t) (r := i) (z := a) hn n 0 (by omega) a ?_
      refine aq_gn (n := 3) (c1 := (64, [some (.ref 0), some (.int (nI t)), some (.long (rfI wr n 0 a)), none, some (.int (nI i)), some (.long a), none, some (.int (nI n))], [.int (lg_cmp (rfI wr n 0 a) a)], wL st pr aw wa ha la wr n k c5 c6 c7)) ok_m_reachedFrom rfl ?_
      refine aq_if_ne ok_m_reachedFrom rfl (fun h2 => ?_) (fun h2 => ?_)
      · have hb : ¬ rfI wr n 0 a = a := fun q => h2 ((lg_cmp_0 _ _).mpr q)
        refine aq_gn (n := 2) (c1 := (10, [some (.ref 0), some (.int (nI t)), some (.long (rfI wr n 0 a)), none, some (.int ((nI i) + 1)), some (.long a), none, some (.int (nI n))], [], wL st pr aw wa ha la wr n k c5 c6 c7)) ok_m_reachedFrom rfl ?_
        rw [nI_1]
        have e : rfO wr n (f + 1) a = rfO wr n f (rfI wr n 0 a) := by rw [rfO, if_neg hb]
        rw [e]
        refine aq_drop 5 (aq_drop 7 ?_)
        exact ih (i + 1) (by omega) _
      · have hb := (lg_cmp_0 _ _).mp h2
        refine aq_gn (n := 2) (c1 := (77, [some (.ref 0), some (.int (nI t)), some (.long (rfI wr n 0 a)), none, some (.int (nI i)), some (.long a), none, some (.int (nI n))], [.long (rfI wr n 0 a)], wL st pr aw wa ha la wr n k c5 c6 c7)) ok_m_reachedFrom rfl ?_
        exact aq_el ok_m_reachedFrom rfl rfl (by rw [rfO, if_pos hb]) rfl
set_option maxHeartbeats 4000000 in
theorem lp_rg {d : Nat} {st pr : Nat → Nat} {aw wa : Nat → Option Nat} {ha : Nat → Int64} {la : Nat → Nat} {wr : Nat → Int64} {n k c5 c6 c7 : Nat} {t : Nat} (hn : n ≤ 60) : ∀ (f i : Nat), i + f = 60 → ∀ a : Int64,  AW m_reaching (d + 1) (.inl (some (.long (rgO wr n f a)))) (wL st pr aw wa ha la wr n k c5 c6 c7) (8, [some (.ref 0), some (.int (nI t)), some (.long a), none, some (.int (nI i)), none, none, none], [], wL st pr aw wa ha la wr n k c5 c6 c7) := by
  intro f
  induction f with
  | zero =>
    intro i hif a
    refine aq_gn (n := 2) (c1 := (12, [some (.ref 0), some (.int (nI t)), some (.long a), none, some (.int (nI i)), none, none, none], [.int (nI 60), .int (nI i)], wL st pr aw wa ha la wr n k c5 c6 c7)) ok_m_reaching rfl ?_
    refine aq_icmp_ge ok_m_reaching rfl (fun h => ?_) (fun h => ?_)
    · refine aq_gn (n := 1) (c1 := (75, [some (.ref 0), some (.int (nI t)), some (.long a), none, some (.int (nI i)), none, none, none], [.long a], wL st pr aw wa ha la wr n k c5 c6 c7)) ok_m_reaching rfl ?_
      exact aq_el ok_m_reaching rfl rfl rfl rfl
    · exact absurd (nI_le (show 60 ≤ i by omega) (by omega)) h
  | succ f ih =>
    intro i hif a
    refine aq_gn (n := 2) (c1 := (12, [some (.ref 0), some (.int (nI t)), some (.long a), none, some (.int (nI i)), none, none, none], [.int (nI 60), .int (nI i)], wL st pr aw wa ha la wr n k c5 c6 c7)) ok_m_reaching rfl ?_
    refine aq_icmp_ge ok_m_reaching rfl (fun h => ?_) (fun h => ?_)
    · exact absurd (q_le h (by omega) (by omega)) (by omega)
    · refine aq_gn (n := 4) (c1 := (21, [some (.ref 0), some (.int (nI t)), some (.long a), none, some (.int (nI i)), some (.long a), none, some (.int (nI 0))], [], wL st pr aw wa ha la wr n k c5 c6 c7)) ok_m_reaching rfl ?_
      refine lp_rg1 (t := t) (r := i) (z := a) hn n 0 (by omega) a ?_
      refine aq_gn (n := 3) (c1 := (62, [some (.ref 0), some (.int (nI t)), some (.long (rgI wr n 0 a)), none, some (.int (nI i)), some (.long a), none, some (.int (nI n))], [.int (lg_cmp (rgI wr n 0 a) a)], wL st pr aw wa ha la wr n k c5 c6 c7)) ok_m_reaching rfl ?_
      refine aq_if_ne ok_m_reaching rfl (fun h2 => ?_) (fun h2 => ?_)
      · have hb : ¬ rgI wr n 0 a = a := fun q => h2 ((lg_cmp_0 _ _).mpr q)
        refine aq_gn (n := 2) (c1 := (8, [some (.ref 0), some (.int (nI t)), some (.long (rgI wr n 0 a)), none, some (.int ((nI i) + 1)), some (.long a), none, some (.int (nI n))], [], wL st pr aw wa ha la wr n k c5 c6 c7)) ok_m_reaching rfl ?_
        rw [nI_1]
        have e : rgO wr n (f + 1) a = rgO wr n f (rgI wr n 0 a) := by rw [rgO, if_neg hb]
        rw [e]
        refine aq_drop 5 (aq_drop 7 ?_)
        exact ih (i + 1) (by omega) _
      · have hb := (lg_cmp_0 _ _).mp h2
        refine aq_gn (n := 2) (c1 := (75, [some (.ref 0), some (.int (nI t)), some (.long (rgI wr n 0 a)), none, some (.int (nI i)), some (.long a), none, some (.int (nI n))], [.long (rgI wr n 0 a)], wL st pr aw wa ha la wr n k c5 c6 c7)) ok_m_reaching rfl ?_
        exact aq_el ok_m_reaching rfl rfl (by rw [rgO, if_pos hb]) rfl
set_option maxHeartbeats 4000000 in
theorem am_reachedFrom {d : Nat} {st pr : Nat → Nat} {aw wa : Nat → Option Nat} {ha : Nat → Int64} {la : Nat → Nat} {wr : Nat → Int64} {n k c5 c6 c7 : Nat} {t : Nat} (ht : t < 60) (hn : n ≤ 60) : AM m_reachedFrom (d + 1) (.inl (some (.long (rfO wr n 60 (wr t))))) [.ref 0, .int (nI t)] (wL st pr aw wa ha la wr n k c5 c6 c7) (wL st pr aw wa ha la wr n k c5 c6 c7) := by
  refine aq_enter pl_m_reachedFrom (Nat.le_of_ble_eq_true rfl) ?_
  refine aq_go (n := 7) (c1 := (10, [some (.ref 0), some (.int (nI t)), some (.long (wr (nI t).toNatClampNeg)), none, some (.int (nI 0)), none, none, none], [], wL st pr aw wa ha la wr n k c5 c6 c7)) (P := vp_in (nI t) 60) ok_m_reachedFrom rfl (in60 ht) ?_
  rw [cl60 ht]
  exact lp_rf hn 60 0 rfl _
set_option maxHeartbeats 4000000 in
theorem am_reaching {d : Nat} {st pr : Nat → Nat} {aw wa : Nat → Option Nat} {ha : Nat → Int64} {la : Nat → Nat} {wr : Nat → Int64} {n k c5 c6 c7 : Nat} {t : Nat} (hn : n ≤ 60) : AM m_reaching (d + 1) (.inl (some (.long (rgO wr n 60 (lbit t))))) [.ref 0, .int (nI t)] (wL st pr aw wa ha la wr n k c5 c6 c7) (wL st pr aw wa ha la wr n k c5 c6 c7) := by
  refine aq_enter pl_m_reaching (Nat.le_of_ble_eq_true rfl) ?_
  refine aq_gn (n := 1) (c1 := (1, [some (.ref 0), some (.int (nI t)), none, none, none, none, none, none], [.int (nI t)], wL st pr aw wa ha la wr n k c5 c6 c7)) ok_m_reaching rfl ?_
  refine aq_callS (as := [.int (nI t)]) (st := []) ok_m_reaching rfl c0_m_bit (am_bit t) rfl (Nat.le_of_ble_eq_true rfl) ?_
  refine aq_gn (n := 3) (c1 := (8, [some (.ref 0), some (.int (nI t)), some (.long (lbit t)), none, some (.int (nI 0)), none, none, none], [], wL st pr aw wa ha la wr n k c5 c6 c7)) ok_m_reaching rfl ?_
  exact lp_rg hn 60 0 rfl _
set_option maxHeartbeats 4000000 in
theorem lp_weakest {d : Nat} {st pr : Nat → Nat} {aw wa : Nat → Option Nat} {ha : Nat → Int64} {la : Nat → Nat} {wr : Nat → Int64} {n k c5 c6 c7 : Nat} {c : Int64} (hn : n ≤ 60) (hpr : ∀ t, pr t < 100) : ∀ (f i : Nat), i + f = n → ∀ w : Option Nat, (∀ u, w = some u → u < i) → AW m_weakestOf (d + 1) (.inl (some (.int (oI (wkF pr c f i w))))) (wL st pr aw wa ha la wr n k c5 c6 c7) (5, [some (.ref 0), some (.long c), none, some (.int (oI w)), some (.int (nI i))], [], wL st pr aw wa ha la wr n k c5 c6 c7) := by
  intro f
  induction f with
  | zero =>
    intro i hif w hw
    refine aq_gn (n := 3) (c1 := (11, [some (.ref 0), some (.long c), none, some (.int (oI w)), some (.int (nI i))], [.int (nI n), .int (nI i)], wL st pr aw wa ha la wr n k c5 c6 c7)) ok_m_weakestOf rfl ?_
    refine aq_icmp_ge ok_m_weakestOf rfl (fun h => ?_) (fun h => ?_)
    · refine aq_gn (n := 1) (c1 := (57, [some (.ref 0), some (.long c), none, some (.int (oI w)), some (.int (nI i))], [.int (oI w)], wL st pr aw wa ha la wr n k c5 c6 c7)) ok_m_weakestOf rfl ?_
      exact aq_ei ok_m_weakestOf rfl rfl rfl rfl
    · exact absurd (nI_le (show n ≤ i by omega) (by omega)) h
  | succ f ih =>
    intro i hif w hw
    refine aq_gn (n := 3) (c1 := (11, [some (.ref 0), some (.long c), none, some (.int (oI w)), some (.int (nI i))], [.int (nI n), .int (nI i)], wL st pr aw wa ha la wr n k c5 c6 c7)) ok_m_weakestOf rfl ?_
    refine aq_icmp_ge ok_m_weakestOf rfl (fun h => ?_) (fun h => ?_)
    · exact absurd (q_le h (by omega) (by omega)) (by omega)
    · refine aq_gn (n := 2) (c1 := (17, [some (.ref 0), some (.long c), none, some (.int (oI w)), some (.int (nI i))], [.int (nI i), .long c], wL st pr aw wa ha la wr n k c5 c6 c7)) ok_m_weakestOf rfl ?_
      refine aq_callS (as := [.int (nI i)]) (st := [.long c]) ok_m_weakestOf rfl c0_m_bit (am_bit i) rfl (Nat.le_of_ble_eq_true rfl) ?_
      refine aq_gn (n := 3) (c1 := (23, [some (.ref 0), some (.long c), none, some (.int (oI w)), some (.int (nI i))], [.int (lg_cmp (c &&& (lbit i)) 0)], wL st pr aw wa ha la wr n k c5 c6 c7)) ok_m_weakestOf rfl ?_
      refine aq_if_eq ok_m_weakestOf rfl (fun h2 => ?_) (fun h2 => ?_)
      · have hb : lb c i = false := (lb_bit_and (by omega)).mp ((lg_cmp_0 _ _).mp h2)
        refine aq_gn (n := 2) (c1 := (5, [some (.ref 0), some (.long c), none, some (.int (oI w)), some (.int ((nI i) + 1))], [], wL st pr aw wa ha la wr n k c5 c6 c7)) ok_m_weakestOf rfl ?_
        rw [nI_1]
        have e : wkF pr c (f + 1) i w = wkF pr c f (i + 1) w := by simp [wkF, hb]
        rw [e]
        exact ih (i + 1) (by omega) w (fun u q => Nat.lt_succ_of_lt (hw u q))
      · have hb : lb c i = true := by cases hx : lb c i with | true => rfl | false => exact absurd ((lg_cmp_0 _ _).mpr ((lb_bit_and (by omega)).mpr hx)) h2
        refine aq_gn (n := 2) (c1 := (28, [some (.ref 0), some (.long c), none, some (.int (oI w)), some (.int (nI i))], [.int (-1), .int (oI w)], wL st pr aw wa ha la wr n k c5 c6 c7)) ok_m_weakestOf rfl ?_
        refine aq_icmp_eq ok_m_weakestOf rfl (fun h3 => ?_) (fun h3 => ?_)
        · have hx := oI_m1 h3 (fun x q => by have := hw x q; omega)
          refine aq_gn (n := 4) (c1 := (5, [some (.ref 0), some (.long c), none, some (.int (nI i)), some (.int ((nI i) + 1))], [], wL st pr aw wa ha la wr n k c5 c6 c7)) ok_m_weakestOf rfl ?_
          rw [nI_1]
          have e : wkF pr c (f + 1) i w = wkF pr c f (i + 1) (some i) := by rw [wkF, if_pos ⟨hb, fun u q => by rw [hx] at q; cases q⟩]
          rw [e]
          exact ih (i + 1) (by omega) (some i) (fun u q => by cases q; omega)
        · obtain ⟨u, hx⟩ := oI_nm1 h3
          have hu := hw u hx
          subst hx
          show AW m_weakestOf _ _ _ (31, [some (.ref 0), some (.long c), none, some (.int (nI u)), some (.int (nI i))], [], wL st pr aw wa ha la wr n k c5 c6 c7)
          refine aq_go (n := 8) (c1 := (44, [some (.ref 0), some (.long c), none, some (.int (nI u)), some (.int (nI i))], [.int (nI (pr (nI u).toNatClampNeg)), .int (nI (pr (nI i).toNatClampNeg))], wL st pr aw wa ha la wr n k c5 c6 c7)) (P := vp_in (nI i) 60 ∧ vp_in (nI u) 60) ok_m_weakestOf rfl ⟨(in60 (by omega)), (in60 (by omega))⟩ ?_
          rw [cl60 (show i < 60 by omega), cl60 (show u < 60 by omega)]
          refine aq_icmp_gt ok_m_weakestOf rfl (fun h4 => ?_) (fun h4 => ?_)
          · have hy := q_lt h4 (by have := hpr u; omega) (by have := hpr i; omega)
            refine aq_gn (n := 2) (c1 := (5, [some (.ref 0), some (.long c), none, some (.int (nI u)), some (.int ((nI i) + 1))], [], wL st pr aw wa ha la wr n k c5 c6 c7)) ok_m_weakestOf rfl ?_
            rw [nI_1]
            have e : wkF pr c (f + 1) i (some u) = wkF pr c f (i + 1) (some u) := by rw [wkF, if_neg (fun q => by have := q.2 u rfl; omega)]
            rw [e]
            exact ih (i + 1) (by omega) (some u) (fun v q => by cases q; omega)
          · have hy := q_nlt h4 (by have := hpr u; omega) (by have := hpr i; omega)
            refine aq_gn (n := 4) (c1 := (5, [some (.ref 0), some (.long c), none, some (.int (nI i)), some (.int ((nI i) + 1))], [], wL st pr aw wa ha la wr n k c5 c6 c7)) ok_m_weakestOf rfl ?_
            rw [nI_1]
            have e : wkF pr c (f + 1) i (some u) = wkF pr c f (i + 1) (some i) := by rw [wkF, if_pos ⟨hb, fun v q => by cases q; exact hy⟩]
            rw [e]
            exact ih (i + 1) (by omega) (some i) (fun v q => by cases q; omega)
set_option maxHeartbeats 4000000 in
theorem am_weakest {d : Nat} {st pr : Nat → Nat} {aw wa : Nat → Option Nat} {ha : Nat → Int64} {la : Nat → Nat} {wr : Nat → Int64} {n k c5 c6 c7 : Nat} {c : Int64} (hn : n ≤ 60) (hpr : ∀ t, pr t < 100) : AM m_weakestOf (d + 1) (.inl (some (.int (oI (wkF pr c n 0 none))))) [.ref 0, .long c] (wL st pr aw wa ha la wr n k c5 c6 c7) (wL st pr aw wa ha la wr n k c5 c6 c7) := by
  refine aq_enter pl_m_weakestOf (Nat.le_of_ble_eq_true rfl) ?_
  refine aq_gn (n := 4) (c1 := (5, [some (.ref 0), some (.long c), none, some (.int (-1)), some (.int (nI 0))], [], wL st pr aw wa ha la wr n k c5 c6 c7)) ok_m_weakestOf rfl ?_
  exact lp_weakest hn hpr n 0 (by omega) none (fun u q => by cases q)
set_option maxHeartbeats 4000000 in
theorem lp_circle {d : Nat} {st pr : Nat → Nat} {aw wa : Nat → Option Nat} {ha : Nat → Int64} {la : Nat → Nat} {n k c5 c6 c7 : Nat} {t : Nat} (ht : t < 60) (hn : n ≤ 60) (hk : k ≤ 60) (hla : ∀ i, la i < 60) (haw : ∀ t x, aw t = some x → x < 85) : ∀ (f i : Nat), i + f = n → ∀ r : Nat → Int64,  AW m_circleOf (d + 3) (.inl (some (.long (rfO (crF (wrw aw wa ha la k) f i r) n 60 (crF (wrw aw wa ha la k) f i r t) &&& rgO (crF (wrw aw wa ha la k) f i r) n 60 (lbit t))))) (wL st pr aw wa ha la (crF (wrw aw wa ha la k) f i r) n k c5 c6 c7) (2, [some (.ref 0), some (.int (nI t)), some (.int (nI i))], [], wL st pr aw wa ha la r n k c5 c6 c7) := by
  intro f
  induction f with
  | zero =>
    intro i hif r
    refine aq_gn (n := 3) (c1 := (7, [some (.ref 0), some (.int (nI t)), some (.int (nI i))], [.int (nI n), .int (nI i)], wL st pr aw wa ha la r n k c5 c6 c7)) ok_m_circleOf rfl ?_
    refine aq_icmp_ge ok_m_circleOf rfl (fun h => ?_) (fun h => ?_)
    · refine aq_gn (n := 2) (c1 := (29, [some (.ref 0), some (.int (nI t)), some (.int (nI i))], [.int (nI t), .ref 0], wL st pr aw wa ha la r n k c5 c6 c7)) ok_m_circleOf rfl ?_
      refine aq_callV (as := [.int (nI t)]) (st := []) ok_m_circleOf rfl c0_m_reachedFrom (am_reachedFrom ht hn) rfl (Nat.le_of_ble_eq_true rfl) rfl rfl rfl ?_
      refine aq_gn (n := 2) (c1 := (34, [some (.ref 0), some (.int (nI t)), some (.int (nI i))], [.int (nI t), .ref 0, .long (rfO r n 60 (r t))], wL st pr aw wa ha la r n k c5 c6 c7)) ok_m_circleOf rfl ?_
      refine aq_callV (as := [.int (nI t)]) (st := [.long (rfO r n 60 (r t))]) ok_m_circleOf rfl c0_m_reaching (am_reaching hn) rfl (Nat.le_of_ble_eq_true rfl) rfl rfl rfl ?_
      refine aq_gn (n := 1) (c1 := (38, [some (.ref 0), some (.int (nI t)), some (.int (nI i))], [.long ((rfO r n 60 (r t)) &&& (rgO r n 60 (lbit t)))], wL st pr aw wa ha la r n k c5 c6 c7)) ok_m_circleOf rfl ?_
      exact aq_el ok_m_circleOf rfl rfl rfl rfl
    · exact absurd (nI_le (show n ≤ i by omega) (by omega)) h
  | succ f ih =>
    intro i hif r
    refine aq_gn (n := 3) (c1 := (7, [some (.ref 0), some (.int (nI t)), some (.int (nI i))], [.int (nI n), .int (nI i)], wL st pr aw wa ha la r n k c5 c6 c7)) ok_m_circleOf rfl ?_
    refine aq_icmp_ge ok_m_circleOf rfl (fun h => ?_) (fun h => ?_)
    · exact absurd (q_le h (by omega) (by omega)) (by omega)
    · refine aq_gn (n := 5) (c1 := (17, [some (.ref 0), some (.int (nI t)), some (.int (nI i))], [.int (nI i), .ref 0, .int (nI i), .ref 7], wL st pr aw wa ha la r n k c5 c6 c7)) ok_m_circleOf rfl ?_
      refine aq_callV (as := [.int (nI i)]) (st := [.int (nI i), .ref 7]) ok_m_circleOf rfl c0_m_waitRow (am_waitRow (show i < 60 by omega) hk hla haw) rfl (Nat.le_of_ble_eq_true rfl) rfl rfl rfl ?_
      refine aq_go (n := 3) (c1 := (2, [some (.ref 0), some (.int (nI t)), some (.int ((nI i) + 1))], [], wR (fun i => nI (st i)) (fun i => nI (pr i)) (fun i => oI (aw i)) (fun i => oI (wa i)) ha (fun i => nI (la i)) (vp_updL (r) (nI i).toNatClampNeg (wrw aw wa ha la k i)) (nI n) (nI k) (nI c5) (nI c6) (nI c7))) (P := vp_in (nI i) 60) ok_m_circleOf rfl (in60 (by omega)) ?_
      rw [cl60 (show i < 60 by omega), nI_1]
      exact ih (i + 1) (by omega) _
set_option maxHeartbeats 4000000 in
theorem am_circle {d : Nat} {st pr : Nat → Nat} {aw wa : Nat → Option Nat} {ha : Nat → Int64} {la : Nat → Nat} {wr : Nat → Int64} {n k c5 c6 c7 : Nat} {t : Nat} (ht : t < 60) (hn : n ≤ 60) (hk : k ≤ 60) (hla : ∀ i, la i < 60) (haw : ∀ t x, aw t = some x → x < 85) : AM m_circleOf (d + 3) (.inl (some (.long (rfO (crF (wrw aw wa ha la k) n 0 wr) n 60 (crF (wrw aw wa ha la k) n 0 wr t) &&& rgO (crF (wrw aw wa ha la k) n 0 wr) n 60 (lbit t))))) [.ref 0, .int (nI t)] (wL st pr aw wa ha la wr n k c5 c6 c7) (wL st pr aw wa ha la (crF (wrw aw wa ha la k) n 0 wr) n k c5 c6 c7) := by
  refine aq_enter pl_m_circleOf (Nat.le_of_ble_eq_true rfl) ?_
  refine aq_gn (n := 2) (c1 := (2, [some (.ref 0), some (.int (nI t)), some (.int (nI 0))], [], wL st pr aw wa ha la wr n k c5 c6 c7)) ok_m_circleOf rfl ?_
  exact lp_circle ht hn hk hla haw n 0 (by omega) wr
