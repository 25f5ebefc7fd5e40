/-! THE CLASS: who holds what -/
set_option maxHeartbeats 4000000 in
theorem lp_heldMode {d : Nat} {st pr : Nat → Nat} {aw wa : Nat → Option Nat} {ha : Nat → Int64} {la : Nat → Nat} {wr : Nat → Int64} {n k c5 c6 c7 : Nat} {t o : Nat} (ht : t < 60) (ho : o < 85) : ∀ (f m : Nat), m + f = 5 → AW m_heldMode (d + 1) (.inl (some (.int (oI (hmF ha t o f m))))) (wL st pr aw wa ha la wr n k c5 c6 c7) (2, [some (.ref 0), some (.int (nI t)), some (.int (nI o)), some (.int (nI m))], [], wL st pr aw wa ha la wr n k c5 c6 c7) := by
  intro f
  induction f with
  | zero =>
    intro m hmf
    have e : m = 5 := by omega
    subst e
    refine aq_gn (n := 2) (c1 := (4, [some (.ref 0), some (.int (nI t)), some (.int (nI o)), some (.int (nI 5))], [.int (nI 5), .int (nI 5)], wL st pr aw wa ha la wr n k c5 c6 c7)) ok_m_heldMode rfl ?_
    refine aq_icmp_ge ok_m_heldMode rfl (fun h => ?_) (fun h => ?_)
    · refine aq_gn (n := 1) (c1 := (36, [some (.ref 0), some (.int (nI t)), some (.int (nI o)), some (.int (nI 5))], [.int (-1)], wL st pr aw wa ha la wr n k c5 c6 c7)) ok_m_heldMode rfl ?_
      exact aq_ei ok_m_heldMode rfl rfl rfl rfl
    · exact absurd (nI_le (Nat.le_refl 5) (by omega)) h
  | succ f ih =>
    intro m hmf
    refine aq_gn (n := 2) (c1 := (4, [some (.ref 0), some (.int (nI t)), some (.int (nI o)), some (.int (nI m))], [.int (nI 5), .int (nI m)], wL st pr aw wa ha la wr n k c5 c6 c7)) ok_m_heldMode rfl ?_
    refine aq_icmp_ge ok_m_heldMode rfl (fun h => ?_) (fun h => ?_)
    · exact absurd (q_le h (by omega) (by omega)) (by omega)
    · refine aq_go (n := 9) (c1 := (18, [some (.ref 0), some (.int (nI t)), some (.int (nI o)), some (.int (nI m))], [.int (nI t), .long (ha (((nI o) * (nI 5)) + (nI m)).toNatClampNeg)], wL st pr aw wa ha la wr n k c5 c6 c7)) (P := vp_in (((nI o) * (nI 5)) + (nI m)) 425) ok_m_heldMode rfl (in5 ho (by omega)) ?_
      rw [cl5 ho (show m < 5 by omega)]
      refine aq_callS (as := [.int (nI t)]) (st := [.long (ha (o * 5 + m))]) ok_m_heldMode rfl c0_m_bit (am_bit t) rfl (Nat.le_of_ble_eq_true rfl) ?_
      refine aq_gn (n := 3) (c1 := (24, [some (.ref 0), some (.int (nI t)), some (.int (nI o)), some (.int (nI m))], [.int (lg_cmp ((ha (o * 5 + m)) &&& (lbit t)) 0)], wL st pr aw wa ha la wr n k c5 c6 c7)) ok_m_heldMode rfl ?_
      refine aq_if_eq ok_m_heldMode rfl (fun h2 => ?_) (fun h2 => ?_)
      · have hb : lb (ha (o * 5 + m)) t = false := (lb_bit_and (by omega)).mp ((lg_cmp_0 _ _).mp h2)
        refine aq_gn (n := 2) (c1 := (2, [some (.ref 0), some (.int (nI t)), some (.int (nI o)), some (.int ((nI m) + 1))], [], wL st pr aw wa ha la wr n k c5 c6 c7)) ok_m_heldMode rfl ?_
        rw [nI_1]
        have e : hmF ha t o (f + 1) m = hmF ha t o f (m + 1) := by rw [hmF, hb]; rfl
        rw [e]
        exact ih (m + 1) (by omega)
      · have hb : lb (ha (o * 5 + m)) t = true := by
          cases hx : lb (ha (o * 5 + m)) t with
          | true => rfl
          | false => exact absurd ((lg_cmp_0 _ _).mpr ((lb_bit_and (by omega)).mpr hx)) h2
        refine aq_gn (n := 1) (c1 := (28, [some (.ref 0), some (.int (nI t)), some (.int (nI o)), some (.int (nI m))], [.int (nI m)], wL st pr aw wa ha la wr n k c5 c6 c7)) ok_m_heldMode rfl ?_
        exact aq_ei ok_m_heldMode rfl rfl (by rw [hmF, hb]; rfl) rfl
set_option maxHeartbeats 4000000 in
theorem am_heldMode {d : Nat} {st pr : Nat → Nat} {aw wa : Nat → Option Nat} {ha : Nat → Int64} {la : Nat → Nat} {wr : Nat → Int64} {n k c5 c6 c7 : Nat} {t o : Nat} (ht : t < 60) (ho : o < 85) : AM m_heldMode (d + 1) (.inl (some (.int (oI (hm ha t o))))) [.ref 0, .int (nI t), .int (nI o)] (wL st pr aw wa ha la wr n k c5 c6 c7) (wL st pr aw wa ha la wr n k c5 c6 c7) := by
  refine aq_enter pl_m_heldMode (Nat.le_of_ble_eq_true rfl) ?_
  refine aq_gn (n := 2) (c1 := (2, [some (.ref 0), some (.int (nI t)), some (.int (nI o)), some (.int (nI 0))], [], wL st pr aw wa ha la wr n k c5 c6 c7)) ok_m_heldMode rfl ?_
  exact lp_heldMode ht ho 5 0 rfl
