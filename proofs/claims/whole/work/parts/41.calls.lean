/-! THE CLASS: lock, commit, abort -/
theorem shF_lt : ∀ (f i : Nat) (l : Nat → Nat), (∀ x, l x < 60) → ∀ x, shF f i l x < 60 := by
  intro f
  induction f with
  | zero => intro i l h x; exact h x
  | succ f ih => intro i l h x; exact ih _ _ (va_up_lt h (h _)) x
/-- a request comes to the line -/
def jn (S : LSt) (t o m : Nat) : LSt := (s_st S, s_pr S, va_up (s_aw S) t (some o), va_up (s_wa S) t (some m), s_ha S, va_up (shF (s_k S - plc (s_aw S) (s_ha S) (s_la S) (s_k S) t o) (s_k S) (s_la S)) (plc (s_aw S) (s_ha S) (s_la S) (s_k S) t o) t, s_wr S, s_n S, s_k S + 1, s_c5 S, s_c6 S, s_c7 S)
theorem va_up_or {l : Nat → Option Nat} {j t x y : Nat} (h : va_up l j (some y) t = some x) : x = y ∨ l t = some x := by
  unfold va_up at h
  split at h
  · cases h; exact Or.inl rfl
  · exact Or.inr h
theorem WF_jn {S : LSt} (h : WF S) {t o m : Nat} (ht : t < 60) (ho : o < 85) (hm : m < 5) (hk : s_k S < 60) : WF (jn S t o m) := by
  obtain ⟨h1, h2, h3, h4, h5, h6, h7, h8⟩ := h
  refine ⟨fun x => va_up_lt (shF_lt _ _ _ h1) ht x, hk, h3, fun u y q => ?_, fun u y q => ?_, fun u y q => ?_, h7, h8⟩
  · rcases va_up_or q with rfl | q
    · exact ho
    · exact h4 u y q
  · rcases va_up_or q with rfl | q
    · exact hm
    · exact h5 u y q
  · show ∃ m', va_up (s_wa S) t (some m) u = some m'
    have q : va_up (s_aw S) t (some o) u = some y := q
    unfold va_up at q ⊢
    split
    · exact ⟨m, rfl⟩
    · rename_i hne
      rw [if_neg hne] at q
      exact h6 u y q
def lk3 (S : LSt) (t : Nat) : LSt := match s_aw S t with
  | none => S
  | some _ => bcF t 60 (s_sl S t 1)
theorem WF_lk3 {S : LSt} (h : WF S) (t : Nat) : WF (lk3 S t) := by
  unfold lk3
  split
  · exact h
  · exact WF_bcF _ _ (WF_sl h _ _ (by omega))
def ans (S : LSt) (t : Nat) : Int32 := if s_st S t = 0 then (1 : Int32) else if s_st S t = 1 then 0 else -1
def lkS (S : LSt) (t o m : Nat) : LSt := lk3 (sv (jn S t o (lub (hm (s_ha S) t o) m)) o).1 t
def lk (S : LSt) (t o m : Nat) : LSt × Int32 := if hm (s_ha S) t o = some (lub (hm (s_ha S) t o) m) then (S, 1) else (lkS S t o m, ans (lkS S t o m) t)
set_option maxHeartbeats 4000000 in
theorem am_chkTS {d : Nat} {S : LSt} {t : Nat} (h : WF S) (ht : t < s_n S) : AM m_checkTransaction d (.inl none) [.ref 0, .int (nI t)] (wS S) (wS S) := am_chkT ht h.2.2.1
set_option maxHeartbeats 4000000 in
theorem am_chkTS_x {d : Nat} {S : LSt} {x : Int32} (hx : x < 0 ∨ nI (s_n S) ≤ x) : AM m_checkTransaction d (.inr 0) [.ref 0, .int x] (wS S) (wS S) := am_chkT_x hx
set_option maxHeartbeats 4000000 in
theorem am_chkAS {d : Nat} {S : LSt} {t : Nat} (ht : t < 60) (hs : s_st S t = 0) : AM m_checkActive d (.inl none) [.ref 0, .int (nI t)] (wS S) (wS S) := am_chkA ht hs
set_option maxHeartbeats 4000000 in
theorem am_chkAS_x {d : Nat} {S : LSt} {t : Nat} (h : WF S) (ht : t < 60) (hs : ¬ s_st S t = 0) : AM m_checkActive d (.inr 2) [.ref 0, .int (nI t)] (wS S) (wS S) := am_chkA_x ht h.2.2.2.2.2.2.1 hs
set_option maxHeartbeats 4000000 in
theorem am_mayAskS {d : Nat} {S : LSt} {t o m : Nat} (ht : t < 60) (ho : o < 85) : AM m_mayAsk (d + 2) (.inl (some (.int (bI (ma (s_ha S) t o m))))) [.ref 0, .int (nI t), .int (nI o), .int (nI m)] (wS S) (wS S) := am_mayAsk ht ho
set_option maxHeartbeats 4000000 in
theorem am_heldS {d : Nat} {S : LSt} {t o : Nat} (ht : t < 60) (ho : o < 85) : AM m_heldMode (d + 1) (.inl (some (.int (oI (hm (s_ha S) t o))))) [.ref 0, .int (nI t), .int (nI o)] (wS S) (wS S) := am_heldMode ht ho
set_option maxHeartbeats 4000000 in
theorem am_joinS {d : Nat} {S : LSt} {t o m : Nat} (h : WF S) (ht : t < 60) (ho : o < 85) (hk : s_k S < 60) : AM m_joinQueue (d + 3) (.inl none) [.ref 0, .int (nI t), .int (nI o), .int (nI m)] (wS S) (wS (jn S t o m)) := am_join ht ho hk h.1 h.2.2.2.1
set_option maxHeartbeats 4000000 in
theorem am_answerS {d : Nat} {S : LSt} {t : Nat} (h : WF S) (ht : t < 60) : AM m_answerFor d (.inl (some (.int (ans S t)))) [.ref 0, .int (nI t)] (wS S) (wS S) := am_answer ht h.2.2.2.2.2.2.1
set_option maxHeartbeats 4000000 in
theorem am_waitRowS {d : Nat} {S : LSt} {t : Nat} (h : WF S) (ht : t < 60) : AM m_waitRow (d + 2) (.inl (some (.long (wrw (s_aw S) (s_wa S) (s_ha S) (s_la S) (s_k S) t)))) [.ref 0, .int (nI t)] (wS S) (wS S) := am_waitRow ht h.2.1 h.1 h.2.2.2.1
set_option maxHeartbeats 4000000 in
theorem am_lock {d : Nat} {S : LSt} {t o m : Nat} (hS : WF S) (ht : t < s_n S) (ho : o < 85) (hm5 : m < 5) (hs : s_st S t = 0) (hma : ma (s_ha S) t o m = true) (hk : s_k S < 60) : AM m_lock (d + 6) (.inl (some (.int ((lk S t o m).2)))) [.ref 0, .int (nI t), .int (nI o), .int (nI m)] (wS S) (wS (lk S t o m).1) := by
  refine aq_enter pl_m_lock (Nat.le_of_ble_eq_true rfl) ?_
  have ht6 : t < 60 := Nat.lt_of_lt_of_le ht hS.2.2.1
  refine aq_gn (n := 2) (c1 := (2, [some (.ref 0), some (.int (nI t)), some (.int (nI o)), some (.int (nI m)), none, none], [.int (nI t), .ref 0], wS S)) ok_m_lock rfl ?_
  refine aq_callV (as := [.int (nI t)]) (st := []) ok_m_lock rfl c0_m_checkTransaction (am_chkTS hS ht) rfl (Nat.le_of_ble_eq_true rfl) rfl rfl rfl ?_
  refine aq_gn (n := 1) (c1 := (6, [some (.ref 0), some (.int (nI t)), some (.int (nI o)), some (.int (nI m)), none, none], [.int (nI o)], wS S)) ok_m_lock rfl ?_
  refine aq_callS (as := [.int (nI o)]) (st := []) ok_m_lock rfl c0_m_checkObject (am_chkO ho) rfl (Nat.le_of_ble_eq_true rfl) ?_
  refine aq_gn (n := 1) (c1 := (10, [some (.ref 0), some (.int (nI t)), some (.int (nI o)), some (.int (nI m)), none, none], [.int (nI m)], wS S)) ok_m_lock rfl ?_
  refine aq_if_lt ok_m_lock rfl (fun h => ?_) (fun h => ?_)
  · exact absurd h (nI_pos (by omega))
  · refine aq_gn (n := 2) (c1 := (15, [some (.ref 0), some (.int (nI t)), some (.int (nI o)), some (.int (nI m)), none, none], [.int (nI 5), .int (nI m)], wS S)) ok_m_lock rfl ?_
    refine aq_icmp_lt ok_m_lock rfl (fun h2 => ?_) (fun h2 => ?_)
    · refine aq_gn (n := 2) (c1 := (30, [some (.ref 0), some (.int (nI t)), some (.int (nI o)), some (.int (nI m)), none, none], [.int (nI t), .ref 0], wS S)) ok_m_lock rfl ?_
      refine aq_callV (as := [.int (nI t)]) (st := []) ok_m_lock rfl c0_m_checkActive (am_chkAS ht6 hs) rfl (Nat.le_of_ble_eq_true rfl) rfl rfl rfl ?_
      refine aq_gn (n := 4) (c1 := (37, [some (.ref 0), some (.int (nI t)), some (.int (nI o)), some (.int (nI m)), none, none], [.int (nI m), .int (nI o), .int (nI t), .ref 0], wS S)) ok_m_lock rfl ?_
      refine aq_callV (as := [.int (nI t), .int (nI o), .int (nI m)]) (st := []) ok_m_lock rfl c0_m_mayAsk (am_mayAskS (d := d + 3) ht6 ho) rfl (Nat.le_of_ble_eq_true rfl) rfl rfl rfl ?_
      rw [hma]
      refine aq_if_ne ok_m_lock rfl (fun h3 => ?_) (fun h3 => ?_)
      · refine aq_gn (n := 3) (c1 := (56, [some (.ref 0), some (.int (nI t)), some (.int (nI o)), some (.int (nI m)), none, none], [.int (nI o), .int (nI t), .ref 0], wS S)) ok_m_lock rfl ?_
        refine aq_callV (as := [.int (nI t), .int (nI o)]) (st := []) ok_m_lock rfl c0_m_heldMode (am_heldS (d := d + 4) ht6 ho) rfl (Nat.le_of_ble_eq_true rfl) rfl rfl rfl ?_
        refine aq_gn (n := 3) (c1 := (64, [some (.ref 0), some (.int (nI t)), some (.int (nI o)), some (.int (nI m)), some (.int (oI (hm (s_ha S) t o))), none], [.int (nI m), .int (oI (hm (s_ha S) t o))], wS S)) ok_m_lock rfl ?_
        refine aq_callS (as := [.int (oI (hm (s_ha S) t o)), .int (nI m)]) (st := []) ok_m_lock rfl c0_m_leastAbove (am_leastAbove (oI (hm (s_ha S) t o)) (nI m)) rfl (Nat.le_of_ble_eq_true rfl) ?_
        have hlub := lub_o (fun x q => hm_lt q) hm5 (h := hm (s_ha S) t o)
        rw [hlub.1]
        refine aq_gn (n := 3) (c1 := (73, [some (.ref 0), some (.int (nI t)), some (.int (nI o)), some (.int (nI m)), some (.int (oI (hm (s_ha S) t o))), some (.int (nI (lub (hm (s_ha S) t o) m)))], [.int (oI (hm (s_ha S) t o)), .int (nI (lub (hm (s_ha S) t o) m))], wS S)) ok_m_lock rfl ?_
        refine aq_icmp_ne ok_m_lock rfl (fun h4 => ?_) (fun h4 => ?_)
        · have hne : ¬ hm (s_ha S) t o = some (lub (hm (s_ha S) t o) m) := fun q => h4 (show nI (lub (hm (s_ha S) t o) m) = oI (hm (s_ha S) t o) from (congrArg oI q).symm)
          have e1 : lk S t o m = (lkS S t o m, ans (lkS S t o m) t) := by rw [lk, if_neg hne]
          rw [e1]
          show AW m_lock _ (.inl (some (.int (ans (lkS S t o m) t)))) (wS (lkS S t o m)) (78, [some (.ref 0), some (.int (nI t)), some (.int (nI o)), some (.int (nI m)), some (.int (oI (hm (s_ha S) t o))), some (.int (nI (lub (hm (s_ha S) t o) m)))], [], wS S)
          unfold lkS
          refine aq_gn (n := 4) (c1 := (83, [some (.ref 0), some (.int (nI t)), some (.int (nI o)), some (.int (nI m)), some (.int (oI (hm (s_ha S) t o))), some (.int (nI (lub (hm (s_ha S) t o) m)))], [.int (nI (lub (hm (s_ha S) t o) m)), .int (nI o), .int (nI t), .ref 0], wS S)) ok_m_lock rfl ?_
          refine aq_callV (as := [.int (nI t), .int (nI o), .int (nI (lub (hm (s_ha S) t o) m))]) (st := []) ok_m_lock rfl c0_m_joinQueue (am_joinS (d := d + 2) hS ht6 ho hk) rfl (Nat.le_of_ble_eq_true rfl) rfl rfl rfl ?_
          obtain ⟨Q, hQ⟩ : ∃ Q, Q = jn S t o (lub (hm (s_ha S) t o) m) := ⟨_, rfl⟩
          have hWQ : WF Q := by rw [hQ]; exact WF_jn hS ht6 ho hlub.2 hk
          rw [← hQ]
          refine aq_gn (n := 2) (c1 := (88, [some (.ref 0), some (.int (nI t)), some (.int (nI o)), some (.int (nI m)), some (.int (oI (hm (s_ha S) t o))), some (.int (nI (lub (hm (s_ha S) t o) m)))], [.int (nI o), .ref 0], wS Q)) ok_m_lock rfl ?_
          refine aq_callV (as := [.int (nI o)]) (st := []) ok_m_lock rfl c0_m_serve (am_serve (d := d + 2) hWQ ho) rfl (Nat.le_of_ble_eq_true rfl) rfl rfl rfl ?_
          obtain ⟨U, hU⟩ : ∃ U, U = (sv Q o).1 := ⟨_, rfl⟩
          have hWU : WF U := by rw [hU]; exact WF_sv hWQ o
          rw [← hU]
          show AW m_lock _ _ _ (91, [some (.ref 0), some (.int (nI t)), some (.int (nI o)), some (.int (nI m)), some (.int (oI (hm (s_ha S) t o))), some (.int (nI (lub (hm (s_ha S) t o) m)))], [.int (nI (sv Q o).2)], wL (s_st U) (s_pr U) (s_aw U) (s_wa U) (s_ha U) (s_la U) (s_wr U) (s_n U) (s_k U) (s_c5 U) (s_c6 U) (s_c7 U))
          refine aq_go (n := 6) (c1 := (99, [some (.ref 0), some (.int (nI t)), some (.int (nI o)), some (.int (nI m)), some (.int (oI (hm (s_ha S) t o))), some (.int (nI (lub (hm (s_ha S) t o) m)))], [.int (-1), .int (oI ((s_aw U) (nI t).toNatClampNeg))], wL (s_st U) (s_pr U) (s_aw U) (s_wa U) (s_ha U) (s_la U) (s_wr U) (s_n U) (s_k U) (s_c5 U) (s_c6 U) (s_c7 U))) (P := vp_in (nI t) 60) ok_m_lock rfl (in60 ht6) ?_
          rw [cl60 ht6]
          refine aq_icmp_eq ok_m_lock rfl (fun h5 => ?_) (fun h5 => ?_)
          · have hx := oI_m1 h5 (fun x q => by have := hWU.2.2.2.1 t x q; omega)
            have e2 : lk3 U t = U := by rw [lk3, hx]
            rw [e2]
            refine aq_gn (n := 2) (c1 := (116, [some (.ref 0), some (.int (nI t)), some (.int (nI o)), some (.int (nI m)), some (.int (oI (hm (s_ha S) t o))), some (.int (nI (lub (hm (s_ha S) t o) m)))], [.int (nI t), .ref 0], wS U)) ok_m_lock rfl ?_
            refine aq_callV (as := [.int (nI t)]) (st := []) ok_m_lock rfl c0_m_answerFor (am_answerS hWU ht6) rfl (Nat.le_of_ble_eq_true rfl) rfl rfl rfl ?_
            exact aq_ei ok_m_lock rfl rfl rfl rfl
          · obtain ⟨y, hx⟩ := oI_nm1 h5
            have e2 : lk3 U t = bcF t 60 (s_sl U t 1) := by rw [lk3, hx]
            rw [e2]
            refine aq_go (n := 7) (c1 := (111, [some (.ref 0), some (.int (nI t)), some (.int (nI o)), some (.int (nI m)), some (.int (oI (hm (s_ha S) t o))), some (.int (nI (lub (hm (s_ha S) t o) m)))], [.int (nI t), .ref 0], wR (upd (fun i => nI ((s_st U) i)) (nI t).toNatClampNeg (nI 1)) (fun i => nI ((s_pr U) i)) (fun i => oI ((s_aw U) i)) (fun i => oI ((s_wa U) i)) (s_ha U) (fun i => nI ((s_la U) i)) (s_wr U) (nI (s_n U)) (nI (s_k U)) (nI (s_c5 U)) (nI (s_c6 U)) (nI (s_c7 U)))) (P := vp_in (nI t) 60) ok_m_lock rfl (in60 ht6) ?_
            rw [cl60 ht6, upd_n]
            show AW m_lock _ _ _ (111, [some (.ref 0), some (.int (nI t)), some (.int (nI o)), some (.int (nI m)), some (.int (oI (hm (s_ha S) t o))), some (.int (nI (lub (hm (s_ha S) t o) m)))], [.int (nI t), .ref 0], wS (s_sl U t 1))
            refine aq_callV (as := [.int (nI t)]) (st := []) ok_m_lock rfl c0_m_breakCircles (am_break (S := s_sl U t 1) (WF_sl hWU t 1 (by omega)) ht6) rfl (Nat.le_of_ble_eq_true rfl) rfl rfl rfl ?_
            refine aq_gn (n := 2) (c1 := (116, [some (.ref 0), some (.int (nI t)), some (.int (nI o)), some (.int (nI m)), some (.int (oI (hm (s_ha S) t o))), some (.int (nI (lub (hm (s_ha S) t o) m)))], [.int (nI t), .ref 0], wS (bcF t 60 (s_sl U t 1)))) ok_m_lock rfl ?_
            refine aq_callV (as := [.int (nI t)]) (st := []) ok_m_lock rfl c0_m_answerFor (am_answerS (WF_bcF _ _ (WF_sl hWU t 1 (by omega))) ht6) rfl (Nat.le_of_ble_eq_true rfl) rfl rfl rfl ?_
            exact aq_ei ok_m_lock rfl rfl rfl rfl
        · have hy : hm (s_ha S) t o = some (lub (hm (s_ha S) t o) m) := oI_eq h4.symm (by have := hlub.2; omega) (fun x q => by have := hm_lt q; omega)
          have e1 : lk S t o m = (S, 1) := by rw [lk, if_pos hy]
          rw [e1]
          refine aq_gn (n := 1) (c1 := (77, [some (.ref 0), some (.int (nI t)), some (.int (nI o)), some (.int (nI m)), some (.int (oI (hm (s_ha S) t o))), some (.int (nI (lub (hm (s_ha S) t o) m)))], [.int (nI 1)], wS S)) ok_m_lock rfl ?_
          exact aq_ei ok_m_lock rfl rfl rfl rfl
      · exact absurd h3 (by decide)
    · exact absurd (nI_lt hm5 (by omega)) h2
set_option maxHeartbeats 4000000 in
theorem am_lock_t {d : Nat} {S : LSt} {x y z : Int32} (hx : x < 0 ∨ nI (s_n S) ≤ x) : AM m_lock (d + 1) (.inr 0) [.ref 0, .int x, .int y, .int z] (wS S) (wS S) := by
  refine aq_enter pl_m_lock (Nat.le_of_ble_eq_true rfl) ?_
  refine aq_gn (n := 2) (c1 := (2, [some (.ref 0), some (.int x), some (.int y), some (.int z), none, none], [.int x, .ref 0], wS S)) ok_m_lock rfl ?_
  exact aq_callVT (as := [.int x]) (st := []) ok_m_lock rfl c0_m_checkTransaction (am_chkTS_x hx) rfl (Nat.le_of_ble_eq_true rfl) rfl rfl rfl
set_option maxHeartbeats 4000000 in
theorem am_lock_o {d : Nat} {S : LSt} {t : Nat} {y z : Int32} (hS : WF S) (ht : t < s_n S) (hx : y < 0 ∨ nI 85 ≤ y) : AM m_lock (d + 1) (.inr 0) [.ref 0, .int (nI t), .int y, .int z] (wS S) (wS S) := by
  refine aq_enter pl_m_lock (Nat.le_of_ble_eq_true rfl) ?_
  refine aq_gn (n := 2) (c1 := (2, [some (.ref 0), some (.int (nI t)), some (.int y), some (.int z), none, none], [.int (nI t), .ref 0], wS S)) ok_m_lock rfl ?_
  refine aq_callV (as := [.int (nI t)]) (st := []) ok_m_lock rfl c0_m_checkTransaction (am_chkTS hS ht) rfl (Nat.le_of_ble_eq_true rfl) rfl rfl rfl ?_
  refine aq_gn (n := 1) (c1 := (6, [some (.ref 0), some (.int (nI t)), some (.int y), some (.int z), none, none], [.int y], wS S)) ok_m_lock rfl ?_
  exact aq_callST (as := [.int y]) (st := []) ok_m_lock rfl c0_m_checkObject (am_chkO_x hx) rfl (Nat.le_of_ble_eq_true rfl)
set_option maxHeartbeats 4000000 in
theorem am_lock_m {d : Nat} {S : LSt} {t o : Nat} {z : Int32} (hS : WF S) (ht : t < s_n S) (ho : o < 85) (hx : z < 0 ∨ nI 5 ≤ z) : AM m_lock (d + 1) (.inr 1) [.ref 0, .int (nI t), .int (nI o), .int z] (wS S) (wS S) := by
  refine aq_enter pl_m_lock (Nat.le_of_ble_eq_true rfl) ?_
  refine aq_gn (n := 2) (c1 := (2, [some (.ref 0), some (.int (nI t)), some (.int (nI o)), some (.int z), none, none], [.int (nI t), .ref 0], wS S)) ok_m_lock rfl ?_
  refine aq_callV (as := [.int (nI t)]) (st := []) ok_m_lock rfl c0_m_checkTransaction (am_chkTS hS ht) rfl (Nat.le_of_ble_eq_true rfl) rfl rfl rfl ?_
  refine aq_gn (n := 1) (c1 := (6, [some (.ref 0), some (.int (nI t)), some (.int (nI o)), some (.int z), none, none], [.int (nI o)], wS S)) ok_m_lock rfl ?_
  refine aq_callS (as := [.int (nI o)]) (st := []) ok_m_lock rfl c0_m_checkObject (am_chkO ho) rfl (Nat.le_of_ble_eq_true rfl) ?_
  refine aq_gn (n := 1) (c1 := (10, [some (.ref 0), some (.int (nI t)), some (.int (nI o)), some (.int z), none, none], [.int z], wS S)) ok_m_lock rfl ?_
  refine aq_if_lt ok_m_lock rfl (fun h => ?_) (fun h => ?_)
  · exact aq_throw (text := "there is no such mode") ok_m_lock rfl tw1 (aq_fit _) aq_upf (by decide +kernel) rfl rfl rfl rfl rfl (Nat.le_of_ble_eq_true rfl)
  · refine aq_gn (n := 2) (c1 := (15, [some (.ref 0), some (.int (nI t)), some (.int (nI o)), some (.int z), none, none], [.int (nI 5), .int z], wS S)) ok_m_lock rfl ?_
    refine aq_icmp_lt ok_m_lock rfl (fun h2 => ?_) (fun h2 => ?_)
    · rcases hx with q | q
      · exact absurd q h
      · exact absurd h2 (Int32.not_lt.mpr q)
    · exact aq_throw (text := "there is no such mode") ok_m_lock rfl tw1 (aq_fit _) aq_upf (by decide +kernel) rfl rfl rfl rfl rfl (Nat.le_of_ble_eq_true rfl)
set_option maxHeartbeats 4000000 in
theorem am_lock_a {d : Nat} {S : LSt} {t o m : Nat} (hS : WF S) (ht : t < s_n S) (ho : o < 85) (hm5 : m < 5) (hs : ¬ s_st S t = 0) : AM m_lock (d + 1) (.inr 2) [.ref 0, .int (nI t), .int (nI o), .int (nI m)] (wS S) (wS S) := by
  refine aq_enter pl_m_lock (Nat.le_of_ble_eq_true rfl) ?_
  have ht6 : t < 60 := Nat.lt_of_lt_of_le ht hS.2.2.1
  refine aq_gn (n := 2) (c1 := (2, [some (.ref 0), some (.int (nI t)), some (.int (nI o)), some (.int (nI m)), none, none], [.int (nI t), .ref 0], wS S)) ok_m_lock rfl ?_
  refine aq_callV (as := [.int (nI t)]) (st := []) ok_m_lock rfl c0_m_checkTransaction (am_chkTS hS ht) rfl (Nat.le_of_ble_eq_true rfl) rfl rfl rfl ?_
  refine aq_gn (n := 1) (c1 := (6, [some (.ref 0), some (.int (nI t)), some (.int (nI o)), some (.int (nI m)), none, none], [.int (nI o)], wS S)) ok_m_lock rfl ?_
  refine aq_callS (as := [.int (nI o)]) (st := []) ok_m_lock rfl c0_m_checkObject (am_chkO ho) rfl (Nat.le_of_ble_eq_true rfl) ?_
  refine aq_gn (n := 1) (c1 := (10, [some (.ref 0), some (.int (nI t)), some (.int (nI o)), some (.int (nI m)), none, none], [.int (nI m)], wS S)) ok_m_lock rfl ?_
  refine aq_if_lt ok_m_lock rfl (fun h => ?_) (fun h => ?_)
  · exact absurd h (nI_pos (by omega))
  · refine aq_gn (n := 2) (c1 := (15, [some (.ref 0), some (.int (nI t)), some (.int (nI o)), some (.int (nI m)), none, none], [.int (nI 5), .int (nI m)], wS S)) ok_m_lock rfl ?_
    refine aq_icmp_lt ok_m_lock rfl (fun h2 => ?_) (fun h2 => ?_)
    · refine aq_gn (n := 2) (c1 := (30, [some (.ref 0), some (.int (nI t)), some (.int (nI o)), some (.int (nI m)), none, none], [.int (nI t), .ref 0], wS S)) ok_m_lock rfl ?_
      exact aq_callVT (as := [.int (nI t)]) (st := []) ok_m_lock rfl c0_m_checkActive (am_chkAS_x hS ht6 hs) rfl (Nat.le_of_ble_eq_true rfl) rfl rfl rfl
    · exact absurd (nI_lt hm5 (by omega)) h2
set_option maxHeartbeats 4000000 in
theorem am_lock_n {d : Nat} {S : LSt} {t o m : Nat} (hS : WF S) (ht : t < s_n S) (ho : o < 85) (hm5 : m < 5) (hs : s_st S t = 0) (hma : ma (s_ha S) t o m = false) : AM m_lock (d + 3) (.inr 2) [.ref 0, .int (nI t), .int (nI o), .int (nI m)] (wS S) (wS S) := by
  refine aq_enter pl_m_lock (Nat.le_of_ble_eq_true rfl) ?_
  have ht6 : t < 60 := Nat.lt_of_lt_of_le ht hS.2.2.1
  refine aq_gn (n := 2) (c1 := (2, [some (.ref 0), some (.int (nI t)), some (.int (nI o)), some (.int (nI m)), none, none], [.int (nI t), .ref 0], wS S)) ok_m_lock rfl ?_
  refine aq_callV (as := [.int (nI t)]) (st := []) ok_m_lock rfl c0_m_checkTransaction (am_chkTS hS ht) rfl (Nat.le_of_ble_eq_true rfl) rfl rfl rfl ?_
  refine aq_gn (n := 1) (c1 := (6, [some (.ref 0), some (.int (nI t)), some (.int (nI o)), some (.int (nI m)), none, none], [.int (nI o)], wS S)) ok_m_lock rfl ?_
  refine aq_callS (as := [.int (nI o)]) (st := []) ok_m_lock rfl c0_m_checkObject (am_chkO ho) rfl (Nat.le_of_ble_eq_true rfl) ?_
  refine aq_gn (n := 1) (c1 := (10, [some (.ref 0), some (.int (nI t)), some (.int (nI o)), some (.int (nI m)), none, none], [.int (nI m)], wS S)) ok_m_lock rfl ?_
  refine aq_if_lt ok_m_lock rfl (fun h => ?_) (fun h => ?_)
  · exact absurd h (nI_pos (by omega))
  · refine aq_gn (n := 2) (c1 := (15, [some (.ref 0), some (.int (nI t)), some (.int (nI o)), some (.int (nI m)), none, none], [.int (nI 5), .int (nI m)], wS S)) ok_m_lock rfl ?_
    refine aq_icmp_lt ok_m_lock rfl (fun h2 => ?_) (fun h2 => ?_)
    · refine aq_gn (n := 2) (c1 := (30, [some (.ref 0), some (.int (nI t)), some (.int (nI o)), some (.int (nI m)), none, none], [.int (nI t), .ref 0], wS S)) ok_m_lock rfl ?_
      refine aq_callV (as := [.int (nI t)]) (st := []) ok_m_lock rfl c0_m_checkActive (am_chkAS ht6 hs) rfl (Nat.le_of_ble_eq_true rfl) rfl rfl rfl ?_
      refine aq_gn (n := 4) (c1 := (37, [some (.ref 0), some (.int (nI t)), some (.int (nI o)), some (.int (nI m)), none, none], [.int (nI m), .int (nI o), .int (nI t), .ref 0], wS S)) ok_m_lock rfl ?_
      refine aq_callV (as := [.int (nI t), .int (nI o), .int (nI m)]) (st := []) ok_m_lock rfl c0_m_mayAsk (am_mayAskS (d := d) ht6 ho) rfl (Nat.le_of_ble_eq_true rfl) rfl rfl rfl ?_
      rw [hma]
      refine aq_if_ne ok_m_lock rfl (fun h3 => ?_) (fun h3 => ?_)
      · exact absurd rfl h3
      · exact aq_throw (text := "the object above is not held as it must be") ok_m_lock rfl tw2 (aq_fit _) aq_upf (by decide +kernel) rfl rfl rfl rfl rfl (Nat.le_of_ble_eq_true rfl)
    · exact absurd (nI_lt hm5 (by omega)) h2
set_option maxHeartbeats 4000000 in
theorem am_commit {d : Nat} {S : LSt} {t : Nat} (hS : WF S) (ht : t < s_n S) (hs : s_st S t = 0) : AM m_commit (d + 5) (.inl (some (.int (nI (en S t 2).2)))) [.ref 0, .int (nI t)] (wS S) (wS (en S t 2).1) := by
  refine aq_enter pl_m_commit (Nat.le_of_ble_eq_true rfl) ?_
  have ht6 : t < 60 := Nat.lt_of_lt_of_le ht hS.2.2.1
  refine aq_gn (n := 2) (c1 := (2, [some (.ref 0), some (.int (nI t))], [.int (nI t), .ref 0], wS S)) ok_m_commit rfl ?_
  refine aq_callV (as := [.int (nI t)]) (st := []) ok_m_commit rfl c0_m_checkTransaction (am_chkTS hS ht) rfl (Nat.le_of_ble_eq_true rfl) rfl rfl rfl ?_
  refine aq_gn (n := 2) (c1 := (7, [some (.ref 0), some (.int (nI t))], [.int (nI t), .ref 0], wS S)) ok_m_commit rfl ?_
  refine aq_callV (as := [.int (nI t)]) (st := []) ok_m_commit rfl c0_m_checkActive (am_chkAS ht6 hs) rfl (Nat.le_of_ble_eq_true rfl) rfl rfl rfl ?_
  refine aq_gn (n := 3) (c1 := (13, [some (.ref 0), some (.int (nI t))], [.int (nI 2), .int (nI t), .ref 0], wS S)) ok_m_commit rfl ?_
  refine aq_callV (as := [.int (nI t), .int (nI 2)]) (st := []) ok_m_commit rfl c0_m_end (am_end hS ht6 (by omega)) rfl (Nat.le_of_ble_eq_true rfl) rfl rfl rfl ?_
  exact aq_ei ok_m_commit rfl rfl rfl rfl
set_option maxHeartbeats 4000000 in
theorem am_commit_t {d : Nat} {S : LSt} {x : Int32} (hx : x < 0 ∨ nI (s_n S) ≤ x) : AM m_commit (d + 1) (.inr 0) [.ref 0, .int x] (wS S) (wS S) := by
  refine aq_enter pl_m_commit (Nat.le_of_ble_eq_true rfl) ?_
  refine aq_gn (n := 2) (c1 := (2, [some (.ref 0), some (.int x)], [.int x, .ref 0], wS S)) ok_m_commit rfl ?_
  exact aq_callVT (as := [.int x]) (st := []) ok_m_commit rfl c0_m_checkTransaction (am_chkTS_x hx) rfl (Nat.le_of_ble_eq_true rfl) rfl rfl rfl
set_option maxHeartbeats 4000000 in
theorem am_commit_a {d : Nat} {S : LSt} {t : Nat} (hS : WF S) (ht : t < s_n S) (hs : ¬ s_st S t = 0) : AM m_commit (d + 1) (.inr 2) [.ref 0, .int (nI t)] (wS S) (wS S) := by
  refine aq_enter pl_m_commit (Nat.le_of_ble_eq_true rfl) ?_
  refine aq_gn (n := 2) (c1 := (2, [some (.ref 0), some (.int (nI t))], [.int (nI t), .ref 0], wS S)) ok_m_commit rfl ?_
  refine aq_callV (as := [.int (nI t)]) (st := []) ok_m_commit rfl c0_m_checkTransaction (am_chkTS hS ht) rfl (Nat.le_of_ble_eq_true rfl) rfl rfl rfl ?_
  refine aq_gn (n := 2) (c1 := (7, [some (.ref 0), some (.int (nI t))], [.int (nI t), .ref 0], wS S)) ok_m_commit rfl ?_
  exact aq_callVT (as := [.int (nI t)]) (st := []) ok_m_commit rfl c0_m_checkActive (am_chkAS_x hS (Nat.lt_of_lt_of_le ht hS.2.2.1) hs) rfl (Nat.le_of_ble_eq_true rfl) rfl rfl rfl
set_option maxHeartbeats 4000000 in
theorem am_abort {d : Nat} {S : LSt} {t : Nat} (hS : WF S) (ht : t < s_n S) (hs : s_st S t < 2) : AM m_abort (d + 5) (.inl (some (.int (nI (en S t 3).2)))) [.ref 0, .int (nI t)] (wS S) (wS (en S t 3).1) := by
  refine aq_enter pl_m_abort (Nat.le_of_ble_eq_true rfl) ?_
  have ht6 : t < 60 := Nat.lt_of_lt_of_le ht hS.2.2.1
  refine aq_gn (n := 2) (c1 := (2, [some (.ref 0), some (.int (nI t))], [.int (nI t), .ref 0], wS S)) ok_m_abort rfl ?_
  refine aq_callV (as := [.int (nI t)]) (st := []) ok_m_abort rfl c0_m_checkTransaction (am_chkTS hS ht) rfl (Nat.le_of_ble_eq_true rfl) rfl rfl rfl ?_
  refine aq_go (n := 4) (c1 := (11, [some (.ref 0), some (.int (nI t))], [.int (nI ((s_st S) (nI t).toNatClampNeg))], wL (s_st S) (s_pr S) (s_aw S) (s_wa S) (s_ha S) (s_la S) (s_wr S) (s_n S) (s_k S) (s_c5 S) (s_c6 S) (s_c7 S))) (P := vp_in (nI t) 60) ok_m_abort rfl (in60 ht6) ?_
  rw [cl60 ht6]
  refine aq_if_eq ok_m_abort rfl (fun h => ?_) (fun h => ?_)
  · refine aq_gn (n := 3) (c1 := (37, [some (.ref 0), some (.int (nI t))], [.int (nI 3), .int (nI t), .ref 0], wS S)) ok_m_abort rfl ?_
    refine aq_callV (as := [.int (nI t), .int (nI 3)]) (st := []) ok_m_abort rfl c0_m_end (am_end hS ht6 (by omega)) rfl (Nat.le_of_ble_eq_true rfl) rfl rfl rfl ?_
    exact aq_ei ok_m_abort rfl rfl rfl rfl
  · have h0 : ¬ s_st S t = 0 := fun q => h (by rw [q]; rfl)
    refine aq_go (n := 5) (c1 := (21, [some (.ref 0), some (.int (nI t))], [.int (nI 1), .int (nI ((s_st S) (nI t).toNatClampNeg))], wL (s_st S) (s_pr S) (s_aw S) (s_wa S) (s_ha S) (s_la S) (s_wr S) (s_n S) (s_k S) (s_c5 S) (s_c6 S) (s_c7 S))) (P := vp_in (nI t) 60) ok_m_abort rfl (in60 ht6) ?_
    rw [cl60 ht6]
    refine aq_icmp_eq ok_m_abort rfl (fun h2 => ?_) (fun h2 => ?_)
    · refine aq_gn (n := 3) (c1 := (37, [some (.ref 0), some (.int (nI t))], [.int (nI 3), .int (nI t), .ref 0], wS S)) ok_m_abort rfl ?_
      refine aq_callV (as := [.int (nI t), .int (nI 3)]) (st := []) ok_m_abort rfl c0_m_end (am_end hS ht6 (by omega)) rfl (Nat.le_of_ble_eq_true rfl) rfl rfl rfl ?_
      exact aq_ei ok_m_abort rfl rfl rfl rfl
    · exact absurd (by rw [show s_st S t = 1 by omega]) h2
set_option maxHeartbeats 4000000 in
theorem am_abort_t {d : Nat} {S : LSt} {x : Int32} (hx : x < 0 ∨ nI (s_n S) ≤ x) : AM m_abort (d + 1) (.inr 0) [.ref 0, .int x] (wS S) (wS S) := by
  refine aq_enter pl_m_abort (Nat.le_of_ble_eq_true rfl) ?_
  refine aq_gn (n := 2) (c1 := (2, [some (.ref 0), some (.int x)], [.int x, .ref 0], wS S)) ok_m_abort rfl ?_
  exact aq_callVT (as := [.int x]) (st := []) ok_m_abort rfl c0_m_checkTransaction (am_chkTS_x hx) rfl (Nat.le_of_ble_eq_true rfl) rfl rfl rfl
set_option maxHeartbeats 4000000 in
theorem am_abort_a {d : Nat} {S : LSt} {t : Nat} (hS : WF S) (ht : t < s_n S) (hs : ¬ s_st S t < 2) : AM m_abort (d + 1) (.inr 2) [.ref 0, .int (nI t)] (wS S) (wS S) := by
  refine aq_enter pl_m_abort (Nat.le_of_ble_eq_true rfl) ?_
  have ht6 : t < 60 := Nat.lt_of_lt_of_le ht hS.2.2.1
  have hs4 := hS.2.2.2.2.2.2.1 t
  refine aq_gn (n := 2) (c1 := (2, [some (.ref 0), some (.int (nI t))], [.int (nI t), .ref 0], wS S)) ok_m_abort rfl ?_
  refine aq_callV (as := [.int (nI t)]) (st := []) ok_m_abort rfl c0_m_checkTransaction (am_chkTS hS ht) rfl (Nat.le_of_ble_eq_true rfl) rfl rfl rfl ?_
  refine aq_go (n := 4) (c1 := (11, [some (.ref 0), some (.int (nI t))], [.int (nI ((s_st S) (nI t).toNatClampNeg))], wL (s_st S) (s_pr S) (s_aw S) (s_wa S) (s_ha S) (s_la S) (s_wr S) (s_n S) (s_k S) (s_c5 S) (s_c6 S) (s_c7 S))) (P := vp_in (nI t) 60) ok_m_abort rfl (in60 ht6) ?_
  rw [cl60 ht6]
  refine aq_if_eq ok_m_abort rfl (fun h => ?_) (fun h => ?_)
  · exact absurd (q_eq (b := 0) h (by omega) (by omega)) (by omega)
  · refine aq_go (n := 5) (c1 := (21, [some (.ref 0), some (.int (nI t))], [.int (nI 1), .int (nI ((s_st S) (nI t).toNatClampNeg))], wL (s_st S) (s_pr S) (s_aw S) (s_wa S) (s_ha S) (s_la S) (s_wr S) (s_n S) (s_k S) (s_c5 S) (s_c6 S) (s_c7 S))) (P := vp_in (nI t) 60) ok_m_abort rfl (in60 ht6) ?_
    rw [cl60 ht6]
    refine aq_icmp_eq ok_m_abort rfl (fun h2 => ?_) (fun h2 => ?_)
    · exact absurd (q_eq h2 (by omega) (by omega)) (by omega)
    · show AW m_abort _ _ _ (24, [some (.ref 0), some (.int (nI t))], [], wS S)
      exact aq_throw (text := "the transaction has ended") ok_m_abort rfl tw2 (aq_fit _) aq_upf (by decide +kernel) rfl rfl rfl rfl rfl (Nat.le_of_ble_eq_true rfl)
