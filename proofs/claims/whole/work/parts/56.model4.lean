/-! THE REFERENCE: endIt, begin, commit, abort -/
def m_cd (M : MSt) (c : Nat) : MSt := (c, M.2)
def m_he (M : MSt) (h : Nat → Option Nat) : MSt := (g_cd M, g_n M, g_pr M, g_st M, h, g_wt M, g_wn M, g_cv M, g_qs M, g_qu M, g_v5 M, g_v6 M, g_v7 M)
def m_ws (M : MSt) (t x : Nat) : MSt := (g_cd M, g_n M, g_pr M, va_up (g_st M) t x, g_he M, va_up (g_wt M) t none, g_wn M, g_cv M, g_qs M, g_qu M, g_v5 M, g_v6 M, g_v7 M)
def m_dq (M : MSt) (t o : Nat) : MSt := (g_cd M, g_n M, g_pr M, g_st M, g_he M, g_wt M, g_wn M, g_cv M, va_up (g_qs M) o ((lqF t (g_qs M o) (60 * o) (60 * o) (g_qu M)).2 - 60 * o), (lqF t (g_qs M o) (60 * o) (60 * o) (g_qu M)).1, g_v5 M, g_v6 M, g_v7 M)
def m_7 (M : MSt) (c : Nat) : MSt := (g_cd M, g_n M, g_pr M, g_st M, g_he M, g_wt M, g_wn M, g_cv M, g_qs M, g_qu M, g_v5 M, g_v6 M, g_v7 M + c)
def m_6 (M : MSt) (c : Nat) : MSt := (g_cd M, g_n M, g_pr M, g_st M, g_he M, g_wt M, g_wn M, g_cv M, g_qs M, g_qu M, g_v5 M, g_v6 M + c, g_v7 M)
def m_5 (M : MSt) : MSt := (g_cd M, g_n M, g_pr M, g_st M, g_he M, g_wt M, g_wn M, g_cv M, g_qs M, g_qu M, g_v5 M + 1, g_v6 M, g_v7 M)
def mlv (M : MSt) (t : Nat) : MSt := match g_wt M t with
  | none => M
  | some o => m_dq M t o
def e1F (t : Nat) (a : Option Nat) : Nat → Nat → (Nat → Option Nat) → (Nat → Option Nat)
  | 0, _, h => h
  | f + 1, i, h => e1F t a f (i + 1) (va_up h (60 * i + t) (if 0 < oI (h (60 * i + t)) ∨ a = some i then none else some 0))
def e2F (t : Nat) : Nat → Nat → Nat → MSt → MSt × Nat
  | 0, _, c, M => (M, c)
  | f + 1, i, c, M => if g_he M (60 * i + t) = none then e2F t f (i + 1) (c + (ms (m_he M (va_up (g_he M) (60 * i + t) (some 0))) i).2) (ms (m_he M (va_up (g_he M) (60 * i + t) (some 0))) i).1 else e2F t f (i + 1) c M
def mfn (E : MSt × Nat) : MSt × Nat := (m_7 E.1 E.2, E.2)
def mend (M : MSt) (t x : Nat) : MSt × Nat := mfn (e2F t 85 0 0 (m_he (m_ws (mlv M t) t x) (e1F t (g_wt M t) 85 0 (g_he (mlv M t)))))
theorem WM_cd {M : MSt} (h : WM M) (c : Nat) : WM (m_cd M c) := h
theorem WM_5 {M : MSt} (h : WM M) : WM (m_5 M) := h
theorem WM_6 {M : MSt} (h : WM M) (c : Nat) : WM (m_6 M c) := h
theorem WM_7 {M : MSt} (h : WM M) (c : Nat) : WM (m_7 M c) := h
theorem WM_he {M : MSt} (h : WM M) {f : Nat → Option Nat} (hf : ∀ i x, f i = some x → x < 6) : WM (m_he M f) := ⟨h.1, h.2.1, h.2.2.1, h.2.2.2.1, h.2.2.2.2.1, h.2.2.2.2.2.1, h.2.2.2.2.2.2.1, hf⟩
theorem WM_he0 {M : MSt} (h : WM M) (j : Nat) : WM (m_he M (va_up (g_he M) j (some 0))) := WM_he h (va_up_ol h.2.2.2.2.2.2.2 (fun x q => by cases q; omega))
theorem WM_ws {M : MSt} (h : WM M) (t : Nat) {x : Nat} (hx : x < 4) : WM (m_ws M t x) := ⟨h.1, h.2.1, h.2.2.1, va_up_ol h.2.2.2.1 (fun x q => by cases q), fun u => va_up_lt h.2.2.2.2.1 hx u, h.2.2.2.2.2.1, h.2.2.2.2.2.2.1, h.2.2.2.2.2.2.2⟩
theorem WM_dq {M : MSt} (h : WM M) (t o : Nat) : WM (m_dq M t o) := by
  refine ⟨h.1, lqF_lt _ _ _ _ h.2.1, fun q => ?_, h.2.2.2⟩
  show va_up (g_qs M) o _ q ≤ 60
  unfold va_up
  split
  · have := lqF_le (t := t) (g_qs M o) (60 * o) (60 * o) (g_qu M)
    have := h.2.2.1 o
    omega
  · exact h.2.2.1 q
theorem WM_mlv {M : MSt} (h : WM M) (t : Nat) : WM (mlv M t) := by
  unfold mlv
  split
  · exact h
  · exact WM_dq h _ _
theorem e1F_lt {t : Nat} {a : Option Nat} : ∀ (f i : Nat) (h : Nat → Option Nat), (∀ i x, h i = some x → x < 6) → ∀ j x, e1F t a f i h j = some x → x < 6 := by
  intro f
  induction f with
  | zero => intro i h hh; exact hh
  | succ f ih =>
    intro i h hh
    unfold e1F
    exact ih _ _ (va_up_ol hh (fun x q => by split at q <;> cases q; omega))
theorem WM_e2F {t : Nat} : ∀ (f i c : Nat) (M : MSt), WM M → WM (e2F t f i c M).1 := by
  intro f
  induction f with
  | zero => intro i c M h; exact h
  | succ f ih =>
    intro i c M h
    unfold e2F
    split
    · exact ih _ _ _ (WM_ms (WM_he0 h _) i)
    · exact ih _ _ _ h
theorem WM_mend {M : MSt} (h : WM M) (t : Nat) {x : Nat} (hx : x < 4) : WM (mend M t x).1 := WM_7 (WM_e2F _ _ _ _ (WM_he (WM_ws (WM_mlv h t) t hx) (e1F_lt _ _ _ (WM_mlv h t).2.2.2.2.2.2.2))) _
theorem oI_eq' {x : Option Nat} {o : Nat} (h : nI o = oI x) (ho : o < 2 ^ 31) (hb : ∀ n, x = some n → n < 2 ^ 31) : x = some o := oI_eq h.symm ho hb
theorem oI_ne' {x : Option Nat} {o : Nat} (h : ¬ nI o = oI x) : ¬ x = some o := oI_ne (fun q => h q.symm)
theorem oI_ge {x : Option Nat} (h : 0 ≤ oI x) : ∃ n, x = some n := by
  cases x with
  | none => exact absurd h (by decide)
  | some n => exact ⟨n, rfl⟩
theorem oI_nge {x : Option Nat} (h : ¬ 0 ≤ oI x) (hb : ∀ n, x = some n → n < 2 ^ 31) : x = none := by
  cases x with
  | none => rfl
  | some n => exact absurd (nI_pos' (hb n rfl)) h
theorem nI_m1 (c : Nat) : (nI c) + (nI 1) - (nI 1) = nI c := by rw [Int32.add_sub_cancel]
set_option maxHeartbeats 4000000 in
theorem lp_e1 {d : Nat} {M : MSt} {t : Nat} {y : Int32} {a : Option Nat} {O : aq_O} {w' : List va_E} (ht : t < 60) (ha : ∀ x, a = some x → x < 85) : ∀ (f i : Nat), i + f = 85 → ∀ h : Nat → Option Nat, AW r_endIt (d + 3) O w' (88, [some (.ref 0), some (.int (nI t)), some (.int y), some (.int (oI a)), some (.int (nI 0)), none], [], wM (m_he M (e1F t a f i h))) → AW r_endIt (d + 3) O w' (37, [some (.ref 0), some (.int (nI t)), some (.int y), some (.int (oI a)), some (.int (nI 0)), some (.int (nI i))], [], wM (m_he M h)) := by
  intro f
  induction f with
  | zero =>
    intro i hif he K
    refine aq_gn (n := 2) (c1 := (41, [some (.ref 0), some (.int (nI t)), some (.int y), some (.int (oI a)), some (.int (nI 0)), some (.int (nI i))], [.int (nI 85), .int (nI i)], wM (m_he M he))) ok_r_endIt rfl ?_
    refine aq_icmp_ge ok_r_endIt rfl (fun h => ?_) (fun h => ?_)
    · refine aq_drop 5 ?_
      exact K
    · exact absurd (nI_le (show 85 ≤ i by omega) (by omega)) h
  | succ f ih =>
    intro i hif he K
    show AW r_endIt _ _ _ (37, [some (.ref 0), some (.int (nI t)), some (.int y), some (.int (oI a)), some (.int (nI 0)), some (.int (nI i))], [], mL (g_cd M) (g_n M) (g_pr M) (g_st M) he (g_wt M) (g_wn M) (g_cv M) (g_qs M) (g_qu M) (g_v5 M) (g_v6 M) (g_v7 M))
    refine aq_gn (n := 2) (c1 := (41, [some (.ref 0), some (.int (nI t)), some (.int y), some (.int (oI a)), some (.int (nI 0)), some (.int (nI i))], [.int (nI 85), .int (nI i)], mL (g_cd M) (g_n M) (g_pr M) (g_st M) he (g_wt M) (g_wn M) (g_cv M) (g_qs M) (g_qu M) (g_v5 M) (g_v6 M) (g_v7 M))) ok_r_endIt rfl ?_
    refine aq_icmp_ge ok_r_endIt rfl (fun h => ?_) (fun h => ?_)
    · exact absurd (q_le h (by omega) (by omega)) (by omega)
    · refine aq_go (n := 15) (c1 := (67, [some (.ref 0), some (.int (nI t)), some (.int y), some (.int (oI a)), some (.int (nI 0)), some (.int (nI i))], [.int (oI (he (((nI 60) * (nI i)) + (nI t)).toNatClampNeg)), .int (((nI 60) * (nI i)) + (nI t)), .ref 3], mL (g_cd M) (g_n M) (g_pr M) (g_st M) he (g_wt M) (g_wn M) (g_cv M) (g_qs M) (g_qu M) (g_v5 M) (g_v6 M) (g_v7 M))) (P := vp_in (((nI 60) * (nI i)) + (nI t)) 5100) ok_r_endIt rfl (in6 (show i < 85 by omega) ht) ?_
      rw [cl6 (show i < 85 by omega) ht]
      refine aq_if_gt ok_r_endIt rfl (fun h2 => ?_) (fun h2 => ?_)
      · refine aq_gn (n := 1) (c1 := (77, [some (.ref 0), some (.int (nI t)), some (.int y), some (.int (oI a)), some (.int (nI 0)), some (.int (nI i))], [.int (-1), .int (((nI 60) * (nI i)) + (nI t)), .ref 3], mL (g_cd M) (g_n M) (g_pr M) (g_st M) he (g_wt M) (g_wn M) (g_cv M) (g_qs M) (g_qu M) (g_v5 M) (g_v6 M) (g_v7 M))) ok_r_endIt rfl ?_
        refine aq_go (n := 4) (c1 := (37, [some (.ref 0), some (.int (nI t)), some (.int y), some (.int (oI a)), some (.int (nI 0)), some (.int ((nI i) + 1))], [], mR (nI (g_cd M)) (nI (g_n M)) (fun ι => nI ((g_pr M) ι)) (fun ι => nI ((g_st M) ι)) (upd (fun ι => oI (he ι)) (((nI 60) * (nI i)) + (nI t)).toNatClampNeg (-1)) (fun ι => oI ((g_wt M) ι)) (fun ι => nI ((g_wn M) ι)) (fun ι => bI ((g_cv M) ι)) (fun ι => nI ((g_qs M) ι)) (fun ι => nI ((g_qu M) ι)) (nI (g_v5 M)) (nI (g_v6 M)) (nI (g_v7 M)))) (P := vp_in (((nI 60) * (nI i)) + (nI t)) 5100) ok_r_endIt rfl (in6 (show i < 85 by omega) ht) ?_
        rw [cl6 (show i < 85 by omega) ht, upd_m, nI_1]
        have e : e1F t a (f + 1) i he = e1F t a f (i + 1) (va_up he (60 * i + t) (none)) := by rw [e1F, if_pos (.inl h2)]
        rw [e] at K
        exact ih (i + 1) (by omega) _ K
      · refine aq_gn (n := 2) (c1 := (73, [some (.ref 0), some (.int (nI t)), some (.int y), some (.int (oI a)), some (.int (nI 0)), some (.int (nI i))], [.int (oI a), .int (nI i), .int (((nI 60) * (nI i)) + (nI t)), .ref 3], mL (g_cd M) (g_n M) (g_pr M) (g_st M) he (g_wt M) (g_wn M) (g_cv M) (g_qs M) (g_qu M) (g_v5 M) (g_v6 M) (g_v7 M))) ok_r_endIt rfl ?_
        refine aq_icmp_ne ok_r_endIt rfl (fun h3 => ?_) (fun h3 => ?_)
        · have hx := oI_ne' h3
          refine aq_go (n := 4) (c1 := (37, [some (.ref 0), some (.int (nI t)), some (.int y), some (.int (oI a)), some (.int (nI 0)), some (.int ((nI i) + 1))], [], mR (nI (g_cd M)) (nI (g_n M)) (fun ι => nI ((g_pr M) ι)) (fun ι => nI ((g_st M) ι)) (upd (fun ι => oI (he ι)) (((nI 60) * (nI i)) + (nI t)).toNatClampNeg (nI 0)) (fun ι => oI ((g_wt M) ι)) (fun ι => nI ((g_wn M) ι)) (fun ι => bI ((g_cv M) ι)) (fun ι => nI ((g_qs M) ι)) (fun ι => nI ((g_qu M) ι)) (nI (g_v5 M)) (nI (g_v6 M)) (nI (g_v7 M)))) (P := vp_in (((nI 60) * (nI i)) + (nI t)) 5100) ok_r_endIt rfl (in6 (show i < 85 by omega) ht) ?_
          rw [cl6 (show i < 85 by omega) ht, upd_o, nI_1]
          have e : e1F t a (f + 1) i he = e1F t a f (i + 1) (va_up he (60 * i + t) (some 0)) := by rw [e1F, if_neg (fun q => q.elim h2 hx)]
          rw [e] at K
          exact ih (i + 1) (by omega) _ K
        · have hx := oI_eq' h3 (by omega) (fun x q => by have := ha x q; omega)
          refine aq_go (n := 5) (c1 := (37, [some (.ref 0), some (.int (nI t)), some (.int y), some (.int (oI a)), some (.int (nI 0)), some (.int ((nI i) + 1))], [], mR (nI (g_cd M)) (nI (g_n M)) (fun ι => nI ((g_pr M) ι)) (fun ι => nI ((g_st M) ι)) (upd (fun ι => oI (he ι)) (((nI 60) * (nI i)) + (nI t)).toNatClampNeg (-1)) (fun ι => oI ((g_wt M) ι)) (fun ι => nI ((g_wn M) ι)) (fun ι => bI ((g_cv M) ι)) (fun ι => nI ((g_qs M) ι)) (fun ι => nI ((g_qu M) ι)) (nI (g_v5 M)) (nI (g_v6 M)) (nI (g_v7 M)))) (P := vp_in (((nI 60) * (nI i)) + (nI t)) 5100) ok_r_endIt rfl (in6 (show i < 85 by omega) ht) ?_
          rw [cl6 (show i < 85 by omega) ht, upd_m, nI_1]
          have e : e1F t a (f + 1) i he = e1F t a f (i + 1) (va_up he (60 * i + t) (none)) := by rw [e1F, if_pos (.inr hx)]
          rw [e] at K
          exact ih (i + 1) (by omega) _ K
set_option maxHeartbeats 4000000 in
theorem lp_e2 {d : Nat} {t : Nat} {y z : Int32} (ht : t < 60) : ∀ (f i : Nat), i + f = 85 → ∀ (c : Nat) (M : MSt), WM M → AW r_endIt (d + 3) (.inl (some (.int (nI (mfn (e2F t f i c M)).2)))) (wM (mfn (e2F t f i c M)).1) (91, [some (.ref 0), some (.int (nI t)), some (.int y), some (.int z), some (.int (nI c)), some (.int (nI i))], [], mL (g_cd M) (g_n M) (g_pr M) (g_st M) (g_he M) (g_wt M) (g_wn M) (g_cv M) (g_qs M) (g_qu M) (g_v5 M) (g_v6 M) (g_v7 M)) := by
  intro f
  induction f with
  | zero =>
    intro i hif c M hM
    refine aq_gn (n := 2) (c1 := (95, [some (.ref 0), some (.int (nI t)), some (.int y), some (.int z), some (.int (nI c)), some (.int (nI i))], [.int (nI 85), .int (nI i)], mL (g_cd M) (g_n M) (g_pr M) (g_st M) (g_he M) (g_wt M) (g_wn M) (g_cv M) (g_qs M) (g_qu M) (g_v5 M) (g_v6 M) (g_v7 M))) ok_r_endIt rfl ?_
    refine aq_icmp_ge ok_r_endIt rfl (fun h => ?_) (fun h => ?_)
    · show AW r_endIt _ _ _ (143, [some (.ref 0), some (.int (nI t)), some (.int y), some (.int z), some (.int (nI c)), some (.int (nI i))], [], mL (g_cd M) (g_n M) (g_pr M) (g_st M) (g_he M) (g_wt M) (g_wn M) (g_cv M) (g_qs M) (g_qu M) (g_v5 M) (g_v6 M) (g_v7 M))
      refine aq_go (n := 7) (c1 := (156, [some (.ref 0), some (.int (nI t)), some (.int y), some (.int z), some (.int (nI c)), some (.int (nI i))], [.int (nI c)], mR (nI (g_cd M)) (nI (g_n M)) (fun ι => nI ((g_pr M) ι)) (fun ι => nI ((g_st M) ι)) (fun ι => oI ((g_he M) ι)) (fun ι => oI ((g_wt M) ι)) (fun ι => nI ((g_wn M) ι)) (fun ι => bI ((g_cv M) ι)) (fun ι => nI ((g_qs M) ι)) (fun ι => nI ((g_qu M) ι)) (nI (g_v5 M)) (nI (g_v6 M)) ((nI (g_v7 M)) + (nI c)))) (P := aq_fi 1 12 = true) ok_r_endIt rfl fi1_12 ?_
      rw [nI_add]
      exact aq_ei ok_r_endIt rfl rfl rfl rfl
    · exact absurd (nI_le (show 85 ≤ i by omega) (by omega)) h
  | succ f ih =>
    intro i hif c M hM
    refine aq_gn (n := 2) (c1 := (95, [some (.ref 0), some (.int (nI t)), some (.int y), some (.int z), some (.int (nI c)), some (.int (nI i))], [.int (nI 85), .int (nI i)], mL (g_cd M) (g_n M) (g_pr M) (g_st M) (g_he M) (g_wt M) (g_wn M) (g_cv M) (g_qs M) (g_qu M) (g_v5 M) (g_v6 M) (g_v7 M))) ok_r_endIt rfl ?_
    refine aq_icmp_ge ok_r_endIt rfl (fun h => ?_) (fun h => ?_)
    · exact absurd (q_le h (by omega) (by omega)) (by omega)
    · refine aq_go (n := 8) (c1 := (110, [some (.ref 0), some (.int (nI t)), some (.int y), some (.int z), some (.int (nI c)), some (.int (nI i))], [.int (oI ((g_he M) (((nI 60) * (nI i)) + (nI t)).toNatClampNeg))], mL (g_cd M) (g_n M) (g_pr M) (g_st M) (g_he M) (g_wt M) (g_wn M) (g_cv M) (g_qs M) (g_qu M) (g_v5 M) (g_v6 M) (g_v7 M))) (P := vp_in (((nI 60) * (nI i)) + (nI t)) 5100) ok_r_endIt rfl (in6 (show i < 85 by omega) ht) ?_
      rw [cl6 (show i < 85 by omega) ht]
      refine aq_if_ge ok_r_endIt rfl (fun h2 => ?_) (fun h2 => ?_)
      · obtain ⟨q, hq⟩ := oI_ge h2
        refine aq_gn (n := 2) (c1 := (91, [some (.ref 0), some (.int (nI t)), some (.int y), some (.int z), some (.int (nI c)), some (.int ((nI i) + 1))], [], mL (g_cd M) (g_n M) (g_pr M) (g_st M) (g_he M) (g_wt M) (g_wn M) (g_cv M) (g_qs M) (g_qu M) (g_v5 M) (g_v6 M) (g_v7 M))) ok_r_endIt rfl ?_
        rw [nI_1]
        have e : e2F t (f + 1) i c M = e2F t f (i + 1) c M := by rw [e2F, if_neg (by rw [hq]; intro q; cases q)]
        rw [e]
        exact ih (i + 1) (by omega) c M hM
      · have hq := oI_nge h2 (fun x q => by have := hM.2.2.2.2.2.2.2 _ x q; omega)
        refine aq_go (n := 12) (c1 := (131, [some (.ref 0), some (.int (nI t)), some (.int y), some (.int z), some (.int (nI c)), some (.int (nI i))], [.int (nI i), .ref 0, .int (nI c)], mR (nI (g_cd M)) (nI (g_n M)) (fun ι => nI ((g_pr M) ι)) (fun ι => nI ((g_st M) ι)) (upd (fun ι => oI ((g_he M) ι)) (((nI 60) * (nI i)) + (nI t)).toNatClampNeg (nI 0)) (fun ι => oI ((g_wt M) ι)) (fun ι => nI ((g_wn M) ι)) (fun ι => bI ((g_cv M) ι)) (fun ι => nI ((g_qs M) ι)) (fun ι => nI ((g_qu M) ι)) (nI (g_v5 M)) (nI (g_v6 M)) (nI (g_v7 M)))) (P := vp_in (((nI 60) * (nI i)) + (nI t)) 5100) ok_r_endIt rfl (in6 (show i < 85 by omega) ht) ?_
        rw [cl6 (show i < 85 by omega) ht, upd_o]
        obtain ⟨Q, hQ⟩ : ∃ Q, Q = m_he M (va_up (g_he M) (60 * i + t) (some 0)) := ⟨_, rfl⟩
        have hWQ : WM Q := by rw [hQ]; exact WM_he0 hM _
        have e : e2F t (f + 1) i c M = e2F t f (i + 1) (c + (ms Q i).2) (ms Q i).1 := by rw [e2F, if_pos hq, hQ]
        rw [e]
        show AW r_endIt _ _ _ (131, [some (.ref 0), some (.int (nI t)), some (.int y), some (.int z), some (.int (nI c)), some (.int (nI i))], [.int (nI i), .ref 0, .int (nI c)], wM (m_he M (va_up (g_he M) (60 * i + t) (some 0))))
        rw [← hQ]
        refine aq_callV (as := [.int (nI i)]) (st := [.int (nI c)]) ok_r_endIt rfl c1_r_serve (rm_serve hWQ (show i < 85 by omega)) rfl (Nat.le_of_ble_eq_true rfl) rfl rfl rfl ?_
        refine aq_gn (n := 4) (c1 := (91, [some (.ref 0), some (.int (nI t)), some (.int y), some (.int z), some (.int ((nI c) + (nI (ms Q i).2))), some (.int ((nI i) + 1))], [], wM (ms Q i).1)) ok_r_endIt rfl ?_
        rw [nI_add, nI_1]
        exact ih (i + 1) (by omega) _ _ (WM_ms hWQ i)
set_option maxHeartbeats 4000000 in
theorem rm_endIt {d : Nat} {M : MSt} {t x : Nat} (hM : WM M) (ht : t < 60) (hx4 : x < 4) : AM r_endIt (d + 3) (.inl (some (.int (nI (mend M t x).2)))) [.ref 0, .int (nI t), .int (nI x)] (wM M) (wM (mend M t x).1) := by
  refine aq_enter pl_r_endIt (Nat.le_of_ble_eq_true rfl) ?_
  show AW r_endIt _ _ _ (0, [some (.ref 0), some (.int (nI t)), some (.int (nI x)), none, none, none], [], mL (g_cd M) (g_n M) (g_pr M) (g_st M) (g_he M) (g_wt M) (g_wn M) (g_cv M) (g_qs M) (g_qu M) (g_v5 M) (g_v6 M) (g_v7 M))
  refine aq_go (n := 6) (c1 := (8, [some (.ref 0), some (.int (nI t)), some (.int (nI x)), some (.int (oI ((g_wt M) (nI t).toNatClampNeg))), none, none], [.int (oI ((g_wt M) (nI t).toNatClampNeg))], mL (g_cd M) (g_n M) (g_pr M) (g_st M) (g_he M) (g_wt M) (g_wn M) (g_cv M) (g_qs M) (g_qu M) (g_v5 M) (g_v6 M) (g_v7 M))) (P := vp_in (nI t) 60) ok_r_endIt rfl (in60 ht) ?_
  rw [cl60 ht]
  refine aq_if_lt ok_r_endIt rfl (fun h => ?_) (fun h => ?_)
  · have hx : g_wt M t = none := by cases hy : g_wt M t with | none => rfl | some o => rw [hy] at h; exact absurd h (nI_pos (by have := hM.2.2.2.1 t o hy; omega))
    rw [hx]
    show AW r_endIt _ _ _ (17, [some (.ref 0), some (.int (nI t)), some (.int (nI x)), some (.int (oI none)), none, none], [], mL (g_cd M) (g_n M) (g_pr M) (g_st M) (g_he M) (g_wt M) (g_wn M) (g_cv M) (g_qs M) (g_qu M) (g_v5 M) (g_v6 M) (g_v7 M))
    obtain ⟨L, hL⟩ : ∃ L, L = M := ⟨_, rfl⟩
    have hWL : WM L := by rw [hL]; exact hM
    have e : mend M t x = mfn (e2F t 85 0 0 (m_he (m_ws L t x) (e1F t (none) 85 0 (g_he L)))) := by rw [mend, mlv, hx, hL]
    rw [e]
    show AW r_endIt _ _ _ (17, [some (.ref 0), some (.int (nI t)), some (.int (nI x)), some (.int (oI none)), none, none], [], wM (M))
    rw [← hL]
    show AW r_endIt _ _ _ (17, [some (.ref 0), some (.int (nI t)), some (.int (nI x)), some (.int (oI none)), none, none], [], mL (g_cd L) (g_n L) (g_pr L) (g_st L) (g_he L) (g_wt L) (g_wn L) (g_cv L) (g_qs L) (g_qu L) (g_v5 L) (g_v6 L) (g_v7 L))
    refine aq_go (n := 14) (c1 := (37, [some (.ref 0), some (.int (nI t)), some (.int (nI x)), some (.int (oI none)), some (.int (nI 0)), some (.int (nI 0))], [], mR (nI (g_cd L)) (nI (g_n L)) (fun ι => nI ((g_pr L) ι)) (upd (fun ι => nI ((g_st L) ι)) (nI t).toNatClampNeg (nI x)) (fun ι => oI ((g_he L) ι)) (upd (fun ι => oI ((g_wt L) ι)) (nI t).toNatClampNeg (-1)) (fun ι => nI ((g_wn L) ι)) (fun ι => bI ((g_cv L) ι)) (fun ι => nI ((g_qs L) ι)) (fun ι => nI ((g_qu L) ι)) (nI (g_v5 L)) (nI (g_v6 L)) (nI (g_v7 L)))) (P := vp_in (nI t) 60 ∧ vp_in (nI t) 60) ok_r_endIt rfl ⟨(in60 ht), (in60 ht)⟩ ?_
    rw [cl60 ht, upd_m, upd_n]
    refine lp_e1 (M := m_ws L t x) ht (fun x q => by cases q) 85 0 (by omega) (g_he L) ?_
    obtain ⟨Q, hQ⟩ : ∃ Q, Q = m_he (m_ws L t x) (e1F t (none) 85 0 (g_he L)) := ⟨_, rfl⟩
    have hWQ : WM Q := by rw [hQ]; exact WM_he (WM_ws hWL t hx4) (e1F_lt _ _ _ hWL.2.2.2.2.2.2.2)
    rw [← hQ]
    refine aq_gn (n := 2) (c1 := (91, [some (.ref 0), some (.int (nI t)), some (.int (nI x)), some (.int (oI (none))), some (.int (nI 0)), some (.int (nI 0))], [], wM Q)) ok_r_endIt rfl ?_
    exact lp_e2 ht 85 0 (by omega) 0 Q hWQ
  · obtain ⟨o, hx⟩ : ∃ o, g_wt M t = some o := by cases hy : g_wt M t with | none => rw [hy] at h; exact absurd (by decide) h | some o => exact ⟨o, rfl⟩
    have ho := hM.2.2.2.1 t o hx
    rw [hx]
    show AW r_endIt _ _ _ (11, [some (.ref 0), some (.int (nI t)), some (.int (nI x)), some (.int (nI o)), none, none], [], mL (g_cd M) (g_n M) (g_pr M) (g_st M) (g_he M) (g_wt M) (g_wn M) (g_cv M) (g_qs M) (g_qu M) (g_v5 M) (g_v6 M) (g_v7 M))
    refine aq_gn (n := 3) (c1 := (14, [some (.ref 0), some (.int (nI t)), some (.int (nI x)), some (.int (nI o)), none, none], [.int (nI o), .int (nI t), .ref 0], mL (g_cd M) (g_n M) (g_pr M) (g_st M) (g_he M) (g_wt M) (g_wn M) (g_cv M) (g_qs M) (g_qu M) (g_v5 M) (g_v6 M) (g_v7 M))) ok_r_endIt rfl ?_
    refine aq_callV (as := [.int (nI t), .int (nI o)]) (st := []) ok_r_endIt rfl c1_r_dequeue (rm_dequeue (d := d + 2) ht ho (hM.2.2.1 o) hM.2.1) rfl (Nat.le_of_ble_eq_true rfl) rfl rfl rfl ?_
    obtain ⟨L, hL⟩ : ∃ L, L = m_dq M t o := ⟨_, rfl⟩
    have hWL : WM L := by rw [hL]; exact WM_dq hM t o
    have e : mend M t x = mfn (e2F t 85 0 0 (m_he (m_ws L t x) (e1F t (some o) 85 0 (g_he L)))) := by rw [mend, mlv, hx, hL]
    rw [e]
    show AW r_endIt _ _ _ (17, [some (.ref 0), some (.int (nI t)), some (.int (nI x)), some (.int (oI (some o))), none, none], [], wM (m_dq M t o))
    rw [← hL]
    show AW r_endIt _ _ _ (17, [some (.ref 0), some (.int (nI t)), some (.int (nI x)), some (.int (oI (some o))), none, none], [], mL (g_cd L) (g_n L) (g_pr L) (g_st L) (g_he L) (g_wt L) (g_wn L) (g_cv L) (g_qs L) (g_qu L) (g_v5 L) (g_v6 L) (g_v7 L))
    refine aq_go (n := 14) (c1 := (37, [some (.ref 0), some (.int (nI t)), some (.int (nI x)), some (.int (oI (some o))), some (.int (nI 0)), some (.int (nI 0))], [], mR (nI (g_cd L)) (nI (g_n L)) (fun ι => nI ((g_pr L) ι)) (upd (fun ι => nI ((g_st L) ι)) (nI t).toNatClampNeg (nI x)) (fun ι => oI ((g_he L) ι)) (upd (fun ι => oI ((g_wt L) ι)) (nI t).toNatClampNeg (-1)) (fun ι => nI ((g_wn L) ι)) (fun ι => bI ((g_cv L) ι)) (fun ι => nI ((g_qs L) ι)) (fun ι => nI ((g_qu L) ι)) (nI (g_v5 L)) (nI (g_v6 L)) (nI (g_v7 L)))) (P := vp_in (nI t) 60 ∧ vp_in (nI t) 60) ok_r_endIt rfl ⟨(in60 ht), (in60 ht)⟩ ?_
    rw [cl60 ht, upd_m, upd_n]
    refine lp_e1 (M := m_ws L t x) ht (fun x q => by cases q; exact ho) 85 0 (by omega) (g_he L) ?_
    obtain ⟨Q, hQ⟩ : ∃ Q, Q = m_he (m_ws L t x) (e1F t (some o) 85 0 (g_he L)) := ⟨_, rfl⟩
    have hWQ : WM Q := by rw [hQ]; exact WM_he (WM_ws hWL t hx4) (e1F_lt _ _ _ hWL.2.2.2.2.2.2.2)
    rw [← hQ]
    refine aq_gn (n := 2) (c1 := (91, [some (.ref 0), some (.int (nI t)), some (.int (nI x)), some (.int (oI (some o))), some (.int (nI 0)), some (.int (nI 0))], [], wM Q)) ok_r_endIt rfl ?_
    exact lp_e2 ht 85 0 (by omega) 0 Q hWQ
