/-! THE REFERENCE: at, isBelow, escalate -/
def hv (x : Option Nat) : Option Nat := match x with
  | some (m + 1) => some m
  | _ => none
theorem mdI_v {he : Nat → Option Nat} {t o : Nat} (h : ¬ he (60 * o + t) = none) : mdI he t o = oI (hv (he (60 * o + t))) := by
  unfold mdI
  match q : he (60 * o + t) with
  | none => exact absurd q h
  | some 0 => exact (by decide : oI (some 0) - nI 1 = -1)
  | some (m + 1) =>
    show nI (m + 1) - nI 1 = nI m
    rw [← nI_add, Int32.add_sub_cancel]
theorem hv_lt {x : Option Nat} (h : ∀ y, x = some y → y < 6) : ∀ y, hv x = some y → y < 5 := by
  intro y q
  match x, q, h with
  | none, q, _ => cases q
  | some 0, q, _ => cases q
  | some (m + 1), q, h =>
    have := h (m + 1) rfl
    cases q
    omega
/-- no marks -/
def WN (M : MSt) : Prop := ∀ i, ¬ g_he M i = none
theorem dv4 : ∀ x, x < 85 → 0 < x → (nI x - nI 1) / nI 4 = nI ((x - 1) / 4) := by decide +kernel
def rbF (top : Nat) : Nat → Nat → Nat
  | 0, x => x
  | f + 1, x => if x ≤ top then x else rbF top f ((x - 1) / 4)
def rb (o top : Nat) : Bool := decide (top < o) && decide (rbF top 85 o = top)
theorem rlI_lub : ∀ a, a < 5 → ∀ m, m < 5 → rlI (nI a) (nI m) = nI (lub (some a) m) := by decide +kernel
set_option maxHeartbeats 4000000 in
theorem lp_rb {d : Nat} {w : List va_E} {o u : Nat} (ho : o < 85) (hu : u < 85) : ∀ (f x : Nat), x ≤ f → x < 85 → AW r_isBelow d (.inl (some (.int (bI (decide (u < o) && decide (rbF u f x = u)))))) w (2, [some (.int (nI o)), some (.int (nI u)), some (.int (nI x))], [], w) := by
  intro f
  induction f with
  | zero =>
    intro x hx hx8
    refine aq_gn (n := 2) (c1 := (4, [some (.int (nI o)), some (.int (nI u)), some (.int (nI x))], [.int (nI u), .int (nI x)], w)) ok_r_isBelow rfl ?_
    refine aq_icmp_le ok_r_isBelow rfl (fun h => ?_) (fun h => ?_)
    · rw [rbF]
      refine aq_gn (n := 2) (c1 := (18, [some (.int (nI o)), some (.int (nI u)), some (.int (nI x))], [.int (nI u), .int (nI o)], w)) ok_r_isBelow rfl ?_
      refine aq_icmp_le ok_r_isBelow rfl (fun h2 => ?_) (fun h2 => ?_)
      · have hc := q_le h2 (by omega) (by omega)
        refine aq_gn (n := 1) (c1 := (31, [some (.int (nI o)), some (.int (nI u)), some (.int (nI x))], [.int (nI 0)], w)) ok_r_isBelow rfl ?_
        exact aq_ez ok_r_isBelow rfl rfl (by simp [show ¬ u < o by omega]; rfl) rfl
      · have hc := q_nle h2 (by omega) (by omega)
        refine aq_gn (n := 2) (c1 := (23, [some (.int (nI o)), some (.int (nI u)), some (.int (nI x))], [.int (nI u), .int (nI x)], w)) ok_r_isBelow rfl ?_
        refine aq_icmp_ne ok_r_isBelow rfl (fun h3 => ?_) (fun h3 => ?_)
        · have hd := q_ne h3
          refine aq_gn (n := 1) (c1 := (31, [some (.int (nI o)), some (.int (nI u)), some (.int (nI x))], [.int (nI 0)], w)) ok_r_isBelow rfl ?_
          exact aq_ez ok_r_isBelow rfl rfl (by simp [hd]; rfl) rfl
        · have hd := q_eq h3 (by omega) (by omega)
          refine aq_gn (n := 2) (c1 := (31, [some (.int (nI o)), some (.int (nI u)), some (.int (nI x))], [.int (nI 1)], w)) ok_r_isBelow rfl ?_
          exact aq_ez ok_r_isBelow rfl rfl (by simp [hc, hd]; rfl) rfl
    · exact absurd (nI_le (show x ≤ u by omega) (by omega)) h
  | succ f ih =>
    intro x hx hx8
    refine aq_gn (n := 2) (c1 := (4, [some (.int (nI o)), some (.int (nI u)), some (.int (nI x))], [.int (nI u), .int (nI x)], w)) ok_r_isBelow rfl ?_
    refine aq_icmp_le ok_r_isBelow rfl (fun h => ?_) (fun h => ?_)
    · have hb := q_le h (by omega) (by omega)
      rw [rbF, if_pos hb]
      refine aq_gn (n := 2) (c1 := (18, [some (.int (nI o)), some (.int (nI u)), some (.int (nI x))], [.int (nI u), .int (nI o)], w)) ok_r_isBelow rfl ?_
      refine aq_icmp_le ok_r_isBelow rfl (fun h2 => ?_) (fun h2 => ?_)
      · have hc := q_le h2 (by omega) (by omega)
        refine aq_gn (n := 1) (c1 := (31, [some (.int (nI o)), some (.int (nI u)), some (.int (nI x))], [.int (nI 0)], w)) ok_r_isBelow rfl ?_
        exact aq_ez ok_r_isBelow rfl rfl (by simp [show ¬ u < o by omega]; rfl) rfl
      · have hc := q_nle h2 (by omega) (by omega)
        refine aq_gn (n := 2) (c1 := (23, [some (.int (nI o)), some (.int (nI u)), some (.int (nI x))], [.int (nI u), .int (nI x)], w)) ok_r_isBelow rfl ?_
        refine aq_icmp_ne ok_r_isBelow rfl (fun h3 => ?_) (fun h3 => ?_)
        · have hd := q_ne h3
          refine aq_gn (n := 1) (c1 := (31, [some (.int (nI o)), some (.int (nI u)), some (.int (nI x))], [.int (nI 0)], w)) ok_r_isBelow rfl ?_
          exact aq_ez ok_r_isBelow rfl rfl (by simp [hd]; rfl) rfl
        · have hd := q_eq h3 (by omega) (by omega)
          refine aq_gn (n := 2) (c1 := (31, [some (.int (nI o)), some (.int (nI u)), some (.int (nI x))], [.int (nI 1)], w)) ok_r_isBelow rfl ?_
          exact aq_ez ok_r_isBelow rfl rfl (by simp [hc, hd]; rfl) rfl
    · have hc := q_nle h (by omega) (by omega)
      refine aq_go (n := 7) (c1 := (2, [some (.int (nI o)), some (.int (nI u)), some (.int (((nI x) - (nI 1)) / (nI 4)))], [], w)) (P := ¬ (nI 4) = 0) ok_r_isBelow rfl (by decide) ?_
      rw [dv4 x hx8 (by omega), rbF, if_neg (by omega)]
      exact ih _ (by omega) (by omega)
set_option maxHeartbeats 4000000 in
theorem rm_isBelow {d : Nat} {w : List va_E} {o u : Nat} (ho : o < 85) (hu : u < 85) : AM r_isBelow (d) (.inl (some (.int (bI (rb o u))))) [.int (nI o), .int (nI u)] (w) (w) := by
  refine aq_enter pl_r_isBelow (Nat.le_of_ble_eq_true rfl) ?_
  refine aq_gn (n := 2) (c1 := (2, [some (.int (nI o)), some (.int (nI u)), some (.int (nI o))], [], w)) ok_r_isBelow rfl ?_
  exact lp_rb ho hu 85 o (by omega) ho
def maF (he : Nat → Option Nat) (o : Nat) : Nat → Nat → Int32 → Option Nat → Option Nat
  | 0, _, _, a => a
  | f + 1, u, l, a => if mdI he u o < 0 then maF he o f (u + 1) l a else maF he o f (u + 1) (l + (-1)) (if l = 0 then some u else a)
def maq (M : MSt) (o : Nat) (x : Int32) (b : Bool) : Option Nat := if b then (if x < 0 ∨ nI (g_qs M o) ≤ x then none else some (g_qu M (60 * o + x.toNatClampNeg))) else maF (g_he M) o (g_n M) 0 x none
set_option maxHeartbeats 4000000 in
theorem rm_at_o {d : Nat} {M : MSt} {x y z : Int32} (hy : y < 0 ∨ nI 85 ≤ y) : AM r_at (d + 1) (.inl (some (.int (nI 0)))) [.ref 0, .int y, .int x, .int z] (wM M) (wM (m_cd M 1)) := by
  refine aq_enter pl_r_at (Nat.le_of_ble_eq_true rfl) ?_
  refine aq_gn (n := 2) (c1 := (2, [some (.ref 0), some (.int y), some (.int x), some (.int z), none, none, none], [.int y, .ref 0], wM M)) ok_r_at rfl ?_
  refine aq_callS (as := [.int y]) (st := [.ref 0]) ok_r_at rfl c1_r_isObject (rm_isObject y) rfl (Nat.le_of_ble_eq_true rfl) ?_
  rw [isT_out hy]
  refine aq_if_eq ok_r_at rfl (fun h2 => ?_) (fun h2 => ?_)
  · show AW r_at _ _ _ (12, [some (.ref 0), some (.int y), some (.int x), some (.int z), none, none, none], [.ref 0], mL (g_cd M) (g_n M) (g_pr M) (g_st M) (g_he M) (g_wt M) (g_wn M) (g_cv M) (g_qs M) (g_qu M) (g_v5 M) (g_v6 M) (g_v7 M))
    refine aq_go (n := 4) (c1 := (20, [some (.ref 0), some (.int y), some (.int x), some (.int z), none, none, none], [.int (nI 1)], mR (nI 1) (nI (g_n M)) (fun ι => nI ((g_pr M) ι)) (fun ι => nI ((g_st M) ι)) (fun ι => oI ((g_he M) ι)) (fun ι => oI ((g_wt M) ι)) (fun ι => nI ((g_wn M) ι)) (fun ι => bI ((g_cv M) ι)) (fun ι => nI ((g_qs M) ι)) (fun ι => nI ((g_qu M) ι)) (nI (g_v5 M)) (nI (g_v6 M)) (nI (g_v7 M)))) (P := aq_fi 1 0 = true) ok_r_at rfl fi1_0 ?_
    show AW r_at _ _ _ (20, [some (.ref 0), some (.int y), some (.int x), some (.int z), none, none, none], [.int (nI 1)], wM (m_cd M 1))
    refine aq_if_le ok_r_at rfl (fun hz => ?_) (fun hz => ?_)
    · exact absurd hz c_le1
    · refine aq_gn (n := 1) (c1 := (24, [some (.ref 0), some (.int y), some (.int x), some (.int z), none, none, none], [.int (nI 0)], wM (m_cd M 1))) ok_r_at rfl ?_
      exact aq_ei ok_r_at rfl rfl rfl rfl
  · exact absurd rfl h2
def maA (a : Option Nat) : Nat := a.getD 0
def maC (a : Option Nat) : Nat := match a with
  | none => 1
  | some _ => 0
set_option maxHeartbeats 4000000 in
theorem lp_at9 {d : Nat} {M : MSt} {a : Option Nat} {al : List (Option Value)} {x1 x2 x3 x5 x6 : Option Value} (hlt : ∀ x, a = some x → x < 60) : AW r_at d (.inl (some (.int (nI (maA (a)))))) (wM (m_cd M (maC (a)))) (114, [some (.ref 0), x1, x2, x3, some (.int (oI a)), x5, x6], [], wM M) := by
  refine aq_drop 6 ?_
  refine aq_drop 5 ?_
  refine aq_drop 3 ?_
  refine aq_drop 2 ?_
  refine aq_drop 1 ?_
  show AW r_at _ _ _ (114, [some (.ref 0), none, none, none, some (.int (oI a)), none, none], [], mL (g_cd M) (g_n M) (g_pr M) (g_st M) (g_he M) (g_wt M) (g_wn M) (g_cv M) (g_qs M) (g_qu M) (g_v5 M) (g_v6 M) (g_v7 M))
  refine aq_gn (n := 2) (c1 := (117, [some (.ref 0), none, none, none, some (.int (oI a)), none, none], [.int (oI a), .ref 0], mL (g_cd M) (g_n M) (g_pr M) (g_st M) (g_he M) (g_wt M) (g_wn M) (g_cv M) (g_qs M) (g_qu M) (g_v5 M) (g_v6 M) (g_v7 M))) ok_r_at rfl ?_
  refine aq_if_ge ok_r_at rfl (fun h9 => ?_) (fun h9 => ?_)
  · obtain ⟨t, hq⟩ := oI_ge h9
    refine aq_go (n := 4) (c1 := (132, [some (.ref 0), none, none, none, some (.int (oI a)), none, none], [.int (nI 0)], mR (nI 0) (nI (g_n M)) (fun ι => nI ((g_pr M) ι)) (fun ι => nI ((g_st M) ι)) (fun ι => oI ((g_he M) ι)) (fun ι => oI ((g_wt M) ι)) (fun ι => nI ((g_wn M) ι)) (fun ι => bI ((g_cv M) ι)) (fun ι => nI ((g_qs M) ι)) (fun ι => nI ((g_qu M) ι)) (nI (g_v5 M)) (nI (g_v6 M)) (nI (g_v7 M)))) (P := aq_fi 1 0 = true) ok_r_at rfl fi1_0 ?_
    show AW r_at _ _ _ (132, [some (.ref 0), none, none, none, some (.int (oI a)), none, none], [.int (nI 0)], wM (m_cd M 0))
    refine aq_if_le ok_r_at rfl (fun hz => ?_) (fun hz => ?_)
    · refine aq_gn (n := 1) (c1 := (141, [some (.ref 0), none, none, none, some (.int (oI a)), none, none], [.int (oI a)], wM (m_cd M 0))) ok_r_at rfl ?_
      exact aq_ei ok_r_at rfl rfl (by rw [hq]; rfl) (by rw [hq]; rfl)
    · exact absurd c_le0 hz
  · have hq := oI_nge h9 (fun x q => by have := hlt x q; omega)
    refine aq_go (n := 5) (c1 := (132, [some (.ref 0), none, none, none, some (.int (oI a)), none, none], [.int (nI 1)], mR (nI 1) (nI (g_n M)) (fun ι => nI ((g_pr M) ι)) (fun ι => nI ((g_st M) ι)) (fun ι => oI ((g_he M) ι)) (fun ι => oI ((g_wt M) ι)) (fun ι => nI ((g_wn M) ι)) (fun ι => bI ((g_cv M) ι)) (fun ι => nI ((g_qs M) ι)) (fun ι => nI ((g_qu M) ι)) (nI (g_v5 M)) (nI (g_v6 M)) (nI (g_v7 M)))) (P := aq_fi 1 0 = true) ok_r_at rfl fi1_0 ?_
    show AW r_at _ _ _ (132, [some (.ref 0), none, none, none, some (.int (oI a)), none, none], [.int (nI 1)], wM (m_cd M 1))
    refine aq_if_le ok_r_at rfl (fun hz => ?_) (fun hz => ?_)
    · exact absurd hz c_le1
    · refine aq_gn (n := 2) (c1 := (141, [some (.ref 0), none, none, none, some (.int (oI a)), none, none], [.int (nI 0)], wM (m_cd M 1))) ok_r_at rfl ?_
      exact aq_ei ok_r_at rfl rfl (by rw [hq]; rfl) (by rw [hq]; rfl)
theorem maF_lt {he : Nat → Option Nat} {o : Nat} : ∀ (f u : Nat) (l : Int32) (a : Option Nat), (∀ x, a = some x → x < u) → ∀ x, maF he o f u l a = some x → x < u + f := by
  intro f
  induction f with
  | zero => intro u l a h; exact h
  | succ f ih =>
    intro u l a h x q
    unfold maF at q
    split at q
    · have := ih (u + 1) l a (fun y z => by have := h y z; omega) x q; omega
    · have := ih (u + 1) _ _ (fun y z => by
        split at z
        · cases z; omega
        · have := h y z; omega) x q
      omega
set_option maxHeartbeats 4000000 in
theorem lp_at {d : Nat} {M : MSt} {o : Nat} {x2 x3 : Int32} (hn : g_n M ≤ 60) (ho : o < 85) : ∀ (f i : Nat), i + f = g_n M → ∀ (l : Int32) (a : Option Nat), (∀ x, a = some x → x < i) → AW r_at (d + 1) (.inl (some (.int (nI (maA (maF (g_he M) o f i l a)))))) (wM (m_cd M (maC (maF (g_he M) o f i l a)))) (72, [some (.ref 0), some (.int (nI o)), some (.int x2), some (.int x3), some (.int (oI a)), some (.int l), some (.int (nI i))], [], mL (g_cd M) (g_n M) (g_pr M) (g_st M) (g_he M) (g_wt M) (g_wn M) (g_cv M) (g_qs M) (g_qu M) (g_v5 M) (g_v6 M) (g_v7 M)) := by
  intro f
  induction f with
  | zero =>
    intro i hif l a ha
    refine aq_gn (n := 3) (c1 := (78, [some (.ref 0), some (.int (nI o)), some (.int x2), some (.int x3), some (.int (oI a)), some (.int l), some (.int (nI i))], [.int (nI (g_n M)), .int (nI i)], mL (g_cd M) (g_n M) (g_pr M) (g_st M) (g_he M) (g_wt M) (g_wn M) (g_cv M) (g_qs M) (g_qu M) (g_v5 M) (g_v6 M) (g_v7 M))) ok_r_at rfl ?_
    refine aq_icmp_ge ok_r_at rfl (fun h => ?_) (fun h => ?_)
    · exact lp_at9 (al := []) (fun x q => by have := ha x q; omega)
    · exact absurd (nI_le (show g_n M ≤ i by omega) (by omega)) h
  | succ f ih =>
    intro i hif l a ha
    refine aq_gn (n := 3) (c1 := (78, [some (.ref 0), some (.int (nI o)), some (.int x2), some (.int x3), some (.int (oI a)), some (.int l), some (.int (nI i))], [.int (nI (g_n M)), .int (nI i)], mL (g_cd M) (g_n M) (g_pr M) (g_st M) (g_he M) (g_wt M) (g_wn M) (g_cv M) (g_qs M) (g_qu M) (g_v5 M) (g_v6 M) (g_v7 M))) ok_r_at rfl ?_
    refine aq_icmp_ge ok_r_at rfl (fun h => ?_) (fun h => ?_)
    · exact absurd (q_le h (by omega) (by omega)) (by omega)
    · refine aq_gn (n := 3) (c1 := (85, [some (.ref 0), some (.int (nI o)), some (.int x2), some (.int x3), some (.int (oI a)), some (.int l), some (.int (nI i))], [.int (nI o), .int (nI i), .ref 0], wM M)) ok_r_at rfl ?_
      refine aq_callV (as := [.int (nI i), .int (nI o)]) (st := []) ok_r_at rfl c1_r_modeOf (rm_modeOfM (show i < 60 by omega) ho) rfl (Nat.le_of_ble_eq_true rfl) rfl rfl rfl ?_
      refine aq_if_lt ok_r_at rfl (fun h2 => ?_) (fun h2 => ?_)
      · refine aq_gn (n := 2) (c1 := (72, [some (.ref 0), some (.int (nI o)), some (.int x2), some (.int x3), some (.int (oI a)), some (.int l), some (.int ((nI i) + 1))], [], mL (g_cd M) (g_n M) (g_pr M) (g_st M) (g_he M) (g_wt M) (g_wn M) (g_cv M) (g_qs M) (g_qu M) (g_v5 M) (g_v6 M) (g_v7 M))) ok_r_at rfl ?_
        rw [nI_1]
        have e : maF (g_he M) o (f + 1) i l a = maF (g_he M) o f (i + 1) (l) (a) := by rw [maF, if_pos h2]
        rw [e]
        exact ih (i + 1) (by omega) _ _ (fun x q => by have := ha x q; omega)
      · refine aq_gn (n := 1) (c1 := (93, [some (.ref 0), some (.int (nI o)), some (.int x2), some (.int x3), some (.int (oI a)), some (.int l), some (.int (nI i))], [.int l], mL (g_cd M) (g_n M) (g_pr M) (g_st M) (g_he M) (g_wt M) (g_wn M) (g_cv M) (g_qs M) (g_qu M) (g_v5 M) (g_v6 M) (g_v7 M))) ok_r_at rfl ?_
        refine aq_if_ne ok_r_at rfl (fun h3 => ?_) (fun h3 => ?_)
        · refine aq_gn (n := 5) (c1 := (72, [some (.ref 0), some (.int (nI o)), some (.int x2), some (.int x3), some (.int (oI a)), some (.int (l + (-1))), some (.int ((nI i) + 1))], [], mL (g_cd M) (g_n M) (g_pr M) (g_st M) (g_he M) (g_wt M) (g_wn M) (g_cv M) (g_qs M) (g_qu M) (g_v5 M) (g_v6 M) (g_v7 M))) ok_r_at rfl ?_
          rw [nI_1]
          have e : maF (g_he M) o (f + 1) i l a = maF (g_he M) o f (i + 1) (l + (-1)) (a) := by rw [maF, if_neg h2, if_neg h3]
          rw [e]
          exact ih (i + 1) (by omega) _ _ (fun x q => by have := ha x q; omega)
        · refine aq_gn (n := 6) (c1 := (72, [some (.ref 0), some (.int (nI o)), some (.int x2), some (.int x3), some (.int (nI i)), some (.int (l + (-1))), some (.int ((nI i) + 1))], [], mL (g_cd M) (g_n M) (g_pr M) (g_st M) (g_he M) (g_wt M) (g_wn M) (g_cv M) (g_qs M) (g_qu M) (g_v5 M) (g_v6 M) (g_v7 M))) ok_r_at rfl ?_
          rw [nI_1]
          have e : maF (g_he M) o (f + 1) i l a = maF (g_he M) o f (i + 1) (l + (-1)) (some i) := by rw [maF, if_neg h2, if_pos h3]
          rw [e]
          exact ih (i + 1) (by omega) _ (some i) (fun x q => by cases q; omega)
theorem I_nat {x : Int32} {n : Nat} (h : ¬ x < 0) (hn : n < 2 ^ 31) (h2 : ¬ nI n ≤ x) : ∃ j, x = nI j ∧ j < n := by
  have h1 : 0 ≤ x.toInt := by
    rw [Int32.lt_iff_toInt_lt] at h
    have : (0 : Int32).toInt = 0 := rfl
    omega
  have h3 : x.toInt < n := by
    rw [Int32.le_iff_toInt_le, nI_toInt hn] at h2
    omega
  refine ⟨x.toInt.toNat, ?_, by omega⟩
  apply Int32.toInt_inj.mp
  rw [nI_toInt (by omega)]
  omega
set_option maxHeartbeats 4000000 in
theorem rm_at {d : Nat} {M : MSt} {o : Nat} {x : Int32} {b : Bool} (hM : WM M) (ho : o < 85) : AM r_at (d + 1) (.inl (some (.int (nI (maA (maq M o x b)))))) [.ref 0, .int (nI o), .int x, .int (bI b)] (wM M) (wM (m_cd M (maC (maq M o x b)))) := by
  refine aq_enter pl_r_at (Nat.le_of_ble_eq_true rfl) ?_
  refine aq_gn (n := 2) (c1 := (2, [some (.ref 0), some (.int (nI o)), some (.int x), some (.int (bI b)), none, none, none], [.int (nI o), .ref 0], wM M)) ok_r_at rfl ?_
  refine aq_callS (as := [.int (nI o)]) (st := [.ref 0]) ok_r_at rfl c1_r_isObject (rm_isObject (nI o)) rfl (Nat.le_of_ble_eq_true rfl) ?_
  rw [isT_in ho (by omega)]
  refine aq_if_eq ok_r_at rfl (fun h2 => ?_) (fun h2 => ?_)
  · exact absurd h2 bI_t
  · show AW r_at _ _ _ (8, [some (.ref 0), some (.int (nI o)), some (.int x), some (.int (bI b)), none, none, none], [.ref 0], mL (g_cd M) (g_n M) (g_pr M) (g_st M) (g_he M) (g_wt M) (g_wn M) (g_cv M) (g_qs M) (g_qu M) (g_v5 M) (g_v6 M) (g_v7 M))
    refine aq_go (n := 5) (c1 := (20, [some (.ref 0), some (.int (nI o)), some (.int x), some (.int (bI b)), none, none, none], [.int (nI 0)], mR (nI 0) (nI (g_n M)) (fun ι => nI ((g_pr M) ι)) (fun ι => nI ((g_st M) ι)) (fun ι => oI ((g_he M) ι)) (fun ι => oI ((g_wt M) ι)) (fun ι => nI ((g_wn M) ι)) (fun ι => bI ((g_cv M) ι)) (fun ι => nI ((g_qs M) ι)) (fun ι => nI ((g_qu M) ι)) (nI (g_v5 M)) (nI (g_v6 M)) (nI (g_v7 M)))) (P := aq_fi 1 0 = true) ok_r_at rfl fi1_0 ?_
    show AW r_at _ _ _ (20, [some (.ref 0), some (.int (nI o)), some (.int x), some (.int (bI b)), none, none, none], [.int (nI 0)], wM (m_cd M 0))
    refine aq_if_le ok_r_at rfl (fun hz => ?_) (fun hz => ?_)
    · refine aq_gn (n := 3) (c1 := (29, [some (.ref 0), some (.int (nI o)), some (.int x), some (.int (bI b)), some (.int (-1)), none, none], [.int (bI b)], wM (m_cd M 0))) ok_r_at rfl ?_
      refine aq_if_eq ok_r_at rfl (fun h3 => ?_) (fun h3 => ?_)
      · have hb := (bI_0 _).mp h3
        subst hb
        refine aq_gn (n := 4) (c1 := (72, [some (.ref 0), some (.int (nI o)), some (.int x), some (.int (bI false)), some (.int (-1)), some (.int x), some (.int (nI 0))], [], wM (m_cd M 0))) ok_r_at rfl ?_
        exact lp_at (M := m_cd M 0) hM.1 ho (g_n M) 0 (Nat.zero_add _) x none (fun x q => by cases q)
      · have hb : b = true := by cases b with | true => rfl | false => exact absurd rfl h3
        subst hb
        refine aq_gn (n := 1) (c1 := (33, [some (.ref 0), some (.int (nI o)), some (.int x), some (.int (bI true)), some (.int (-1)), none, none], [.int x], wM (m_cd M 0))) ok_r_at rfl ?_
        refine aq_if_lt ok_r_at rfl (fun h4 => ?_) (fun h4 => ?_)
        · refine aq_gn (n := 3) (c1 := (114, [some (.ref 0), some (.int (nI o)), some (.int x), some (.int (bI true)), some (.int (-1)), none, none], [], wM (m_cd M 0))) ok_r_at rfl ?_
          have e : maq M o x true = none := by rw [maq, if_pos rfl, if_pos (.inl h4)]
          rw [e]
          exact lp_at9 (M := m_cd M 0) (a := none) (al := []) (fun x q => by cases q)
        · show AW r_at _ _ _ (36, [some (.ref 0), some (.int (nI o)), some (.int x), some (.int (bI true)), some (.int (-1)), none, none], [], mL (g_cd (m_cd M 0)) (g_n (m_cd M 0)) (g_pr (m_cd M 0)) (g_st (m_cd M 0)) (g_he (m_cd M 0)) (g_wt (m_cd M 0)) (g_wn (m_cd M 0)) (g_cv (m_cd M 0)) (g_qs (m_cd M 0)) (g_qu (m_cd M 0)) (g_v5 (m_cd M 0)) (g_v6 (m_cd M 0)) (g_v7 (m_cd M 0)))
          refine aq_go (n := 5) (c1 := (43, [some (.ref 0), some (.int (nI o)), some (.int x), some (.int (bI true)), some (.int (-1)), none, none], [.int (nI ((g_qs (m_cd M 0)) (nI o).toNatClampNeg)), .int x], mL (g_cd (m_cd M 0)) (g_n (m_cd M 0)) (g_pr (m_cd M 0)) (g_st (m_cd M 0)) (g_he (m_cd M 0)) (g_wt (m_cd M 0)) (g_wn (m_cd M 0)) (g_cv (m_cd M 0)) (g_qs (m_cd M 0)) (g_qu (m_cd M 0)) (g_v5 (m_cd M 0)) (g_v6 (m_cd M 0)) (g_v7 (m_cd M 0)))) (P := vp_in (nI o) 85) ok_r_at rfl (inN ho (by omega)) ?_
          rw [clN (show o < 6000 by omega)]
          refine aq_icmp_ge ok_r_at rfl (fun h5 => ?_) (fun h5 => ?_)
          · show AW r_at _ _ _ (60, [some (.ref 0), some (.int (nI o)), some (.int x), some (.int (bI true)), some (.int (-1)), none, none], [], wM (m_cd M 0))
            refine aq_gn (n := 3) (c1 := (114, [some (.ref 0), some (.int (nI o)), some (.int x), some (.int (bI true)), some (.int (-1)), none, none], [], wM (m_cd M 0))) ok_r_at rfl ?_
            have e : maq M o x true = none := by rw [maq, if_pos rfl, if_pos (.inr h5)]
            rw [e]
            exact lp_at9 (M := m_cd M 0) (a := none) (al := []) (fun x q => by cases q)
          · obtain ⟨j, rfl, hj⟩ := I_nat h4 (show g_qs M o < 2 ^ 31 by have := hM.2.2.1 o; omega) h5
            show AW r_at _ _ _ (46, [some (.ref 0), some (.int (nI o)), some (.int (nI j)), some (.int (bI true)), some (.int (-1)), none, none], [], mL (g_cd (m_cd M 0)) (g_n (m_cd M 0)) (g_pr (m_cd M 0)) (g_st (m_cd M 0)) (g_he (m_cd M 0)) (g_wt (m_cd M 0)) (g_wn (m_cd M 0)) (g_cv (m_cd M 0)) (g_qs (m_cd M 0)) (g_qu (m_cd M 0)) (g_v5 (m_cd M 0)) (g_v6 (m_cd M 0)) (g_v7 (m_cd M 0)))
            have hj6 : j < 60 := by have := hM.2.2.1 o; omega
            refine aq_go (n := 11) (c1 := (114, [some (.ref 0), some (.int (nI o)), some (.int (nI j)), some (.int (bI true)), some (.int (nI ((g_qu (m_cd M 0)) (((nI 60) * (nI o)) + (nI j)).toNatClampNeg))), none, none], [], mL (g_cd (m_cd M 0)) (g_n (m_cd M 0)) (g_pr (m_cd M 0)) (g_st (m_cd M 0)) (g_he (m_cd M 0)) (g_wt (m_cd M 0)) (g_wn (m_cd M 0)) (g_cv (m_cd M 0)) (g_qs (m_cd M 0)) (g_qu (m_cd M 0)) (g_v5 (m_cd M 0)) (g_v6 (m_cd M 0)) (g_v7 (m_cd M 0)))) (P := vp_in (((nI 60) * (nI o)) + (nI j)) 5100) ok_r_at rfl (in6 ho hj6) ?_
            rw [cl6 ho hj6]
            have e : maq M o (nI j) true = some (g_qu M (60 * o + j)) := by rw [maq, if_pos rfl, if_neg (fun q => q.elim h4 h5), nI_clamp (by omega)]
            rw [e]
            exact lp_at9 (M := m_cd M 0) (a := some (g_qu M (60 * o + j))) (al := []) (fun x q => by cases q; exact hM.2.1 _)
    · exact absurd c_le0 hz
