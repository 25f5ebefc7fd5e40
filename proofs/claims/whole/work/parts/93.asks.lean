/-! PURE: what is asked, answered alike; and begin -/
theorem a_mode {S : LSt} {M : MSt} (h : Rel S M) {t o : Nat} (ht : t < g_n M) (ho : o < 85) : oI (hm (s_ha S) t o) = mdI (g_he M) t o := by
  have hM := h.1.2.2.2.2.2.2.1
  rw [hm_K (h.2.2.2.2.2.2.1 o ho) hM ht, mdI_v (h.2.2.2.2.2.2.2.2 _)]
  rfl
theorem K_md {M : MSt} (hM : WM M) (o u : Nat) : (!decide (mdI (g_he M) u o < 0)) = (Kh M o u).isSome := by
  have := (md_K hM o u).1
  cases e : Kh M o u with
  | none => simp [this.mpr e]
  | some m =>
    have hne : ¬ mdI (g_he M) u o < 0 := fun q => by rw [this] at q; rw [e] at q; cases q
    simp [hne]
theorem a_told2 {S : LSt} {M : MSt} (h : Rel S M) {t : Nat} (ht : t < g_n M) : cnt (fun o => (hm (s_ha S) t o).isSome) 85 0 0 = cnt (fun i => !decide (mdI (g_he M) t i < 0)) 85 0 0 := by
  have hM := h.1.2.2.2.2.2.2.1
  refine cnt_congr _ _ _ (fun o _ ho => ?_)
  rw [hm_K (h.2.2.2.2.2.2.1 o (by omega)) hM ht, K_md hM]
theorem a_told4 {S : LSt} {M : MSt} (h : Rel S M) (t : Nat) : oI (s_wa S t) = if g_wt M t = none then -1 else nI (g_wn M t) := by
  rw [h.1.2.2.2.1]
  cases e : g_wt M t with
  | none => rfl
  | some o => rfl
theorem cnt_fl {p : Nat → Bool} {l : Nat → Nat} : ∀ (f i a : Nat), cnt (fun j => p (l j)) f i a = a + ((lst l i f).filter p).length := by
  intro f
  induction f with
  | zero => intro i a; rfl
  | succ f ih =>
    intro i a
    unfold cnt
    rw [ih]
    show _ = a + ((l i :: lst l (i + 1) f).filter p).length
    by_cases e : p (l i) = true
    · rw [if_pos e, List.filter_cons_of_pos e, List.length_cons]; omega
    · rw [if_neg e, List.filter_cons_of_neg e]
theorem a_many1 {S : LSt} {M : MSt} (h : Rel S M) {o : Nat} (ho : o < 85) : cnt (fun i => decide (s_aw S (s_la S i) = some o)) (s_k S) 0 0 = g_qs M o := by
  rw [cnt_fl (p := fun u => decide (s_aw S u = some o)) (l := s_la S), h.1.2.2.1, h.1.2.2.2.2.1.2.2.2 o ho, lst_len, Nat.zero_add]
theorem aoF_lb {ha : Nat → Int64} {o u : Nat} : ∀ (f m : Nat) (a : Int64), lb (aoF ha o f m a) u = true ↔ lb a u = true ∨ ∃ j, m ≤ j ∧ j < m + f ∧ lb (ha (o * 5 + j)) u = true := by
  intro f
  induction f with
  | zero => intro m a; exact ⟨fun q => Or.inl q, fun q => q.elim id (fun ⟨j, h1, h2, _⟩ => absurd h2 (by omega))⟩
  | succ f ih =>
    intro m a
    unfold aoF
    rw [ih, lb_or, Bool.or_eq_true]
    constructor
    · rintro ((q | q) | ⟨j, h1, h2, h3⟩)
      · exact Or.inl q
      · exact Or.inr ⟨m, Nat.le_refl _, by omega, q⟩
      · exact Or.inr ⟨j, by omega, by omega, h3⟩
    · rintro (q | ⟨j, h1, h2, h3⟩)
      · exact Or.inl (Or.inl q)
      · by_cases e : j = m
        · rw [e] at h3; exact Or.inl (Or.inr h3)
        · exact Or.inr ⟨j, by omega, by omega, h3⟩
theorem ao_lb {S : LSt} {M : MSt} {o u : Nat} (h : HB S M o) (hM : WM M) : lb (ao (s_ha S) o) u = true ↔ u < g_n M ∧ (Kh M o u).isSome = true := by
  unfold ao
  rw [aoF_lb, lb_0]
  constructor
  · rintro (q | ⟨j, h1, h2, h3⟩)
    · cases q
    · have := (HB_K h (by omega)).mp h3
      exact ⟨this.1, by rw [this.2]; rfl⟩
  · rintro ⟨h1, h2⟩
    cases e : Kh M o u with
    | none => rw [e] at h2; cases h2
    | some m =>
      have := Kh_lt hM e
      exact Or.inr ⟨m, by omega, by omega, (HB_K h this).mpr ⟨h1, e⟩⟩
theorem cnt_split {q : Nat → Bool} {b : Nat} : ∀ (f i a : Nat), cnt q (f + b) i a = cnt q b (i + f) (cnt q f i a) := by
  intro f
  induction f with
  | zero => intro i a; rw [Nat.zero_add]; rfl
  | succ f ih =>
    intro i a
    rw [show f + 1 + b = (f + b) + 1 by omega]
    show cnt q (f + b) (i + 1) _ = cnt q b (i + (f + 1)) (cnt q f (i + 1) _)
    rw [ih, show i + 1 + f = i + (f + 1) by omega]
theorem cnt_no {q : Nat → Bool} : ∀ (f i a : Nat), (∀ j, i ≤ j → j < i + f → q j = false) → cnt q f i a = a := by
  intro f
  induction f with
  | zero => intro i a _; rfl
  | succ f ih =>
    intro i a h
    unfold cnt
    rw [h i (Nat.le_refl _) (by omega)]
    exact ih _ _ (fun j h1 h2 => h j (by omega) (by omega))
theorem pcn_cnt {x : Int64} : ∀ k, pcn x k = cnt (lb x) k 0 0 := by
  intro k
  induction k with
  | zero => rfl
  | succ k ih =>
    rw [cnt_split (b := 1) k 0 0, ← ih, Nat.zero_add]
    show pcn x k + (if lb x k then 1 else 0) = if lb x k = true then pcn x k + 1 else pcn x k
    split <;> rfl
theorem a_many0 {S : LSt} {M : MSt} (h : Rel S M) {o : Nat} (ho : o < 85) : bcI (ao (s_ha S) o) = nI (cnt (fun i => !decide (mdI (g_he M) i o < 0)) (g_n M) 0 0) := by
  have hM := h.1.2.2.2.2.2.2.1
  have hn := hM.1
  have hb := h.2.2.2.2.2.2.1 o ho
  rw [bcI_eq, pcn_cnt]
  congr 1
  have e : (64 : Nat) = g_n M + (64 - g_n M) := by omega
  rw [e, cnt_split, cnt_no _ _ _ (fun j h1 _ => ?_)]
  · refine cnt_congr _ _ _ (fun u _ hu => ?_)
    rw [K_md hM, Bool.eq_iff_iff, ao_lb hb hM]
    exact ⟨fun q => q.2, fun q => ⟨by omega, q⟩⟩
  · rw [Bool.eq_false_iff]
    intro q
    have := ((ao_lb hb hM).mp q).1
    omega
theorem i_sub1 (x : Int32) (q : Nat) : x - nI q + (-1) = x - nI (q + 1) := by
  rw [show nI (q + 1) = nI q + 1 from (nI_1 q).symm, Int32.sub_eq_add_neg, Int32.sub_eq_add_neg, Int32.neg_add, Int32.add_assoc, Int32.sub_eq_add_neg]
theorem i_sub0 (x : Int32) (q : Nat) : x - nI q = 0 ↔ nI q = x := by
  constructor
  · intro h
    have := congrArg (· + nI q) h
    simp only [Int32.sub_add_cancel, Int32.zero_add] at this
    exact this.symm
  · intro h; rw [h, Int32.sub_self]
theorem maF_no {he : Nat → Option Nat} {o : Nat} {x : Int32} : ∀ (f u q : Nat) (a : Option Nat), (∀ j, q ≤ j → j < q + f → ¬ nI j = x) → maF he o f u (x - nI q) a = a := by
  intro f
  induction f with
  | zero => intro u q a _; rfl
  | succ f ih =>
    intro u q a h
    unfold maF
    split
    · exact ih _ _ _ (fun j h1 h2 => h j (by omega) (by omega))
    · rw [if_neg (fun r => h q (Nat.le_refl _) (by omega) ((i_sub0 x q).mp r)), i_sub1]
      exact ih _ _ _ (fun j h1 h2 => h j (by omega) (by omega))
theorem ah_ma {he : Nat → Option Nat} {o : Nat} {x : Int32} {all : Int64} : ∀ (f u q : Nat), q + f < 2 ^ 31 → (∀ v, u ≤ v → v < u + f → (lb all v = true ↔ ¬ mdI he v o < 0)) → ahF all x f u q = maF he o f u (x - nI q) none := by
  intro f
  induction f with
  | zero => intro u q _ _; rfl
  | succ f ih =>
    intro u q hq h
    have hu := h u (Nat.le_refl _) (by omega)
    unfold ahF maF
    by_cases e : lb all u = true
    · rw [if_pos e, if_neg (hu.mp e), i_sub1]
      by_cases e2 : nI q = x
      · rw [if_pos e2, if_pos ((i_sub0 x q).mpr e2), maF_no _ _ _ _ (fun j h1 h2 r => ?_)]
        rw [← e2] at r
        have := (nI_eq (by omega) (by omega)).mp r
        omega
      · rw [if_neg e2, if_neg (fun r => e2 ((i_sub0 x q).mp r))]
        exact ih _ _ (by omega) (fun v h1 h2 => h v (by omega) (by omega))
    · rw [if_neg e]
      have hlt : mdI he u o < 0 := Classical.byContradiction (fun r => e (hu.mpr r))
      rw [if_pos hlt]
      exact ih _ _ (by omega) (fun v h1 h2 => h v (by omega) (by omega))
theorem a_at {S : LSt} {M : MSt} (h : Rel S M) {o : Nat} (ho : o < 85) (x : Int32) (b : Bool) : atq S o x b = maq M o x b := by
  have hM := h.1.2.2.2.2.2.2.1
  have hF := h.1.2.2.2.2.2.1
  have hn := hM.1
  unfold atq maq
  cases b with
  | true =>
    rw [if_pos rfl, if_pos rfl]
    by_cases e : x < 0
    · rw [if_pos (Or.inl e)]
      exact iqF_neg e _ _ _ (by have := hF.2.1; omega)
    · obtain ⟨p, hp, rfl⟩ := nI_of e
      rw [iqF_lst hp _ _ _ (Nat.zero_le _) (by have := hF.2.1; omega), h.1.2.2.1, h.1.2.2.2.2.1.2.2.2 o ho, Nat.sub_zero, lst_get, nI_clamp hp]
      have hq6 := hM.2.2.1 o
      by_cases e2 : p < g_qs M o
      · rw [if_pos e2, if_neg]
        rintro (q | q)
        · exact e q
        · have := (nI_leI (by omega) hp).mp q; omega
      · rw [if_neg e2, if_pos (Or.inr ((nI_leI (by omega) hp).mpr (by omega)))]
  | false =>
    rw [if_neg (by simp), if_neg (by simp), h.1.1]
    have e := ah_ma (he := g_he M) (o := o) (x := x) (all := ao (s_ha S) o) (g_n M) 0 0 (by omega) (fun v _ hv => by
      rw [ao_lb (h.2.2.2.2.2.2.1 o ho) hM]
      have := (md_K hM o v).1
      rw [this]
      constructor
      · rintro ⟨-, q⟩ r; rw [r] at q; cases q
      · intro q
        refine ⟨by omega, ?_⟩
        cases ek : Kh M o v with
        | none => exact absurd ek q
        | some m => rfl)
    rw [e, nI_0, Int32.sub_zero]
theorem a_waits {S : LSt} {M : MSt} (h : Rel S M) {t : Nat} (ht : t < g_n M) : wrw (s_aw S) (s_wa S) (s_ha S) (s_la S) (s_k S) t = mwb M t := row_eq h.1 h.2.2.2.2.2.2.1 ht
theorem a_st {S : LSt} {M : MSt} (h : Rel S M) {x y : Int32} (hxy : x = y) : cnt (fun i => decide (nI (s_st S i) = x)) (s_n S) 0 0 = cnt (fun i => decide (nI (g_st M i) = y)) (g_n M) 0 0 := by
  rw [h.1.1, hxy]
  exact cnt_congr _ _ _ (fun i _ _ => by rw [h.2.2.1 i])
theorem a_astray {S : LSt} {M : MSt} (h : Rel S M) : ∀ (f o : Nat), o + f ≤ 85 → ayF S f o 0 = 0 := by
  have hM := h.1.2.2.2.2.2.2.1
  have hn := hM.1
  have hc : ∀ o, o < 85 → ∀ (f m : Nat), m + f ≤ 5 → hcF (s_ha S) o f m = false := fun o ho => by
    have hb := h.2.2.2.2.2.2.1 o ho
    intro f
    induction f with
    | zero => intro m _; rfl
    | succ f ih =>
      intro m hm
      unfold hcF
      rw [if_neg]
      · exact ih _ (by omega)
      · rintro ⟨e1, e2⟩
        obtain ⟨z1, z2⟩ := tz_ok e1
        have z3 := (HB_K hb (by omega)).mp z1
        refine e2 ((ow_0 hb hM z2).mpr (fun u hu => ?_))
        obtain ⟨u1, u2, a, u3, u4⟩ := hu
        have := h.2.1.2.2.1 o u (tz (s_ha S (o * 5 + m))) a m ho u1 z3.1 u2 u3 z3.2
        rw [u4] at this
        cases this
  intro f
  induction f with
  | zero => intro o _; rfl
  | succ f ih =>
    intro o ho
    unfold ayF
    rw [if_neg]
    · exact ih _ (by omega)
    · rintro (q | q)
      · rw [hc o (by omega) 5 0 (by omega)] at q; cases q
      · refine q ?_
        rw [ftg_eq h.1 (h.2.2.2.2.2.2.1 o (by omega)) (by omega), if_neg (h.2.2.2.2.2.2.2.1 o (by omega))]
theorem a_ma {S : LSt} {M : MSt} (h : Rel S M) {t o m : Nat} (ht : t < g_n M) (ho : o < 85) (hm5 : m < 5) : ma (s_ha S) t o m = upM M t o m := by
  have hM := h.1.2.2.2.2.2.2.1
  unfold ma upM
  by_cases e : o = 0
  · rw [if_pos e, if_pos e]
  · rw [if_neg e, if_neg e, hm_K (h.2.2.2.2.2.2.1 ((o - 1) / 4) (by omega)) hM ht, wr_rw m hm5]
    obtain ⟨k1, k2⟩ := md_K hM ((o - 1) / 4) t
    cases ek : Kh M ((o - 1) / 4) t with
    | none =>
      rw [if_pos (k1.mpr ek)]
      split
      · decide
      · rfl
    | some a =>
      have hne : ¬ mdI (g_he M) t ((o - 1) / 4) < 0 := fun q => by rw [k1] at q; rw [ek] at q; cases q
      rw [if_neg hne, k2 a ek]
      show (if rwI (nI m) = true then wrI (nI a) else true) = _
      rw [wr_rw a (Kh_lt hM ek)]
def s_bg (S : LSt) (x : Nat) : LSt := (va_up (s_st S) (s_n S) 0, va_up (s_pr S) (s_n S) x, va_up (s_aw S) (s_n S) none, va_up (s_wa S) (s_n S) none, s_ha S, s_la S, s_wr S, s_n S + 1, s_k S, s_c5 S, s_c6 S, s_c7 S)
theorem Rel_begin {S : LSt} {M : MSt} (h : Rel S M) {x : Nat} (hx : x ≤ 99) (hn6 : g_n M < 60) : Rel (s_bg S x) (m_bg M x) := by
  obtain ⟨h1, hj, hs, hj5, hc6, hc7, hb, hnf, hwn⟩ := h
  obtain ⟨a1, a2, a3, a4, a5, a6, a7, a8⟩ := h1
  obtain ⟨r0, r1, r2, r3⟩ := a5
  have hne : ∀ u, u ∈ lst (s_la S) 0 (s_k S) → u ≠ g_n M := fun u hu q => by have := ((r2 u).mp hu).1; omega
  have hWM : WM (m_bg M x) := by
    obtain ⟨w1, w2, w3, w4, w5, w6, w7, w8⟩ := a7
    refine ⟨by show g_n M + 1 ≤ 60; omega, w2, w3, va_up_ol w4 (fun y q => by cases q), fun t => va_up_lt w5 (by omega) t, fun t => va_up_lt w6 (by omega) t, w7, w8⟩
  have hWF : WF (s_bg S x) := by
    obtain ⟨w1, w2, w3, w4, w5, w6, w7, w8⟩ := a6
    refine ⟨w1, w2, by show s_n S + 1 ≤ 60; omega, fun t y q => w4 t y (va_up_some q).2, fun t y q => w5 t y (va_up_some q).2, fun t y q => ?_, fun t => va_up_lt w7 (by omega) t, fun t => va_up_lt w8 (by omega) t⟩
    obtain ⟨q1, q2⟩ := va_up_some q
    obtain ⟨m, hm⟩ := w6 t y q2
    exact ⟨m, by show va_up (s_wa S) (s_n S) none t = some m; rw [va_up_ne _ _ q1]; exact hm⟩
  have hRS : RS (s_bg S x) (m_bg M x) := by
    refine ⟨by show s_n S + 1 = g_n M + 1; rw [a1], ?_, ?_, fun u => ?_, ⟨by show g_n M + 1 ≤ 60; omega, r1, fun u => ?_, fun o ho => ?_⟩, hWF, hWM, a8⟩
    · show va_up (s_pr S) (s_n S) x = va_up (g_pr M) (g_n M) x; rw [a1, a2]
    · show va_up (s_aw S) (s_n S) none = va_up (g_wt M) (g_n M) none; rw [a1, a3]
    · show va_up (s_wa S) (s_n S) none u = (va_up (g_wt M) (g_n M) none u).map (fun _ => g_wn M u)
      rw [a1]
      unfold va_up
      split
      · rfl
      · exact a4 u
    · show u ∈ lst (s_la S) 0 (s_k S) ↔ u < g_n M + 1 ∧ ¬ va_up (g_wt M) (g_n M) none u = none
      rw [r2]
      unfold va_up
      by_cases e : u = g_n M
      · rw [if_pos e]; constructor
        · rintro ⟨q, _⟩; omega
        · rintro ⟨_, q⟩; exact absurd rfl q
      · rw [if_neg e]; constructor
        · rintro ⟨q, r⟩; exact ⟨by omega, r⟩
        · rintro ⟨q, r⟩; exact ⟨by omega, r⟩
    · show (lst (s_la S) 0 (s_k S)).filter (fun u => decide (va_up (g_wt M) (g_n M) none u = some o)) = lst (g_qu M) (60 * o) (g_qs M o)
      rw [← r3 o ho]
      refine List.filter_congr (fun u hu => ?_)
      rw [va_up_ne _ _ (hne u hu)]
  obtain ⟨j1, j2, j3, j4⟩ := hj
  have hK0 : ∀ o, o < 85 → Kh M o (g_n M) = none := fun o ho => by unfold Kh; rw [j4 o (g_n M) ho (Nat.le_refl _) hn6]; rfl
  refine ⟨hRS, ⟨j1, j2, fun o u v a b ho hu hv huv ha hb' => ?_, fun o u ho hu1 hu2 => j4 o u ho (by have : g_n M + 1 ≤ u := hu1; omega) hu2⟩, fun u => ?_, fun u hu => ?_, hc6, hc7, fun o ho m u hm => ?_, fun o ho => ?_, hwn⟩
  · have hu' : u < g_n M + 1 := hu
    have hv' : v < g_n M + 1 := hv
    have ha' : Kh M o u = some a := ha
    have hb2 : Kh M o v = some b := hb'
    have n1 : u ≠ g_n M := fun q => by rw [q, hK0 o ho] at ha'; cases ha'
    have n2 : v ≠ g_n M := fun q => by rw [q, hK0 o ho] at hb2; cases hb2
    exact j3 o u v a b ho (by omega) (by omega) huv ha' hb2
  · show va_up (s_st S) (s_n S) 0 u = va_up (g_st M) (g_n M) 0 u
    rw [a1]
    unfold va_up
    split
    · rfl
    · exact hs u
  · show ¬ va_up (g_wt M) (g_n M) none u = none ↔ va_up (g_st M) (g_n M) 0 u = 1
    have hu' : u < g_n M + 1 := hu
    unfold va_up
    by_cases e : u = g_n M
    · rw [if_pos e, if_pos e]; simp
    · rw [if_neg e, if_neg e]; exact hj5 u (by omega)
  · show lb (s_ha S (o * 5 + m)) u = decide (u < g_n M + 1 ∧ g_he M (60 * o + u) = some (m + 1))
    rw [hb o ho m u hm]
    congr 1
    rw [eq_iff_iff]
    constructor
    · rintro ⟨q, r⟩; exact ⟨by omega, r⟩
    · rintro ⟨q, r⟩
      refine ⟨?_, r⟩
      have : u ≠ g_n M := fun e => by rw [e, j4 o (g_n M) ho (Nat.le_refl _) hn6] at r; cases r
      omega
  · have g := hnf o ho
    rw [NF_iff a7] at g
    rw [NF_iff hWM]
    intro hq
    obtain ⟨u, u1, u2, u3⟩ := g hq
    exact ⟨u, by show u < g_n M + 1; omega, u2, u3⟩
theorem Rel_0 : Rel S0 M00 := by
  have hK : ∀ o u, Kh M00 o u = none := fun o u => rfl
  have hWF : WF S0 := ⟨fun _ => by show 0 < 60; omega, by show 0 ≤ 60; omega, by show 0 ≤ 60; omega, fun t x q => by cases q; omega, fun t x q => by cases q; omega, fun t x q => ⟨0, rfl⟩, fun _ => by show 0 < 4; omega, fun _ => by show 0 < 100; omega⟩
  have hWM : WM M00 := ⟨by show 0 ≤ 60; omega, fun _ => by show 0 < 60; omega, fun _ => by show 0 ≤ 60; omega, fun t x q => by cases q; omega, fun _ => by show 0 < 4; omega, fun _ => by show 0 < 100; omega, fun _ => by show 0 < 5; omega, fun i x q => by cases q; omega⟩
  refine ⟨⟨rfl, rfl, rfl, fun _ => rfl, ⟨by show 0 ≤ 60; omega, List.Pairwise.nil, fun u => ⟨fun q => (nomatch q), fun q => absurd q.1 (by show ¬ u < 0; omega)⟩, fun o ho => rfl⟩, hWF, hWM, rfl⟩, ⟨fun o u ho hu => (nomatch hu), fun o ho => List.Pairwise.nil, fun o u v a b ho hu => absurd hu (by show ¬ u < 0; omega), fun o u ho _ _ => rfl⟩, fun _ => rfl, fun u hu => absurd hu (by show ¬ u < 0; omega), rfl, rfl, fun o ho m u hm => ?_, fun o ho q => absurd q.1 (by show ¬ 0 < 0; omega), fun y hy => by cases hy⟩
  have e1 : lb (s_ha S0 (o * 5 + m)) u = false := lb_0 u
  have e2 : ¬ (u < g_n M00 ∧ g_he M00 (60 * o + u) = some (m + 1)) := fun q => absurd q.1 (by show ¬ u < 0; omega)
  rw [e1, decide_eq_false e2]
