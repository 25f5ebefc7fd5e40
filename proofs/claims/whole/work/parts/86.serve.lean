/-! PURE: serving, on both sides alike -/
def QM (M : MSt) (o : Nat) : List Nat := lst (g_qu M) (60 * o) (g_qs M o)
def RS (S : LSt) (M : MSt) : Prop := s_n S = g_n M ∧ s_pr S = g_pr M ∧ s_aw S = g_wt M ∧ (∀ u, s_wa S u = (g_wt M u).map (fun _ => g_wn M u)) ∧ RC (g_n M) (g_wt M) (s_la S) (s_k S) (g_qs M) (g_qu M) ∧ WF S ∧ WM M ∧ s_c5 S = g_v5 M
def JA (M : MSt) : Prop := (∀ o u, o < 85 → u ∈ QM M o → g_cv M u = (Kh M o u).isSome) ∧ (∀ o, o < 85 → (QM M o).Pairwise (fun a b => g_cv M b = true → g_cv M a = true)) ∧ (∀ o u v a b, o < 85 → u < g_n M → v < g_n M → u ≠ v → Kh M o u = some a → Kh M o v = some b → gt a b = true) ∧ (∀ o u, o < 85 → g_n M ≤ u → u < 60 → g_he M (60 * o + u) = some 0)
def NF (M : MSt) (o : Nat) : Prop := ¬ (0 < g_qs M o ∧ mfit M o = true)
theorem clF_at {t o y : Nat} : ∀ (f i : Nat) (h : Nat → Int64), clF t o f i h y = if o * 5 + i ≤ y ∧ y < o * 5 + i + f then h y &&& (lbit t ^^^ (-1)) else h y := by
  intro f
  induction f with
  | zero => intro i h; rw [if_neg (by omega)]; rfl
  | succ f ih =>
    intro i h
    unfold clF
    rw [ih]
    unfold vp_updL
    by_cases e : y = o * 5 + i
    · rw [if_neg (by omega), if_pos e, if_pos (by omega), e]
    · rw [if_neg e]
      by_cases e2 : o * 5 + (i + 1) ≤ y ∧ y < o * 5 + (i + 1) + f
      · rw [if_pos e2, if_pos (by omega)]
      · rw [if_neg e2, if_neg (by omega)]
theorem hd_ne {ha : Nat → Int64} {t o w p m : Nat} (hp : p ≠ o) (hm : m < 5) (hw : w < 5) : hd ha t o w (p * 5 + m) = ha (p * 5 + m) := by
  unfold hd vp_updL
  rw [if_neg (by omega), clF_at, if_neg (by omega)]
theorem lb_clr {x : Int64} {t u : Nat} (ht : t < 64) : lb (x &&& (lbit t ^^^ (-1))) u = if u = t then false else lb x u := by
  rw [lb_and]
  rcases Nat.lt_or_ge u 64 with hu | hu
  · rw [lb_nbit ht hu]
    by_cases e : u = t
    · simp [e]
    · simp [e]
  · rw [lb_big hu, if_neg (by omega)]; rfl
theorem hd_lb {ha : Nat → Int64} {t o w m u : Nat} (hm : m < 5) (ht : t < 64) : lb (hd ha t o w (o * 5 + m)) u = if u = t then decide (m = w) else lb (ha (o * 5 + m)) u := by
  have hc : ∀ j, j < 5 → clF t o 5 0 ha (o * 5 + j) = ha (o * 5 + j) &&& (lbit t ^^^ (-1)) := fun j hj => by rw [clF_at, if_pos (by omega)]
  unfold hd vp_updL
  by_cases e : m = w
  · subst e
    rw [if_pos rfl, hc m hm, lb_or, lb_clr ht, lb_bit ht]
    by_cases e2 : u = t
    · simp [e2]
    · simp [e2]
  · rw [if_neg (by omega), hc m hm, lb_clr ht]
    by_cases e2 : u = t
    · simp [e2, e]
    · simp [e2]
theorem lg_ne {ha : Nat → Int64} {t o p m : Nat} (hp : p ≠ o) (h5 : m < 5) : lg ha t o (p * 5 + m) = ha (p * 5 + m) := by
  unfold lg
  cases hx : hm ha t o with
  | none => rfl
  | some x =>
    have := hm_lt hx
    show vp_updL ha (o * 5 + x) _ (p * 5 + m) = _
    unfold vp_updL
    rw [if_neg (by omega)]
theorem lg_lb {ha : Nat → Int64} {t o m u : Nat} {x : Option Nat} (hx : ∀ m, x = some m → m < 5) (h : ∀ m, m < 5 → (lb (ha (o * 5 + m)) t = true ↔ x = some m)) (hm : m < 5) (ht : t < 64) : lb (lg ha t o (o * 5 + m)) u = if u = t then false else lb (ha (o * 5 + m)) u := by
  have e := hm_eq hx h
  unfold lg
  rw [e]
  cases x with
  | none =>
    show lb (ha (o * 5 + m)) u = _
    by_cases e2 : u = t
    · subst e2
      rw [if_pos rfl, Bool.eq_false_iff]
      intro q
      exact nomatch (h m hm).mp q
    · rw [if_neg e2]
  | some y =>
    show lb (vp_updL ha (o * 5 + y) _ (o * 5 + m)) u = _
    unfold vp_updL
    by_cases e1 : m = y
    · subst e1; rw [if_pos rfl, lb_clr ht]
    · rw [if_neg (by omega)]
      by_cases e2 : u = t
      · subst e2
        rw [if_pos rfl, Bool.eq_false_iff]
        intro q
        exact e1 (Option.some.inj ((h m hm).mp q)).symm
      · rw [if_neg e2]
theorem RS_q {S : LSt} {M : MSt} (h : RS S M) {o u : Nat} (ho : o < 85) : u ∈ QM M o ↔ u < g_n M ∧ g_wt M u = some o := RC_mem h.2.2.2.2.1 ho
theorem RS_first {S : LSt} {M : MSt} (h : RS S M) {o : Nat} (ho : o < 85) (hq : 0 < g_qs M o) : g_qu M (60 * o) < g_n M ∧ g_wt M (g_qu M (60 * o)) = some o := (RS_q h ho).mp ((lst_mem _ _).mpr ⟨0, hq, rfl⟩)
theorem NF_iff {M : MSt} (hM : WM M) {o : Nat} : NF M o ↔ (0 < g_qs M o → ∃ u, Wy M (g_qu M (60 * o)) o (g_wn M (g_qu M (60 * o))) u) := by
  unfold NF mfit
  rw [ft_W hM (hM.2.2.2.2.2.2.1 _)]
  constructor
  · intro h hq
    refine Classical.byContradiction (fun q => h ⟨hq, fun u hu => q ⟨u, hu⟩⟩)
  · rintro h ⟨hq, h2⟩
    obtain ⟨u, hu⟩ := h hq
    exact h2 u hu
theorem ftg_eq {S : LSt} {M : MSt} (h : RS S M) {o : Nat} (hb : HB S M o) (ho : o < 85) : s_ftg S o = if 0 < g_qs M o ∧ mfit M o = true then some (g_qu M (60 * o)) else none := by
  obtain ⟨h1, h2, h3, h4, h5, h6, h7, h8⟩ := h
  have hn := h7.1
  have e : iqF (s_aw S) (s_la S) o 0 (s_k S) 0 0 = if 0 < g_qs M o then some (g_qu M (60 * o)) else none := by
    have := iqF_lst (aw := s_aw S) (la := s_la S) (o := o) (p := 0) (by omega) (s_k S) 0 0 (Nat.le_refl _) (by have := h6.2.1; omega)
    rw [nI_0] at this
    rw [this, h3, h5.2.2.2 o ho, lst_get]
    rfl
  show ftg (s_aw S) (s_wa S) (s_ha S) (s_la S) (s_k S) o = _
  unfold ftg
  rw [e]
  by_cases q : 0 < g_qs M o
  · obtain ⟨f1, f2⟩ := RS_first ⟨h1, h2, h3, h4, h5, h6, h7, h8⟩ ho q
    rw [if_pos q]
    simp only
    rw [h4, f2]
    show (if ow (s_ha S) _ o (nI (g_wn M (g_qu M (60 * o)))) = 0 then _ else _) = _
    have e2 := fit_ow (w := g_wn M (g_qu M (60 * o))) hb h7 (show g_qu M (60 * o) < 64 by omega) (h7.2.2.2.2.2.2.1 _)
    by_cases r : ow (s_ha S) (g_qu M (60 * o)) o (nI (g_wn M (g_qu M (60 * o)))) = 0
    · rw [if_pos r, if_pos ⟨q, e2.mp r⟩]
    · rw [if_neg r, if_neg (fun x => r (e2.mpr x.2))]
  · rw [if_neg q, if_neg (fun x => q x.1)]
theorem Kh_mgr {M : MSt} (hM : WM M) {o p u : Nat} (hu : u < 60) : Kh (mgr M o) p u = if p = o ∧ u = g_qu M (60 * o) then some (g_wn M (g_qu M (60 * o))) else Kh M p u := by
  have ht := hM.2.1 (60 * o)
  show hv (va_up (g_he M) (60 * o + g_qu M (60 * o)) _ (60 * p + u)) = _
  unfold va_up
  by_cases e : p = o ∧ u = g_qu M (60 * o)
  · rw [if_pos (by rw [e.1, e.2]), if_pos e]; rfl
  · rw [if_neg (by omega), if_neg e]; rfl
theorem he_mgr {M : MSt} (hM : WM M) {o p u : Nat} (hp : p ≠ o) (hu : u < 60) : g_he (mgr M o) (60 * p + u) = g_he M (60 * p + u) := by
  have ht := hM.2.1 (60 * o)
  exact va_up_ne _ _ (by omega)
theorem QM_mgr {M : MSt} (hM : WM M) {o p : Nat} : QM (mgr M o) p = if p = o then (QM M o).filter (fun u => decide (u ≠ g_qu M (60 * o))) else QM M p := by
  obtain ⟨b1, b2, b3, b4⟩ := lqF_lst (t := g_qu M (60 * o)) (g_qs M o) (60 * o) (60 * o) (g_qu M) (Nat.le_refl _)
  show lst (lqF (g_qu M (60 * o)) (g_qs M o) (60 * o) (60 * o) (g_qu M)).1 (60 * p) (va_up (g_qs M) o ((lqF (g_qu M (60 * o)) (g_qs M o) (60 * o) (60 * o) (g_qu M)).2 - 60 * o) p) = _
  by_cases e : p = o
  · subst e
    rw [va_up_self, if_pos rfl, b4]; rfl
  · rw [va_up_ne _ _ e, if_neg e]
    refine lst_congr _ _ (fun x x1 x2 => ?_)
    have g1 := hM.2.2.1 p
    have g2 := hM.2.2.1 o
    rcases Nat.lt_or_gt_of_ne e with q | q
    · exact b1 x (by omega)
    · exact b2 x (by omega)
theorem q0_mgr {M : MSt} (hM : WM M) {o p : Nat} (hp : p ≠ o) : g_qs (mgr M o) p = g_qs M p ∧ g_qu (mgr M o) (60 * p) = g_qu M (60 * p) := by
  obtain ⟨b1, b2, b3, b4⟩ := lqF_lst (t := g_qu M (60 * o)) (g_qs M o) (60 * o) (60 * o) (g_qu M) (Nat.le_refl _)
  refine ⟨va_up_ne _ _ hp, ?_⟩
  have g2 := hM.2.2.1 o
  rcases Nat.lt_or_gt_of_ne hp with q | q
  · exact b1 _ (by omega)
  · exact b2 _ (by omega)
/-- what stays when o is served -/
def CR (o : Nat) (S1 : LSt) (M1 : MSt) (S : LSt) (M : MSt) : Prop := RS S M ∧ HB S M o ∧ JA M ∧ (∀ p m, p ≠ o → m < 5 → s_ha S (p * 5 + m) = s_ha S1 (p * 5 + m)) ∧ (∀ p u, p ≠ o → u < 60 → g_he M (60 * p + u) = g_he M1 (60 * p + u)) ∧ (g_n M = g_n M1 ∧ g_wn M = g_wn M1 ∧ g_cv M = g_cv M1 ∧ g_v6 M = g_v6 M1 ∧ g_v7 M = g_v7 M1 ∧ g_cd M = g_cd M1) ∧ s_k S ≤ s_k S1 ∧ (∀ u, g_wt M u = none ∨ g_wt M u = g_wt M1 u) ∧ (∀ p, p < 85 → p ≠ o → NF M1 p → NF M p) ∧ (∀ y, g_he M y = none → g_he M1 y = none) ∧ (∀ u, g_wt M1 u = none → u < 60 → g_he M (60 * o + u) = g_he M1 (60 * o + u))
theorem CR_refl {o : Nat} {S : LSt} {M : MSt} (h : RS S M) (hb : HB S M o) (hj : JA M) : CR o S M S M := ⟨h, hb, hj, fun _ _ _ _ => rfl, fun _ _ _ _ => rfl, ⟨rfl, rfl, rfl, rfl, rfl, rfl⟩, Nat.le_refl _, fun _ => Or.inr rfl, fun _ _ _ h => h, fun _ h => h, fun _ _ _ => rfl⟩
theorem RS_gr {S : LSt} {M : MSt} {o : Nat} (h : RS S M) (ho : o < 85) (hq : 0 < g_qs M o) : RS (gr S (g_qu M (60 * o))) (mgr M o) := by
  obtain ⟨f1, f2⟩ := RS_first h ho hq
  obtain ⟨h1, h2, h3, h4, h5, h6, h7, h8⟩ := h
  refine ⟨h1, h2, ?_, fun u => ?_, ?_, WF_gr h6 _, WM_mgr h7 o, h8⟩
  · show va_up (s_aw S) _ none = va_up (g_wt M) _ none
    rw [h3]
  · show va_up (s_wa S) _ none u = (va_up (g_wt M) _ none u).map _
    unfold va_up
    split
    · rfl
    · exact h4 u
  · exact RC_leave h5 ho f2 h7.2.2.1
theorem JA_mgr {S : LSt} {M : MSt} {o : Nat} (h : RS S M) (hj : JA M) (ho : o < 85) (hq : 0 < g_qs M o) (hf : mfit M o = true) : JA (mgr M o) := by
  obtain ⟨f1, f2⟩ := RS_first h ho hq
  have hM := h.2.2.2.2.2.2.1
  have hn := hM.1
  have hM' := WM_mgr hM o
  obtain ⟨j1, j2, j3, j4⟩ := hj
  have hW := (ft_W hM (hM.2.2.2.2.2.2.1 _)).mp hf
  have hw5 := hM.2.2.2.2.2.2.1 (g_qu M (60 * o))
  refine ⟨fun p u hp hu => ?_, fun p hp => ?_, fun p u v a b hp hu hv huv ha hb => ?_, fun p u hp hu1 hu2 => ?_⟩
  · rw [QM_mgr hM] at hu
    show g_cv M u = _
    by_cases e : p = o
    · subst e
      rw [if_pos rfl, List.mem_filter, decide_eq_true_iff] at hu
      have := ((RS_q h hp).mp hu.1).1
      rw [Kh_mgr hM (by omega), if_neg (fun q => hu.2 q.2)]
      exact j1 p u hp hu.1
    · rw [if_neg e] at hu
      have := ((RS_q h hp).mp hu).1
      rw [Kh_mgr hM (by omega), if_neg (fun q => e q.1)]
      exact j1 p u hp hu
  · rw [QM_mgr hM]
    show List.Pairwise (fun a b => g_cv M b = true → g_cv M a = true) _
    split
    · exact List.Pairwise.filter _ (j2 o ho)
    · exact j2 p hp
  · have hu' : u < g_n M := hu
    have hv' : v < g_n M := hv
    rw [Kh_mgr hM (by omega)] at ha hb
    by_cases e1 : p = o ∧ u = g_qu M (60 * o)
    · rw [if_pos e1] at ha
      rw [if_neg (fun q => huv (by rw [e1.2, q.2]))] at hb
      cases ha
      have hb5 := Kh_lt hM hb
      rw [gt_sym _ hw5 _ hb5]
      cases hg : gt b (g_wn M (g_qu M (60 * o))) with
      | true => rfl
      | false => exact absurd ⟨hv', (fun q => huv (by rw [e1.2, q])), b, by rw [← e1.1]; exact hb, hg⟩ (hW v)
    · rw [if_neg e1] at ha
      by_cases e2 : p = o ∧ v = g_qu M (60 * o)
      · rw [if_pos e2] at hb
        cases hb
        cases hg : gt a (g_wn M (g_qu M (60 * o))) with
        | true => rfl
        | false => exact absurd ⟨hu', (fun q => huv (by rw [e2.2, q])), a, by rw [← e2.1]; exact ha, hg⟩ (hW u)
      · rw [if_neg e2] at hb
        exact j3 p u v a b hp hu' hv' huv ha hb
  · have hu1' : g_n M ≤ u := hu1
    rw [← j4 p u hp hu1' hu2]
    exact va_up_ne _ _ (by omega)
theorem HB_gr {S : LSt} {M : MSt} {o : Nat} (h : RS S M) (hb : HB S M o) (ho : o < 85) (hq : 0 < g_qs M o) : HB (gr S (g_qu M (60 * o))) (mgr M o) o ∧ ∀ p m, p ≠ o → m < 5 → s_ha (gr S (g_qu M (60 * o))) (p * 5 + m) = s_ha S (p * 5 + m) := by
  obtain ⟨f1, f2⟩ := RS_first h ho hq
  have hM := h.2.2.2.2.2.2.1
  have hn := hM.1
  have hw5 := hM.2.2.2.2.2.2.1 (g_qu M (60 * o))
  have e : s_ha (gr S (g_qu M (60 * o))) = hd (s_ha S) (g_qu M (60 * o)) o (g_wn M (g_qu M (60 * o))) := by
    show hd (s_ha S) _ ((s_aw S _).getD 0) ((s_wa S _).getD 0) = _
    rw [h.2.2.2.1, h.2.2.1, f2]; rfl
  rw [e]
  refine ⟨fun m u hm => ?_, fun p m hp hm => hd_ne hp hm hw5⟩
  rw [e, hd_lb hm (by omega)]
  show _ = decide (u < g_n M ∧ va_up (g_he M) (60 * o + g_qu M (60 * o)) (some (g_wn M (g_qu M (60 * o)) + 1)) (60 * o + u) = some (m + 1))
  unfold va_up
  by_cases e1 : u = g_qu M (60 * o)
  · rw [if_pos e1, if_pos (by rw [e1])]
    congr 1
    rw [eq_iff_iff]
    constructor
    · intro q; rw [e1, q]; exact ⟨f1, rfl⟩
    · rintro ⟨-, q⟩; have := Option.some.inj q; omega
  · rw [if_neg e1, if_neg (by omega)]
    exact hb m u hm
theorem CR_step {o : Nat} {S1 S : LSt} {M1 M : MSt} (h : CR o S1 M1 S M) (ho : o < 85) (hq : 0 < g_qs M o) (hf : mfit M o = true) : CR o S1 M1 (gr S (g_qu M (60 * o))) (mgr M o) := by
  obtain ⟨h1, h2, h3, h4, h5, h6, h7, h8, h9, h10, h11⟩ := h
  obtain ⟨f1, f2⟩ := RS_first h1 ho hq
  have hM := h1.2.2.2.2.2.2.1
  have hn := hM.1
  obtain ⟨b1, b2⟩ := HB_gr h1 h2 ho hq
  refine ⟨RS_gr h1 ho hq, b1, JA_mgr h1 h3 ho hq hf, fun p m hp hm => by rw [b2 p m hp hm, h4 p m hp hm], fun p u hp hu => by rw [he_mgr hM hp hu, h5 p u hp hu], h6, ?_, fun u => ?_, fun p hp hpo hnf => ?_, fun y hy => ?_, fun u hu hu6 => ?_⟩
  · have := lqF_le (t := g_qu M (60 * o)) (s_k S) 0 0 (s_la S)
    show (lqF (g_qu M (60 * o)) (s_k S) 0 0 (s_la S)).2 ≤ s_k S1
    omega
  · show va_up (g_wt M) _ none u = none ∨ va_up (g_wt M) _ none u = _
    unfold va_up
    split
    · exact Or.inl rfl
    · exact h8 u
  · have g := h9 p hp hpo hnf
    rw [NF_iff hM] at g
    rw [NF_iff (WM_mgr hM o), (q0_mgr hM hpo).1, (q0_mgr hM hpo).2]
    intro hqp
    obtain ⟨u, hu1, hu2, m, hu3, hu4⟩ := g hqp
    exact ⟨u, hu1, hu2, m, by rw [Kh_mgr hM (by omega), if_neg (fun q => hpo q.1)]; exact hu3, hu4⟩
  · have hy' : va_up (g_he M) (60 * o + g_qu M (60 * o)) (some (g_wn M (g_qu M (60 * o)) + 1)) y = none := hy
    unfold va_up at hy'
    split at hy'
    · cases hy'
    · exact h10 y hy'
  · rw [← h11 u hu hu6]
    have hne : u ≠ g_qu M (60 * o) := fun q => by
      rcases h8 (g_qu M (60 * o)) with r | r
      · rw [f2] at r; cases r
      · rw [f2, ← q, hu] at r; cases r
    have ht6 := hM.2.1 (60 * o)
    exact va_up_ne _ _ (by omega)
theorem sv_ms {P : Nat → LSt → MSt → Prop} {o : Nat} (h1 : ∀ g S M, P g S M → s_ftg S o = if 0 < g_qs M o ∧ mfit M o = true then some (g_qu M (60 * o)) else none) (h2 : ∀ g S M, P g S M → 0 < g_qs M o → mfit M o = true → P (g + 1) (gr S (g_qu M (60 * o))) (mgr M o)) : ∀ (f g : Nat) (S : LSt) (M : MSt), P g S M → P (svF o f g S).2 (svF o f g S).1 (msF o f g M).1 ∧ (svF o f g S).2 = (msF o f g M).2 := by
  intro f
  induction f with
  | zero => intro g S M h; exact ⟨h, rfl⟩
  | succ f ih =>
    intro g S M h
    unfold svF msF
    rw [h1 g S M h]
    by_cases e : 0 < g_qs M o ∧ mfit M o = true
    · rw [if_pos e, if_pos e]
      exact ih (g + 1) _ _ (h2 g S M h e.1 e.2)
    · rw [if_neg e, if_neg e]
      exact ⟨h, rfl⟩
theorem msF_NF {o : Nat} : ∀ (f g : Nat) (M : MSt), g_qs M o ≤ f → NF (msF o f g M).1 o := by
  intro f
  induction f with
  | zero => intro g M h q; have := q.1; exact absurd this (by show ¬ 0 < g_qs M o; omega)
  | succ f ih =>
    intro g M h
    unfold msF
    by_cases e : 0 < g_qs M o ∧ mfit M o = true
    · rw [if_pos e]
      have := qs_mgr e.1
      exact ih _ _ (by omega)
    · rw [if_neg e]; exact e
/-- serving where all that wait are known to wait -/
def SV (o : Nat) (S1 : LSt) (M1 : MSt) (g : Nat) (S : LSt) (M : MSt) : Prop := CR o S1 M1 S M ∧ (∀ u, s_st S u = g_st M u) ∧ (∀ u, u < g_n M → (¬ g_wt M u = none ↔ g_st M u = 1)) ∧ s_c6 S = s_c6 S1 ∧ s_c7 S = s_c7 S1 + g ∧ (∀ u, g_wt M1 u = none → g_st M u = g_st M1 u)
theorem SV_serve {o : Nat} {S : LSt} {M : MSt} (h : RS S M) (hb : HB S M o) (hj : JA M) (ho : o < 85) (hs : ∀ u, s_st S u = g_st M u) (h5 : ∀ u, u < g_n M → (¬ g_wt M u = none ↔ g_st M u = 1)) : SV o S M (sv S o).2 (sv S o).1 (ms M o).1 ∧ (sv S o).2 = (ms M o).2 ∧ NF (ms M o).1 o := by
  have hM := h.2.2.2.2.2.2.1
  have K := sv_ms (P := SV o S M) (o := o) (fun g S' M' q => ftg_eq q.1.1 q.1.2.1 ho) (fun g S' M' q hq hf => by
    obtain ⟨q1, q2, q3, q4, q5, q6⟩ := q
    obtain ⟨f1, f2⟩ := RS_first q1.1 ho hq
    have hst1 : g_st M' (g_qu M' (60 * o)) = 1 := (q3 _ f1).mp (by rw [f2]; simp)
    refine ⟨CR_step q1 ho hq hf, fun u => ?_, fun u hu => ?_, ?_, ?_, fun u hu => ?_⟩
    · show va_up (s_st S') _ 0 u = va_up (g_st M') _ 0 u
      unfold va_up
      split
      · rfl
      · exact q2 u
    · show ¬ va_up (g_wt M') _ none u = none ↔ va_up (g_st M') _ 0 u = 1
      unfold va_up
      split
      · simp
      · exact q3 u hu
    · show (if s_st S' _ = 1 then s_c6 S' else s_c6 S' + 1) = _
      rw [q2, if_pos hst1]; exact q4
    · show (if s_st S' _ = 1 then s_c7 S' + 1 else s_c7 S') = _
      rw [q2, if_pos hst1, q5]; rfl
    · show va_up (g_st M') _ 0 u = _
      rw [← q6 u hu]
      refine va_up_ne _ _ (fun q => ?_)
      have := q1.2.2.2.2.2.2.2.1 u
      rw [hu, q, f2] at this
      rcases this with this | this <;> cases this) 60 0 S M ⟨CR_refl h hb hj, hs, h5, rfl, rfl, fun _ _ => rfl⟩
  exact ⟨K.1, K.2, msF_NF 60 0 M (hM.2.2.1 o)⟩
