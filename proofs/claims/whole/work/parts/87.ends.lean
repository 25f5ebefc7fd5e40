/-! PURE: letting go of one object after the other -/
def J5 (M : MSt) : Prop := ∀ u, u < g_n M → (¬ g_wt M u = none ↔ g_st M u = 1)
def Rel (S : LSt) (M : MSt) : Prop := RS S M ∧ JA M ∧ (∀ u, s_st S u = g_st M u) ∧ J5 M ∧ s_c6 S = g_v6 M ∧ s_c7 S = g_v7 M ∧ (∀ o, o < 85 → HB S M o) ∧ (∀ o, o < 85 → NF M o) ∧ WN M
/-- objects in D from i on are still to be let go by t, which had them as K0 says -/
def EI (t : Nat) (D : Nat → Bool) (K0 Z : Nat → Option Nat) (oX n0 cd0 kX : Nat) (i g : Nat) (S : LSt) (M : MSt) : Prop := (RS S M ∧ JA M ∧ (∀ u, s_st S u = g_st M u) ∧ J5 M ∧ s_c6 S = g_v6 M ∧ s_c7 S = g_v7 M + g) ∧ (t < g_n M ∧ g_wt M t = none ∧ g_n M = n0 ∧ g_cd M = cd0 ∧ s_k S ≤ kX) ∧ (∀ o, o < 85 → ¬ (i ≤ o ∧ D o = true) → HB S M o ∧ ¬ g_he M (60 * o + t) = none) ∧ (∀ o, o < 85 → i ≤ o → D o = true → g_he M (60 * o + t) = none ∧ ∀ m u, m < 5 → (lb (s_ha S (o * 5 + m)) u = true ↔ u < g_n M ∧ (if u = t then K0 o = some m else Kh M o u = some m))) ∧ (∀ o, o < 85 → o ≠ oX → ¬ (i ≤ o ∧ D o = true) → NF M o) ∧ (∀ y, g_he M y = none → ∃ o, o < 85 ∧ y = 60 * o + t) ∧ (∀ o, o < 85 → D o = false → Kh M o t = Z o) ∧ (∀ o m, K0 o = some m → m < 5)
theorem HB_frame {S S' : LSt} {M M' : MSt} {o : Nat} (h : HB S M o) (h1 : ∀ m, m < 5 → s_ha S' (o * 5 + m) = s_ha S (o * 5 + m)) (h2 : ∀ u, u < 60 → g_he M' (60 * o + u) = g_he M (60 * o + u)) (h3 : g_n M' = g_n M) (hn : g_n M ≤ 60) : HB S' M' o := by
  intro m u hm
  rw [h1 m hm, h m u hm, h3]
  congr 1
  rw [eq_iff_iff]
  constructor
  · rintro ⟨a, b⟩; exact ⟨a, by rw [h2 u (by omega)]; exact b⟩
  · rintro ⟨a, b⟩; exact ⟨a, by rw [h2 u (by omega)] at b; exact b⟩
theorem Kh_frame {M M' : MSt} {o u : Nat} (h : g_he M' (60 * o + u) = g_he M (60 * o + u)) : Kh M' o u = Kh M o u := by unfold Kh; rw [h]
theorem EI_skip {t : Nat} {D : Nat → Bool} {K0 Z : Nat → Option Nat} {oX n0 cd0 kX i g : Nat} {S : LSt} {M : MSt} (h : EI t D K0 Z oX n0 cd0 kX i g S M) (hd : D i = false) : EI t D K0 Z oX n0 cd0 kX (i + 1) g S M := by
  obtain ⟨h1, h2, h3, h4, h5, h6, h7, h8⟩ := h
  have key : ∀ o, ¬ (i + 1 ≤ o ∧ D o = true) → ¬ (i ≤ o ∧ D o = true) := fun o q r => by
    by_cases e : o = i
    · rw [e, hd] at r; exact nomatch r.2
    · exact q ⟨by omega, r.2⟩
  exact ⟨h1, h2, fun o ho q => h3 o ho (key o q), fun o ho q => h4 o ho (by omega), fun o ho hx q => h5 o ho hx (key o q), h6, h7, h8⟩
theorem EI_hm {t : Nat} {D : Nat → Bool} {K0 Z : Nat → Option Nat} {oX n0 cd0 kX i g : Nat} {S : LSt} {M : MSt} (h : EI t D K0 Z oX n0 cd0 kX i g S M) (hi : i < 85) : hm (s_ha S) t i = if D i = true then K0 i else Z i := by
  obtain ⟨h1, h2, h3, h4, h5, h6, h7, h8⟩ := h
  by_cases e : D i = true
  · rw [if_pos e]
    refine hm_eq (h8 i) (fun m hm => ?_)
    rw [(h4 i hi (Nat.le_refl _) e).2 m t hm, if_pos rfl]
    exact ⟨fun q => q.2, fun q => ⟨h2.1, q⟩⟩
  · rw [if_neg e, ← h7 i hi (by simpa using e)]
    exact hm_K (h3 i hi (fun q => e q.2)).1 h1.1.2.2.2.2.2.2.1 h2.1
theorem EI_none {t : Nat} {D : Nat → Bool} {K0 Z : Nat → Option Nat} {oX n0 cd0 kX i g : Nat} {S : LSt} {M : MSt} (h : EI t D K0 Z oX n0 cd0 kX i g S M) (hi : i < 85) : g_he M (60 * i + t) = none ↔ D i = true := by
  obtain ⟨h1, h2, h3, h4, h5, h6, h7, h8⟩ := h
  constructor
  · intro q
    refine Classical.byContradiction (fun r => ?_)
    exact (h3 i hi (fun x => r x.2)).2 q
  · intro q
    exact (h4 i hi (Nat.le_refl _) q).1
theorem EI_step {t : Nat} {D : Nat → Bool} {K0 Z : Nat → Option Nat} {oX n0 cd0 kX i g : Nat} {S : LSt} {M : MSt} (h : EI t D K0 Z oX n0 cd0 kX i g S M) (hi : i < 85) (hd : D i = true) : EI t D K0 Z oX n0 cd0 kX (i + 1) (g + (sv (s_hl S (lg (s_ha S) t i)) i).2) (sv (s_hl S (lg (s_ha S) t i)) i).1 (ms (m_he M (va_up (g_he M) (60 * i + t) (some 0))) i).1 ∧ (sv (s_hl S (lg (s_ha S) t i)) i).2 = (ms (m_he M (va_up (g_he M) (60 * i + t) (some 0))) i).2 := by
  obtain ⟨⟨h1, hj, hs, hj5, hc6, hc7⟩, ⟨ht, hwt, hn0, hcd, hkx⟩, h3, h4, h5, h6, h7, h8⟩ := h
  have hM := h1.2.2.2.2.2.2.1
  have hn := hM.1
  obtain ⟨d1, d2⟩ := h4 i hi (Nat.le_refl _) hd
  have hKh : ∀ p u, Kh (m_he M (va_up (g_he M) (60 * i + t) (some 0))) p u = Kh M p u := fun p u => by
    show hv (va_up (g_he M) (60 * i + t) (some 0) (60 * p + u)) = hv (g_he M (60 * p + u))
    unfold va_up
    split
    · rename_i q; rw [q, d1]; rfl
    · rfl
  have hRS : RS (s_hl S (lg (s_ha S) t i)) (m_he M (va_up (g_he M) (60 * i + t) (some 0))) := ⟨h1.1, h1.2.1, h1.2.2.1, h1.2.2.2.1, h1.2.2.2.2.1, WF_hl h1.2.2.2.2.2.1 _, WM_he0 hM _, h1.2.2.2.2.2.2.2⟩
  have hJA : JA (m_he M (va_up (g_he M) (60 * i + t) (some 0))) := by
    obtain ⟨j1, j2, j3, j4⟩ := hj
    refine ⟨fun o u ho hu => by rw [hKh]; exact j1 o u ho hu, j2, fun o u v a b ho hu hv huv ha hb => by rw [hKh] at ha hb; exact j3 o u v a b ho hu hv huv ha hb, fun o u ho hu1 hu2 => ?_⟩
    have hu1' : g_n M ≤ u := hu1
    rw [← j4 o u ho hu1' hu2]
    exact va_up_ne _ _ (by omega)
  have hHB : HB (s_hl S (lg (s_ha S) t i)) (m_he M (va_up (g_he M) (60 * i + t) (some 0))) i := by
    intro m u hm
    show lb (lg (s_ha S) t i (i * 5 + m)) u = decide (u < g_n M ∧ va_up (g_he M) (60 * i + t) (some 0) (60 * i + u) = some (m + 1))
    rw [lg_lb (x := K0 i) (h8 i) (fun m hm => by rw [d2 m t hm, if_pos rfl]; exact ⟨fun q => q.2, fun q => ⟨ht, q⟩⟩) hm (by omega)]
    unfold va_up
    by_cases e : u = t
    · subst e
      rw [if_pos rfl, if_pos rfl]
      symm
      rw [decide_eq_false_iff_not]
      rintro ⟨-, q⟩
      cases q
    · rw [if_neg e, if_neg (by omega), Bool.eq_iff_iff, d2 m u hm, if_neg e, decide_eq_true_iff]
      unfold Kh
      rw [hv_some]
  obtain ⟨⟨hCR, v2, v3, v4, v5, v6⟩, hcnt, hNF⟩ := SV_serve hRS hHB hJA hi hs hj5
  obtain ⟨c1, c2, c3, c4, c5, ⟨c61, c62, c63, c64, c65, c66⟩, c7, c8, c9, c10, c11⟩ := hCR
  have c61' : g_n (ms (m_he M (va_up (g_he M) (60 * i + t) (some 0))) i).1 = g_n M := c61
  have fha : ∀ o m, o ≠ i → m < 5 → s_ha (sv (s_hl S (lg (s_ha S) t i)) i).1 (o * 5 + m) = s_ha S (o * 5 + m) := fun o m ho hm => by
    rw [c4 o m ho hm]; exact lg_ne ho hm
  have fhe : ∀ o u, o ≠ i → u < 60 → g_he (ms (m_he M (va_up (g_he M) (60 * i + t) (some 0))) i).1 (60 * o + u) = g_he M (60 * o + u) := fun o u ho hu => by
    rw [c5 o u ho hu]; exact va_up_ne _ _ (by omega)
  have fti : g_he (ms (m_he M (va_up (g_he M) (60 * i + t) (some 0))) i).1 (60 * i + t) = some 0 := by
    rw [c11 t hwt (by omega)]; exact va_up_self _ _ _
  have key : ∀ o, o ≠ i → ¬ (i + 1 ≤ o ∧ D o = true) → ¬ (i ≤ o ∧ D o = true) := fun o e q r => q ⟨by omega, r.2⟩
  have hwt' : g_wt (ms (m_he M (va_up (g_he M) (60 * i + t) (some 0))) i).1 t = none := by
    rcases c8 t with q | q
    · exact q
    · rw [q]; exact hwt
  refine ⟨⟨⟨c1, c3, v2, v3, ?_, ?_⟩, ⟨?_, hwt', ?_, ?_, ?_⟩, fun o ho q => ?_, fun o ho q1 q2 => ?_, fun o ho hx q => ?_, fun y hy => ?_, fun o ho q => ?_, h8⟩, hcnt⟩
  · rw [v4, c64]; exact hc6
  · rw [v5, c65]
    show s_c7 S + _ = g_v7 M + _
    omega
  · rw [c61']; exact ht
  · rw [c61']; exact hn0
  · rw [c66]; exact hcd
  · exact Nat.le_trans c7 hkx
  · by_cases e : o = i
    · subst e
      exact ⟨c2, by rw [fti]; simp⟩
    · obtain ⟨a, b⟩ := h3 o ho (key o e q)
      exact ⟨HB_frame a (fun m hm => fha o m e hm) (fun u hu => fhe o u e hu) c61' hn, by rw [fhe o t e (by omega)]; exact b⟩
  · have e : o ≠ i := by omega
    obtain ⟨a, b⟩ := h4 o ho (by omega) q2
    refine ⟨by rw [fhe o t e (by omega)]; exact a, fun m u hm => ?_⟩
    rw [fha o m e hm, b m u hm, c61']
    constructor
    · rintro ⟨x, y⟩
      refine ⟨x, ?_⟩
      split
      · rename_i z; rw [if_pos z] at y; exact y
      · rename_i z; rw [if_neg z] at y; rw [Kh_frame (fhe o u e (by omega))]; exact y
    · rintro ⟨x, y⟩
      refine ⟨x, ?_⟩
      split
      · rename_i z; rw [if_pos z] at y; exact y
      · rename_i z; rw [if_neg z, Kh_frame (fhe o u e (by omega))] at y; exact y
  · by_cases e : o = i
    · subst e; exact hNF
    · refine c9 o ho e ?_
      have g := h5 o ho hx (key o e q)
      rw [NF_iff hM] at g
      rw [NF_iff (WM_he0 hM _)]
      intro hq
      obtain ⟨u, u1, u2, m, u3, u4⟩ := g hq
      exact ⟨u, u1, u2, m, by rw [hKh]; exact u3, u4⟩
  · have := c10 y hy
    have this' : va_up (g_he M) (60 * i + t) (some 0) y = none := this
    unfold va_up at this'
    split at this'
    · cases this'
    · exact h6 y this'
  · have e : o ≠ i := fun e => by rw [e, hd] at q; cases q
    rw [Kh_frame (fhe o t e (by omega))]
    exact h7 o ho q
theorem lg_none {ha : Nat → Int64} {t o : Nat} (h : hm ha t o = none) : lg ha t o = ha := by unfold lg; rw [h]
theorem en_e2 {t : Nat} {a : Option Nat} {D : Nat → Bool} {K0 : Nat → Option Nat} {oX n0 cd0 kX : Nat} (hD : ∀ o, D o = true ↔ (K0 o).isSome = true ∨ a = some o) : ∀ (f i g : Nat) (S : LSt) (M : MSt), i + f = 85 → EI t D K0 (fun _ => none) oX n0 cd0 kX i g S M → EI t D K0 (fun _ => none) oX n0 cd0 kX 85 (enF t a f i g S).2 (enF t a f i g S).1 (e2F t f i g M).1 ∧ (enF t a f i g S).2 = (e2F t f i g M).2 := by
  intro f
  induction f with
  | zero =>
    intro i g S M hi h
    have e : i = 85 := by omega
    subst e
    exact ⟨h, rfl⟩
  | succ f ih =>
    intro i g S M hi h
    have hlt : i < 85 := by omega
    have h1 := EI_hm h hlt
    have h2 := EI_none h hlt
    unfold enF e2F
    by_cases e : D i = true
    · rw [if_pos e] at h1
      rw [if_pos (by rw [h1]; exact (hD i).mp e), if_pos (h2.mpr e)]
      obtain ⟨k1, k2⟩ := EI_step h hlt e
      rw [← k2]
      exact ih _ _ _ _ (by omega) k1
    · rw [if_neg e] at h1
      have hne : ¬ ((hm (s_ha S) t i).isSome = true ∨ a = some i) := by
        rw [h1]
        rintro (q | q)
        · cases q
        · exact e ((hD i).mpr (Or.inr q))
      rw [if_neg hne, if_neg (fun q => e (h2.mp q)), lg_none h1]
      exact ih _ _ _ _ (by omega) (EI_skip h (by simpa using e))
theorem EI_end {t : Nat} {D : Nat → Bool} {K0 Z : Nat → Option Nat} {n0 cd0 kX g : Nat} {S : LSt} {M : MSt} (h : EI t D K0 Z 85 n0 cd0 kX 85 g S M) : Rel S (m_7 M g) := by
  obtain ⟨⟨h1, hj, hs, hj5, hc6, hc7⟩, h2, h3, h4, h5, h6, h7, h8⟩ := h
  refine ⟨h1, hj, hs, hj5, hc6, hc7, fun o ho => (h3 o ho (by omega)).1, fun o ho => h5 o ho (by omega) (by omega), fun y hy => ?_⟩
  obtain ⟨o, ho, e⟩ := h6 y hy
  have := (h3 o ho (by omega)).2
  rw [← e] at this
  exact this hy
theorem e1F_at {t : Nat} {a : Option Nat} (ht : t < 60) : ∀ (f i : Nat) (h : Nat → Option Nat), (∀ y, (∀ o, i ≤ o → o < i + f → y ≠ 60 * o + t) → e1F t a f i h y = h y) ∧ (∀ o, i ≤ o → o < i + f → e1F t a f i h (60 * o + t) = if 0 < oI (h (60 * o + t)) ∨ a = some o then none else some 0) := by
  intro f
  induction f with
  | zero => intro i h; exact ⟨fun y _ => rfl, fun o h1 h2 => absurd h2 (by omega)⟩
  | succ f ih =>
    intro i h
    unfold e1F
    obtain ⟨k1, k2⟩ := ih (i + 1) (va_up h (60 * i + t) (if 0 < oI (h (60 * i + t)) ∨ a = some i then none else some 0))
    refine ⟨fun y hy => ?_, fun o h1 h2 => ?_⟩
    · rw [k1 y (fun o q1 q2 => hy o (by omega) (by omega))]
      exact va_up_ne _ _ (hy i (Nat.le_refl _) (by omega))
    · by_cases e : o = i
      · subst e
        rw [k1 _ (fun p q1 q2 => by omega), va_up_self]
      · rw [k2 o (by omega) (by omega), va_up_ne _ _ (by omega)]
theorem oI_pos {x : Option Nat} (h : ∀ y, x = some y → y < 6) : 0 < oI x ↔ (hv x).isSome = true := by
  cases x with
  | none => exact ⟨fun q => absurd q (by decide), fun q => by cases q⟩
  | some y =>
    have key : ∀ y, y < 6 → (0 < oI (some y) ↔ (hv (some y)).isSome = true) := by decide +kernel
    exact key y (h y rfl)
theorem QM_dq {M : MSt} (hM : WM M) {t o p : Nat} : QM (m_dq M t o) p = if p = o then (QM M o).filter (fun u => decide (u ≠ t)) else QM M p := by
  obtain ⟨b1, b2, b3, b4⟩ := lqF_lst (t := t) (g_qs M o) (60 * o) (60 * o) (g_qu M) (Nat.le_refl _)
  show lst (lqF t (g_qs M o) (60 * o) (60 * o) (g_qu M)).1 (60 * p) (va_up (g_qs M) o ((lqF t (g_qs M o) (60 * o) (60 * o) (g_qu M)).2 - 60 * o) p) = _
  by_cases e : p = o
  · subst e
    rw [va_up_self, if_pos rfl, b4]; rfl
  · rw [va_up_ne _ _ e, if_neg e]
    refine lst_congr _ _ (fun x x1 x2 => ?_)
    have g1 := hM.2.2.1 p
    have g2 := hM.2.2.1 o
    rcases Nat.lt_or_gt_of_ne e with q | q
    · exact b1 x (by omega)
    · exact b2 x (by omega)
theorem q0_mlv {M : MSt} (hM : WM M) {t p : Nat} (h : ¬ g_wt M t = some p) : g_qs (mlv M t) p = g_qs M p ∧ g_qu (mlv M t) (60 * p) = g_qu M (60 * p) := by
  unfold mlv
  cases e : g_wt M t with
  | none => exact ⟨rfl, rfl⟩
  | some o =>
    have hp : p ≠ o := fun q => h (by rw [e, q])
    obtain ⟨b1, b2, b3, b4⟩ := lqF_lst (t := t) (g_qs M o) (60 * o) (60 * o) (g_qu M) (Nat.le_refl _)
    refine ⟨va_up_ne _ _ hp, ?_⟩
    have g2 := hM.2.2.1 o
    rcases Nat.lt_or_gt_of_ne hp with q | q
    · exact b1 _ (by omega)
    · exact b2 _ (by omega)
theorem QM_mlv {M : MSt} (hM : WM M) {t p : Nat} : (QM (mlv M t) p).Sublist (QM M p) := by
  unfold mlv
  cases e : g_wt M t with
  | none => exact List.Sublist.refl _
  | some o =>
    show (QM (m_dq M t o) p).Sublist _
    rw [QM_dq hM]
    split
    · rename_i q; rw [q]; exact List.filter_sublist
    · exact List.Sublist.refl _
theorem mlv_f (M : MSt) (t : Nat) : g_he (mlv M t) = g_he M ∧ g_n (mlv M t) = g_n M ∧ g_wt (mlv M t) = g_wt M ∧ g_st (mlv M t) = g_st M ∧ g_pr (mlv M t) = g_pr M ∧ g_wn (mlv M t) = g_wn M ∧ g_cv (mlv M t) = g_cv M ∧ g_cd (mlv M t) = g_cd M ∧ g_v5 (mlv M t) = g_v5 M ∧ g_v6 (mlv M t) = g_v6 M ∧ g_v7 (mlv M t) = g_v7 M := by
  unfold mlv
  cases g_wt M t with
  | none => exact ⟨rfl, rfl, rfl, rfl, rfl, rfl, rfl, rfl, rfl, rfl, rfl⟩
  | some o => exact ⟨rfl, rfl, rfl, rfl, rfl, rfl, rfl, rfl, rfl, rfl, rfl⟩
theorem EI_start {S : LSt} {M : MSt} (h : Rel S M) {t x : Nat} (ht : t < g_n M) (hx : x < 4) (hx1 : x ≠ 1) : EI t (fun o => (Kh M o t).isSome || decide (g_wt M t = some o)) (fun o => Kh M o t) (fun _ => none) 85 (g_n M) (g_cd M) (lqF t (s_k S) 0 0 (s_la S)).2 0 0 (lv S t x) (m_he (m_ws (mlv M t) t x) (e1F t (g_wt M t) 85 0 (g_he (mlv M t)))) := by
  obtain ⟨h1, hj, hs, hj5, hc6, hc7, hb, hnf, hwn⟩ := h
  have hM := h1.2.2.2.2.2.2.1
  have hn := hM.1
  obtain ⟨m1, m2, m3, m4, m5, m6, m7, m8, m9, m10, m11⟩ := mlv_f M t
  rw [m1]
  obtain ⟨p1, p2⟩ := e1F_at (t := t) (a := g_wt M t) (by omega) 85 0 (g_he M)
  rw [Nat.zero_add] at p1 p2
  have heo : ∀ o u, u < 60 → u ≠ t → e1F t (g_wt M t) 85 0 (g_he M) (60 * o + u) = g_he M (60 * o + u) := fun o u hu hne => p1 _ (fun p _ _ => by omega)
  have het : ∀ o, o < 85 → e1F t (g_wt M t) 85 0 (g_he M) (60 * o + t) = if (Kh M o t).isSome = true ∨ g_wt M t = some o then none else some 0 := fun o ho => by
    rw [p2 o (by omega) ho]
    have := oI_pos (x := g_he M (60 * o + t)) (fun y => hM.2.2.2.2.2.2.2 _ y)
    unfold Kh
    by_cases e : 0 < oI (g_he M (60 * o + t)) ∨ g_wt M t = some o
    · rw [if_pos e, if_pos (by rw [← this]; exact e)]
    · rw [if_neg e, if_neg (by rw [← this]; exact e)]
  have hWM : WM (m_he (m_ws (mlv M t) t x) (e1F t (g_wt M t) 85 0 (g_he M))) := WM_he (WM_ws (WM_mlv hM t) t hx) (e1F_lt _ _ _ hM.2.2.2.2.2.2.2)
  have hRS : RS (lv S t x) (m_he (m_ws (mlv M t) t x) (e1F t (g_wt M t) 85 0 (g_he M))) := by
    refine ⟨?_, ?_, ?_, fun u => ?_, ?_, WF_lv h1.2.2.2.2.2.1 t x hx, hWM, ?_⟩
    · show s_n S = g_n (mlv M t); rw [m2]; exact h1.1
    · show s_pr S = g_pr (mlv M t); rw [m5]; exact h1.2.1
    · show va_up (s_aw S) t none = va_up (g_wt (mlv M t)) t none; rw [m3, h1.2.2.1]
    · show va_up (s_wa S) t none u = (va_up (g_wt (mlv M t)) t none u).map (fun _ => g_wn (mlv M t) u)
      rw [m3, m6]
      unfold va_up
      split
      · rfl
      · exact h1.2.2.2.1 u
    · show RC (g_n (mlv M t)) (va_up (g_wt (mlv M t)) t none) (lqF t (s_k S) 0 0 (s_la S)).1 (lqF t (s_k S) 0 0 (s_la S)).2 (g_qs (mlv M t)) (g_qu (mlv M t))
      rw [m2, m3]
      unfold mlv
      cases e : g_wt M t with
      | none => exact RC_leave0 h1.2.2.2.2.1 e
      | some o => exact RC_leave h1.2.2.2.2.1 (hM.2.2.2.1 t o e) e hM.2.2.1
    · show s_c5 S = g_v5 (mlv M t); rw [m9]; exact h1.2.2.2.2.2.2.2
  have hwt : g_wt (m_he (m_ws (mlv M t) t x) (e1F t (g_wt M t) 85 0 (g_he M))) = va_up (g_wt M) t none := by
    show va_up (g_wt (mlv M t)) t none = _; rw [m3]
  have hgn : g_n (m_he (m_ws (mlv M t) t x) (e1F t (g_wt M t) 85 0 (g_he M))) = g_n M := m2
  have hKo : ∀ o u, u < 60 → u ≠ t → Kh (m_he (m_ws (mlv M t) t x) (e1F t (g_wt M t) 85 0 (g_he M))) o u = Kh M o u := fun o u hu hne => by
    show hv (e1F t (g_wt M t) 85 0 (g_he M) (60 * o + u)) = _; rw [heo o u hu hne]; rfl
  have hKt : ∀ o, o < 85 → Kh (m_he (m_ws (mlv M t) t x) (e1F t (g_wt M t) 85 0 (g_he M))) o t = none := fun o ho => by
    show hv (e1F t (g_wt M t) 85 0 (g_he M) (60 * o + t)) = _
    rw [het o ho]; split <;> rfl
  obtain ⟨j1, j2, j3, j4⟩ := hj
  refine ⟨⟨hRS, ⟨fun o u ho hu => ?_, fun o ho => ?_, fun o u v a b ho hu hv' huv ha hb' => ?_, fun o u ho hu1 hu2 => ?_⟩, fun u => ?_, fun u hu => ?_, ?_, ?_⟩, ⟨?_, ?_, hgn, m8, Nat.le_refl _⟩, fun o ho q => ?_, fun o ho _ q => ?_, fun o ho hx' q => ?_, fun y hy => ?_, fun o ho q => hKt o ho, fun o m q => Kh_lt hM q⟩
  · have hu' := (RS_q hRS ho).mp hu
    rw [hwt, hgn] at hu'
    have hne : u ≠ t := fun q => by rw [q, va_up_self] at hu'; exact nomatch hu'.2
    rw [va_up_ne _ _ hne] at hu'
    rw [hKo o u (by omega) hne]
    show g_cv (mlv M t) u = _
    rw [m7]
    exact j1 o u ho ((RS_q h1 ho).mpr hu')
  · show List.Pairwise (fun a b => g_cv (mlv M t) b = true → g_cv (mlv M t) a = true) (QM (mlv M t) o)
    rw [m7]
    exact List.Pairwise.sublist (QM_mlv hM) (j2 o ho)
  · rw [hgn] at hu hv'
    have hne : u ≠ t := fun q => by rw [q, hKt o ho] at ha; cases ha
    have hne2 : v ≠ t := fun q => by rw [q, hKt o ho] at hb'; cases hb'
    rw [hKo o u (by omega) hne] at ha
    rw [hKo o v (by omega) hne2] at hb'
    exact j3 o u v a b ho hu hv' huv ha hb'
  · rw [hgn] at hu1
    rw [← j4 o u ho hu1 hu2]
    exact heo o u hu2 (by omega)
  · show va_up (s_st S) t x u = va_up (g_st (mlv M t)) t x u
    rw [m4]
    unfold va_up
    split
    · rfl
    · exact hs u
  · rw [hwt]
    show ¬ va_up (g_wt M) t none u = none ↔ va_up (g_st (mlv M t)) t x u = 1
    rw [m4]
    rw [hgn] at hu
    unfold va_up
    split
    · exact ⟨fun q => absurd rfl q, fun q => absurd q hx1⟩
    · exact hj5 u hu
  · show s_c6 S = g_v6 (mlv M t); rw [m10]; exact hc6
  · show s_c7 S = g_v7 (mlv M t) + 0; rw [m11]; exact hc7
  · rw [hgn]; exact ht
  · rw [hwt, va_up_self]
  · have hD : ¬ ((Kh M o t).isSome = true ∨ g_wt M t = some o) := fun r => q ⟨by omega, by simpa using r⟩
    have hK : Kh M o t = none := by
      cases e : Kh M o t with
      | none => rfl
      | some m => exact absurd (Or.inl (by rw [e]; rfl)) hD
    have he2 : g_he (m_he (m_ws (mlv M t) t x) (e1F t (g_wt M t) 85 0 (g_he M))) (60 * o + t) = some 0 := by
      show e1F t (g_wt M t) 85 0 (g_he M) (60 * o + t) = some 0
      rw [het o ho, if_neg hD]
    refine ⟨fun m u hm => ?_, by rw [he2]; simp⟩
    rw [hgn]
    show lb (s_ha S (o * 5 + m)) u = _
    rw [hb o ho m u hm]
    by_cases e : u = t
    · subst e
      rw [he2, (hv_none (hwn _)).mp hK]
    · congr 1
      rw [eq_iff_iff]
      constructor
      · rintro ⟨a, b⟩; exact ⟨a, by rw [← b]; exact heo o u (by omega) e⟩
      · rintro ⟨a, b⟩; exact ⟨a, by rw [← b]; exact (heo o u (by omega) e).symm⟩
  · have hD : (Kh M o t).isSome = true ∨ g_wt M t = some o := by simpa using q
    refine ⟨?_, fun m u hm => ?_⟩
    · show e1F t (g_wt M t) 85 0 (g_he M) (60 * o + t) = none
      rw [het o ho, if_pos hD]
    · show lb (s_ha S (o * 5 + m)) u = true ↔ _
      rw [HB_K (hb o ho) hm, hgn]
      by_cases e : u = t
      · rw [if_pos e, e]
      · rw [if_neg e]
        constructor
        · rintro ⟨a, b⟩; exact ⟨a, by rw [hKo o u (by omega) e]; exact b⟩
        · rintro ⟨a, b⟩; exact ⟨a, by rw [hKo o u (by omega) e] at b; exact b⟩
  · have hD : ¬ ((Kh M o t).isSome = true ∨ g_wt M t = some o) := fun r => q ⟨by omega, by simpa using r⟩
    have g := hnf o ho
    rw [NF_iff hM] at g
    rw [NF_iff hWM]
    obtain ⟨a1, a2⟩ := q0_mlv hM (t := t) (p := o) (fun r => hD (Or.inr r))
    show 0 < g_qs (mlv M t) o → ∃ u, Wy _ (g_qu (mlv M t) (60 * o)) o (g_wn (mlv M t) (g_qu (mlv M t) (60 * o))) u
    rw [a1, a2, m6]
    intro hq
    obtain ⟨u, u1, u2, m, u3, u4⟩ := g hq
    have hne : u ≠ t := fun r => hD (Or.inl (by rw [← r, u3]; rfl))
    exact ⟨u, by rw [hgn]; exact u1, u2, m, by rw [hKo o u (by omega) hne]; exact u3, u4⟩
  · have hy' : e1F t (g_wt M t) 85 0 (g_he M) y = none := hy
    refine Classical.byContradiction (fun r => ?_)
    rw [p1 y (fun o _ ho e => r ⟨o, ho, e⟩)] at hy'
    exact hwn y hy'
theorem Rel_end {S : LSt} {M : MSt} (h : Rel S M) {t x : Nat} (ht : t < g_n M) (hx : x < 4) (hx1 : x ≠ 1) : Rel (en S t x).1 (mend M t x).1 ∧ (en S t x).2 = (mend M t x).2 ∧ g_n (mend M t x).1 = g_n M ∧ g_cd (mend M t x).1 = g_cd M ∧ s_k (en S t x).1 ≤ (lqF t (s_k S) 0 0 (s_la S)).2 := by
  have K := en_e2 (a := s_aw S t) (fun o => by rw [h.1.2.2.1]; simp) 85 0 0 _ _ rfl (EI_start h ht hx hx1)
  unfold en mend
  generalize e2F t 85 0 0 (m_he (m_ws (mlv M t) t x) (e1F t (g_wt M t) 85 0 (g_he (mlv M t)))) = E at K ⊢
  generalize enF t (s_aw S t) 85 0 0 (lv S t x) = N at K ⊢
  obtain ⟨K1, K2⟩ := K
  have K3 := EI_end K1
  rw [K2] at K3
  exact ⟨K3, K2, K1.2.1.2.2.1, K1.2.1.2.2.2.1, K1.2.1.2.2.2.2⟩
