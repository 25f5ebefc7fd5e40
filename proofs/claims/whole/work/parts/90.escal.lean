/-! PURE: escalate -/
theorem bl_rb : ∀ l, l < 85 → ∀ u, u < 85 → blw l u = rb l u := by decide +kernel
theorem wr_rw : ∀ m, m < 5 → wrI (nI m) = rwI (nI m) := by decide +kernel
theorem wbF_iff {ha : Nat → Int64} {t o : Nat} : ∀ (f i : Nat), wbF ha t o f i = true ↔ ∃ j, i ≤ j ∧ j < i + f ∧ blw j o = true ∧ wrI (oI (hm ha t j)) = true := by
  intro f
  induction f with
  | zero => intro i; exact ⟨fun q => (nomatch q), fun ⟨j, h1, h2, _⟩ => absurd h2 (by omega)⟩
  | succ f ih =>
    intro i
    unfold wbF
    by_cases e : blw i o = true ∧ wrI (oI (hm ha t i)) = true
    · rw [if_pos e]; exact ⟨fun _ => ⟨i, Nat.le_refl _, by omega, e⟩, fun _ => rfl⟩
    · rw [if_neg e, ih]
      constructor
      · rintro ⟨j, h1, h2, h3⟩; exact ⟨j, by omega, by omega, h3⟩
      · rintro ⟨j, h1, h2, h3⟩
        by_cases ej : j = i
        · rw [ej] at h3; exact absurd h3 e
        · exact ⟨j, by omega, by omega, h3⟩
theorem xwF_1 {he : Nat → Option Nat} {t o : Nat} : ∀ (f i : Nat) (w : Bool) (c : Nat), (xwF he t o f i w c).1 = true ↔ w = true ∨ ∃ j, i ≤ j ∧ j < i + f ∧ xwI he t o j = true ∧ rwI (mdI he t j) = true := by
  intro f
  induction f with
  | zero => intro i w c; exact ⟨fun q => Or.inl q, fun q => q.elim id (fun ⟨j, h1, h2, _⟩ => absurd h2 (by omega))⟩
  | succ f ih =>
    intro i w c
    unfold xwF
    rw [ih, Bool.or_eq_true, Bool.and_eq_true]
    constructor
    · rintro ((q | q) | ⟨j, h1, h2, h3⟩)
      · exact Or.inl q
      · exact Or.inr ⟨i, Nat.le_refl _, by omega, q⟩
      · exact Or.inr ⟨j, by omega, by omega, h3⟩
    · rintro (q | ⟨j, h1, h2, h3⟩)
      · exact Or.inl (Or.inl q)
      · by_cases ej : j = i
        · rw [ej] at h3; exact Or.inl (Or.inr h3)
        · exact Or.inr ⟨j, by omega, by omega, h3⟩
theorem xwF_2 {he : Nat → Option Nat} {t o : Nat} : ∀ (f i : Nat) (w : Bool) (c : Nat), (xwF he t o f i w c).2 = cnt (xwI he t o) f i c := by
  intro f
  induction f with
  | zero => intro i w c; rfl
  | succ f ih => intro i w c; unfold xwF cnt; rw [ih]
theorem cnt_congr {p q : Nat → Bool} : ∀ (f i a : Nat), (∀ j, i ≤ j → j < i + f → p j = q j) → cnt p f i a = cnt q f i a := by
  intro f
  induction f with
  | zero => intro i a _; rfl
  | succ f ih =>
    intro i a h
    unfold cnt
    rw [h i (Nat.le_refl _) (by omega)]
    exact ih _ _ (fun j h1 h2 => h j (by omega) (by omega))
theorem xmF_at {t o : Nat} (ht : t < 60) : ∀ (f i : Nat) (h : Nat → Option Nat), (∀ y, (∀ j, i ≤ j → j < i + f → y ≠ 60 * j + t) → xmF t o f i h y = h y) ∧ (∀ j, i ≤ j → j < i + f → xmF t o f i h (60 * j + t) = if xwI h t o j = true then none else h (60 * j + t)) := by
  intro f
  induction f with
  | zero => intro i h; exact ⟨fun y _ => rfl, fun o h1 h2 => absurd h2 (by omega)⟩
  | succ f ih =>
    intro i h
    unfold xmF
    obtain ⟨k1, k2⟩ := ih (i + 1) (if xwI h t o i = true then va_up h (60 * i + t) none else h)
    refine ⟨fun y hy => ?_, fun j h1 h2 => ?_⟩
    · rw [k1 y (fun o q1 q2 => hy o (by omega) (by omega))]
      split
      · exact va_up_ne _ _ (hy i (Nat.le_refl _) (by omega))
      · rfl
    · by_cases e : j = i
      · subst e
        rw [k1 _ (fun p q1 q2 => by omega)]
        split
        · rw [va_up_self]
        · rfl
      · rw [k2 j (by omega) (by omega)]
        have hh : (if xwI h t o i = true then va_up h (60 * i + t) none else h) (60 * j + t) = h (60 * j + t) := by
          split
          · exact va_up_ne _ _ (by omega)
          · rfl
        have hx : xwI (if xwI h t o i = true then va_up h (60 * i + t) none else h) t o j = xwI h t o j := by
          unfold xwI mdI at hh ⊢
          rw [hh]
        rw [hx, hh]
theorem EI_7 {t : Nat} {D : Nat → Bool} {K0 Z : Nat → Option Nat} {oX n0 cd0 kX i g : Nat} {S : LSt} {M : MSt} (h : EI t D K0 Z oX n0 cd0 kX i g S M) : EI t D K0 Z oX n0 cd0 kX i 0 S (m_7 M g) := by
  obtain ⟨⟨h1, hj, hs, hj5, hc6, hc7⟩, h2, h3, h4, h5, h6, h7, h8⟩ := h
  exact ⟨⟨h1, hj, hs, hj5, hc6, hc7⟩, h2, h3, h4, h5, h6, h7, h8⟩
theorem s_hl_id (S : LSt) : s_hl S (s_ha S) = S := rfl
theorem db_xs {t o : Nat} {D : Nat → Bool} {K0 Z : Nat → Option Nat} {n0 cd0 kX : Nat} (hD : ∀ i, i < 85 → o < i → (D i = true ↔ blw i o = true ∧ (K0 i).isSome = true)) (hZ : ∀ i, i < 85 → o < i → Z i = K0 i) : ∀ (f i c : Nat) (S : LSt) (M : MSt), i + f = 85 → o < i → EI t D K0 Z o n0 cd0 kX i 0 S M → EI t D K0 Z o n0 cd0 kX 85 0 (dbF t o f i c S).1 (xsF t f i M) ∧ (dbF t o f i c S).2 = cnt D f i c := by
  intro f
  induction f with
  | zero =>
    intro i c S M hi ho h
    have e : i = 85 := by omega
    subst e
    exact ⟨h, rfl⟩
  | succ f ih =>
    intro i c S M hi ho h
    have hlt : i < 85 := by omega
    have h1 := EI_hm h hlt
    have h2 := EI_none h hlt
    unfold dbF xsF cnt
    by_cases e : D i = true
    · obtain ⟨e1, e2⟩ := (hD i hlt ho).mp e
      rw [if_pos e] at h1
      rw [if_pos e1, if_pos (by rw [h1]; exact e2), if_pos (h2.mpr e), if_pos e]
      obtain ⟨k1, k2⟩ := EI_step h hlt e
      rw [Nat.zero_add] at k1
      rw [← k2]
      exact ih _ _ _ _ (by omega) (by omega) (EI_7 k1)
    · rw [if_neg e] at h1
      rw [if_neg (fun q => e (h2.mp q)), if_neg e]
      have k := ih (i + 1) c S M (by omega) (by omega) (EI_skip h (by simpa using e))
      by_cases e1 : blw i o = true
      · have hn : hm (s_ha S) t i = none := by
          rw [h1, hZ i hlt ho]
          cases ek : K0 i with
          | none => rfl
          | some m => exact absurd ((hD i hlt ho).mpr ⟨e1, by rw [ek]; rfl⟩) e
        rw [if_pos e1, if_neg (by rw [hn]; simp), lg_none hn, s_hl_id]
        exact k
      · rw [if_neg e1]
        exact k
theorem xw_K {M : MSt} (hM : WM M) {t o i : Nat} (hi : i < 85) (ho : o < 85) : xwI (g_he M) t o i = (blw i o && (Kh M i t).isSome) := by
  unfold xwI
  rw [bl_rb i hi o ho]
  congr 1
  have := (md_K hM i t).1
  cases e : Kh M i t with
  | none => simp [this.mpr e]
  | some m =>
    have hne : ¬ mdI (g_he M) t i < 0 := fun q => by rw [this] at q; rw [e] at q; cases q
    simp [hne]
theorem ww_eq {S : LSt} {M : MSt} (h : Rel S M) {t o : Nat} (ht : t < g_n M) (ho : o < 85) : eww S t o = xww M t o := by
  have hM := h.1.2.2.2.2.2.2.1
  have hb := h.2.2.2.2.2.2.1
  have e : wb (s_ha S) t o = (xwF (g_he M) t o (84 - o) (o + 1) false 0).1 := by
    rw [Bool.eq_iff_iff, xwF_1]
    unfold wb
    rw [wbF_iff]
    constructor
    · rintro ⟨j, h1, h2, h3, h4⟩
      have hj : j < 85 := by omega
      rw [hm_K (hb j hj) hM ht] at h4
      cases ek : Kh M j t with
      | none => rw [ek] at h4; exact absurd h4 (by decide)
      | some m =>
        rw [ek] at h4
        have hm5 := Kh_lt hM ek
        refine Or.inr ⟨j, h1, h2, ?_, ?_⟩
        · rw [xw_K hM hj ho, h3, ek]; rfl
        · rw [(md_K hM j t).2 m ek, ← wr_rw m hm5]; exact h4
    · rintro (q | ⟨j, h1, h2, h3, h4⟩)
      · cases q
      · have hj : j < 85 := by omega
        rw [xw_K hM hj ho, Bool.and_eq_true] at h3
        cases ek : Kh M j t with
        | none => rw [ek] at h3; exact nomatch h3.2
        | some m =>
          have hm5 := Kh_lt hM ek
          refine ⟨j, h1, h2, h3.1, ?_⟩
          rw [hm_K (hb j hj) hM ht, ek]
          show wrI (nI m) = true
          rw [(md_K hM j t).2 m ek, ← wr_rw m hm5] at h4
          exact h4
  unfold eww xww
  rw [e, hm_K (hb o ho) hM ht]
  rfl
theorem EI_esc {S : LSt} {M : MSt} (h : Rel S M) {t o w : Nat} (ht : t < g_n M) (ho : o < 85) (hw : w < 5) (hwt : g_wt M t = none) (hfit : ∀ u, ¬ Wy M t o w u) : EI t (fun i => decide (o < i) && (blw i o && (Kh M i t).isSome)) (fun i => Kh M i t) (fun i => if i = o then some w else Kh M i t) o (g_n M) (g_cd M) (s_k S) (o + 1) 0 (s_hl S (hd (s_ha S) t o w)) (x_M M t o w) := by
  obtain ⟨h1, hj, hs, hj5, hc6, hc7, hb, hnf, hwn⟩ := h
  have hM := h1.2.2.2.2.2.2.1
  have hn := hM.1
  have hXM := WM_xM hM t o hw
  obtain ⟨p1, p2⟩ := xmF_at (t := t) (o := o) (by omega) (84 - o) (o + 1) (va_up (g_he M) (60 * o + t) (some (w + 1)))
  -- rows of others, of t at o, of t elsewhere
  have heo : ∀ p u, u < 60 → u ≠ t → g_he (x_M M t o w) (60 * p + u) = g_he M (60 * p + u) := fun p u hu hne => by
    show xmF t o (84 - o) (o + 1) (va_up (g_he M) (60 * o + t) (some (w + 1))) (60 * p + u) = _
    rw [p1 _ (fun j _ _ => by omega)]
    exact va_up_ne _ _ (by omega)
  have heto : g_he (x_M M t o w) (60 * o + t) = some (w + 1) := by
    show xmF t o (84 - o) (o + 1) (va_up (g_he M) (60 * o + t) (some (w + 1))) (60 * o + t) = _
    rw [p1 _ (fun j _ _ => by omega), va_up_self]
  have het : ∀ p, p < 85 → p ≠ o → g_he (x_M M t o w) (60 * p + t) = if (decide (o < p) && (blw p o && (Kh M p t).isSome)) = true then none else g_he M (60 * p + t) := fun p hp hpo => by
    show xmF t o (84 - o) (o + 1) (va_up (g_he M) (60 * o + t) (some (w + 1))) (60 * p + t) = _
    rcases Nat.lt_or_gt_of_ne hpo with q | q
    · rw [p1 _ (fun j _ _ => by omega), va_up_ne _ _ (by omega), if_neg (by rw [show decide (o < p) = false from decide_eq_false (by omega)]; simp)]
    · rw [p2 p (by omega) (by omega)]
      have hh : va_up (g_he M) (60 * o + t) (some (w + 1)) (60 * p + t) = g_he M (60 * p + t) := va_up_ne _ _ (by omega)
      have hx : xwI (va_up (g_he M) (60 * o + t) (some (w + 1))) t o p = xwI (g_he M) t o p := by
        unfold xwI mdI
        rw [hh]
      rw [hx, hh, xw_K hM hp ho, show decide (o < p) = true from decide_eq_true q, Bool.true_and]
  have hKo : ∀ p u, u < 60 → u ≠ t → Kh (x_M M t o w) p u = Kh M p u := fun p u hu hne => Kh_frame (heo p u hu hne)
  have hKto : Kh (x_M M t o w) o t = some w := by unfold Kh; rw [heto]; rfl
  have hKt : ∀ p, p < 85 → p ≠ o → Kh (x_M M t o w) p t = none ∨ Kh (x_M M t o w) p t = Kh M p t := fun p hp hpo => by
    unfold Kh
    rw [het p hp hpo]
    split
    · exact Or.inl rfl
    · exact Or.inr rfl
  have hRS : RS (s_hl S (hd (s_ha S) t o w)) (x_M M t o w) := ⟨h1.1, h1.2.1, h1.2.2.1, h1.2.2.2.1, h1.2.2.2.2.1, WF_hl h1.2.2.2.2.2.1 _, hXM, h1.2.2.2.2.2.2.2⟩
  obtain ⟨j1, j2, j3, j4⟩ := hj
  have hgn : g_n (x_M M t o w) = g_n M := rfl
  have htq : ∀ p u, p < 85 → u ∈ QM M p → u ≠ t := fun p u hp hu q => by
    have := ((RS_q h1 hp).mp hu).2
    rw [q, hwt] at this; cases this
  have hg : ∀ v b, v < g_n M → v ≠ t → Kh M o v = some b → gt b w = true := fun v b hv hne hk => by
    cases e : gt b w with
    | true => rfl
    | false => exact absurd ⟨hv, hne, b, hk, e⟩ (hfit v)
  have hJA : JA (x_M M t o w) := by
    refine ⟨fun p u hp hu => ?_, j2, fun p u v a b hp hu hv huv ha hb' => ?_, fun p u hp hu1 hu2 => ?_⟩
    · have hu' : u ∈ QM M p := hu
      have := ((RS_q h1 hp).mp hu').1
      rw [hKo p u (by omega) (htq p u hp hu')]
      exact j1 p u hp hu'
    · rw [hgn] at hu hv
      by_cases ep : p = o
      · subst ep
        by_cases eu : u = t
        · rw [eu, hKto] at ha
          cases ha
          have hvt : v ≠ t := fun q => huv (by rw [eu, q])
          rw [hKo p v (by omega) hvt] at hb'
          rw [gt_sym _ hw _ (Kh_lt hM hb')]
          exact hg v b hv hvt hb'
        · rw [hKo p u (by omega) eu] at ha
          by_cases ev : v = t
          · rw [ev, hKto] at hb'
            cases hb'
            exact hg u a hu eu ha
          · rw [hKo p v (by omega) ev] at hb'
            exact j3 p u v a b hp hu hv huv ha hb'
      · have ha' : Kh M p u = some a := by
          by_cases eu : u = t
          · rw [eu] at ha ⊢
            rcases hKt p hp ep with q | q
            · rw [q] at ha; cases ha
            · rw [← q]; exact ha
          · rw [hKo p u (by omega) eu] at ha; exact ha
        have hb2 : Kh M p v = some b := by
          by_cases ev : v = t
          · rw [ev] at hb' ⊢
            rcases hKt p hp ep with q | q
            · rw [q] at hb'; cases hb'
            · rw [← q]; exact hb'
          · rw [hKo p v (by omega) ev] at hb'; exact hb'
        exact j3 p u v a b hp hu hv huv ha' hb2
    · rw [hgn] at hu1
      rw [heo p u hu2 (by omega)]
      exact j4 p u hp hu1 hu2
  refine ⟨⟨hRS, hJA, hs, hj5, hc6, hc7⟩, ⟨ht, hwt, rfl, rfl, Nat.le_refl _⟩, fun p hp q => ?_, fun p hp q1 q2 => ?_, fun p hp hpo q => ?_, fun y hy => ?_, fun p hp q => ?_, fun p m q => Kh_lt hM q⟩
  · by_cases ep : p = o
    · subst ep
      refine ⟨fun m u hm => ?_, by rw [heto]; simp⟩
      show lb (hd (s_ha S) t p w (p * 5 + m)) u = decide (u < g_n M ∧ g_he (x_M M t p w) (60 * p + u) = some (m + 1))
      rw [hd_lb hm (by omega)]
      by_cases eu : u = t
      · subst eu
        rw [if_pos rfl, heto]
        congr 1
        rw [eq_iff_iff]
        constructor
        · intro e; rw [e]; exact ⟨ht, rfl⟩
        · rintro ⟨-, e⟩; have := Option.some.inj e; omega
      · rw [if_neg eu, hb p hp m u hm]
        congr 1
        rw [eq_iff_iff]
        constructor
        · rintro ⟨a, b⟩; exact ⟨a, by rw [heo p u (by omega) eu]; exact b⟩
        · rintro ⟨a, b⟩; exact ⟨a, by rw [heo p u (by omega) eu] at b; exact b⟩
    · have hD : ¬ (decide (o < p) && (blw p o && (Kh M p t).isSome)) = true := fun r => by
        refine q ⟨?_, r⟩
        rw [Bool.and_eq_true, decide_eq_true_iff] at r
        omega
      have e1 := het p hp ep
      rw [if_neg hD] at e1
      refine ⟨HB_frame (hb p hp) (fun m hm => hd_ne ep hm hw) (fun u hu => ?_) rfl hn, by rw [e1]; exact hwn _⟩
      by_cases eu : u = t
      · rw [eu]; exact e1
      · exact heo p u hu eu
  · have ep : p ≠ o := by omega
    have e1 := het p hp ep
    rw [if_pos q2] at e1
    refine ⟨e1, fun m u hm => ?_⟩
    show lb (hd (s_ha S) t o w (p * 5 + m)) u = true ↔ _
    rw [hd_ne ep hm hw, HB_K (hb p hp) hm, hgn]
    by_cases eu : u = t
    · rw [if_pos eu, eu]
    · rw [if_neg eu]
      constructor
      · rintro ⟨a, b⟩; exact ⟨a, by rw [hKo p u (by omega) eu]; exact b⟩
      · rintro ⟨a, b⟩; exact ⟨a, by rw [hKo p u (by omega) eu] at b; exact b⟩
  · have hD : ¬ (decide (o < p) && (blw p o && (Kh M p t).isSome)) = true := fun r => by
      refine q ⟨?_, r⟩
      rw [Bool.and_eq_true, decide_eq_true_iff] at r
      omega
    have e1 := het p hp hpo
    rw [if_neg hD] at e1
    have g := hnf p hp
    rw [NF_iff hM] at g
    rw [NF_iff hXM]
    intro hq
    obtain ⟨u, u1, u2, m, u3, u4⟩ := g hq
    refine ⟨u, u1, u2, m, ?_, u4⟩
    rw [← u3]
    by_cases eu : u = t
    · rw [eu]; exact Kh_frame e1
    · exact hKo p u (by omega) eu
  · refine Classical.byContradiction (fun r => ?_)
    have hy' : xmF t o (84 - o) (o + 1) (va_up (g_he M) (60 * o + t) (some (w + 1))) y = none := hy
    rw [p1 y (fun j _ hj e => r ⟨j, by omega, e⟩)] at hy'
    unfold va_up at hy'
    split at hy'
    · cases hy'
    · exact hwn y hy'
  · show Kh (x_M M t o w) p t = if p = o then some w else Kh M p t
    by_cases ep : p = o
    · rw [if_pos ep, ep]; exact hKto
    · rw [if_neg ep]
      have e1 := het p hp ep
      have q' : (decide (o < p) && (blw p o && (Kh M p t).isSome)) = false := q
      rw [q', if_neg (by simp)] at e1
      exact Kh_frame e1
theorem EI_fin {t : Nat} {D : Nat → Bool} {K0 Z : Nat → Option Nat} {o n0 cd0 kX : Nat} {S : LSt} {M : MSt} (h : EI t D K0 Z o n0 cd0 kX 85 0 S M) (ho : o < 85) : Rel (sv S o).1 (xfin M o) ∧ g_cd (xfin M o) = cd0 := by
  obtain ⟨⟨h1, hj, hs, hj5, hc6, hc7⟩, h2, h3, h4, h5, h6, h7, h8⟩ := h
  have hn := h1.2.2.2.2.2.2.1.1
  obtain ⟨⟨hCR, v2, v3, v4, v5, v6⟩, hcnt, hNF⟩ := SV_serve h1 (h3 o ho (by omega)).1 hj ho hs hj5
  unfold xfin
  generalize sv S o = X at hCR v2 v3 v4 v5 v6 hcnt hNF ⊢
  generalize ms M o = Y at hCR v2 v3 v4 v5 v6 hcnt hNF ⊢
  obtain ⟨c1, c2, c3, c4, c5, ⟨c61, c62, c63, c64, c65, c66⟩, c7, c8, c9, c10, c11⟩ := hCR
  refine ⟨⟨c1, c3, v2, v3, ?_, ?_, fun p hp => ?_, fun p hp => ?_, fun y hy => ?_⟩, ?_⟩
  · show s_c6 X.1 = g_v6 Y.1
    rw [v4, c64]; exact hc6
  · show s_c7 X.1 = g_v7 Y.1 + Y.2
    rw [v5, c65, ← hcnt, hc7]; rfl
  · by_cases ep : p = o
    · rw [ep]; exact c2
    · exact HB_frame (h3 p hp (by omega)).1 (fun m hm => c4 p m ep hm) (fun u hu => c5 p u ep hu) c61 hn
  · by_cases ep : p = o
    · rw [ep]; exact hNF
    · exact c9 p hp ep (h5 p hp ep (by omega))
  · have hy' := c10 y hy
    obtain ⟨p, hp, e⟩ := h6 y hy'
    have := (h3 p hp (by omega)).2
    rw [← e] at this
    exact this hy'
  · show g_cd Y.1 = cd0
    rw [c66]; exact h2.2.2.2.1
theorem Rel_esc {S : LSt} {M : MSt} (h : Rel S M) {t o : Nat} (ht : t < g_n M) (ho : o < 85) (hst0 : g_st M t = 0) : Rel (esc S t o).1 (mesc M t o).1 ∧ (esc S t o).2 = (mesc M t o).2 ∧ g_cd (mesc M t o).1 = g_cd M := by
  have hM := h.1.2.2.2.2.2.2.1
  have hn := hM.1
  have hwt : g_wt M t = none := Classical.byContradiction (fun q => by have := (h.2.2.2.1 t ht).mp q; omega)
  have hw5 := xww_lt hM t o
  have hfo := fit_ow (t := t) (w := xww M t o) (h.2.2.2.2.2.2.1 o ho) hM (by omega) hw5
  unfold esc mesc
  rw [ww_eq h ht ho]
  by_cases e : ow (s_ha S) t o (nI (xww M t o)) = 0
  · rw [if_pos e, if_pos (hfo.mp e)]
    have hfit := (ft_W hM hw5).mp (hfo.mp e)
    have E := EI_esc h ht ho hw5 hwt hfit
    obtain ⟨E1, E2⟩ := db_xs (t := t) (o := o) (fun i hi hoi => by simp [hoi]) (fun i hi hoi => by show (if i = o then _ else _) = _; rw [if_neg (by omega)]) (84 - o) (o + 1) 0 _ _ (by omega) (by omega) E
    obtain ⟨F1, F2⟩ := EI_fin E1 ho
    refine ⟨F1, ?_, F2⟩
    show nI (dbF t o (84 - o) (o + 1) 0 _).2 = _
    rw [E2, xwF_2]
    congr 1
    refine cnt_congr _ _ _ (fun j h1 h2 => ?_)
    rw [xw_K hM (by omega) ho, show decide (o < j) = true from decide_eq_true (by omega), Bool.true_and]
  · rw [if_neg e, if_neg (fun q => e (hfo.mpr q))]
    exact ⟨h, rfl, rfl⟩
