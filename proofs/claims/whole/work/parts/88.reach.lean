/-! PURE: who is reached from whom -/
def itF (F : Int64 → Int64) : Nat → Int64 → Int64
  | 0, a => a
  | f + 1, a => if F a = a then a else itF F f (F a)
def pcn (a : Int64) : Nat → Nat
  | 0 => 0
  | k + 1 => pcn a k + (if lb a k then 1 else 0)
def lle (a b : Int64) : Prop := ∀ i, lb a i = true → lb b i = true
def lbd (B : Nat) (a : Int64) : Prop := ∀ i, lb a i = true → i < B
theorem pcn_le {a : Int64} : ∀ k, pcn a k ≤ k := by
  intro k
  induction k with
  | zero => exact Nat.le_refl _
  | succ k ih => unfold pcn; split <;> omega
theorem pcn_mono {a b : Int64} (h : lle a b) : ∀ k, pcn a k ≤ pcn b k := by
  intro k
  induction k with
  | zero => exact Nat.le_refl _
  | succ k ih =>
    unfold pcn
    by_cases e : lb a k = true
    · rw [if_pos e, if_pos (h k e)]; omega
    · rw [if_neg e]; omega
theorem pcn_lt {a b : Int64} (h : lle a b) {j : Nat} (h1 : lb b j = true) (h2 : lb a j = false) : ∀ k, j < k → pcn a k < pcn b k := by
  intro k
  induction k with
  | zero => intro q; exact absurd q (by omega)
  | succ k ih =>
    intro q
    unfold pcn
    by_cases e : j = k
    · subst e
      rw [h2, if_pos h1, if_neg (by simp)]
      have := pcn_mono h j
      omega
    · have := ih (by omega)
      by_cases e : lb a k = true
      · rw [if_pos e, if_pos (h k e)]; omega
      · rw [if_neg e]; omega
theorem lle_new {a b : Int64} (h : lle a b) (hne : ¬ b = a) : ∃ j, lb b j = true ∧ lb a j = false := by
  refine Classical.byContradiction (fun q => hne (lb_ext (fun i _ => ?_)))
  cases e : lb a i with
  | true => exact h i e
  | false =>
    cases e2 : lb b i with
    | false => rfl
    | true => exact absurd ⟨i, e2, e⟩ q
theorem it_fix {F : Int64 → Int64} {B : Nat} (h1 : ∀ a, lle a (F a)) (h2 : ∀ a, lbd B a → lbd B (F a)) : ∀ (f : Nat) (a : Int64), lbd B a → B ≤ pcn a B + f → F (itF F f a) = itF F f a := by
  intro f
  induction f with
  | zero =>
    intro a hb hp
    refine Classical.byContradiction (fun q => ?_)
    obtain ⟨j, j1, j2⟩ := lle_new (h1 a) q
    have := pcn_lt (h1 a) j1 j2 B (h2 a hb j j1)
    have := pcn_le (a := F a) B
    omega
  | succ f ih =>
    intro a hb hp
    unfold itF
    by_cases e : F a = a
    · rw [if_pos e, e]
    · rw [if_neg e]
      obtain ⟨j, j1, j2⟩ := lle_new (h1 a) e
      have := pcn_lt (h1 a) j1 j2 B (h2 a hb j j1)
      exact ih (F a) (h2 a hb) (by omega)
theorem it_le {F : Int64 → Int64} (h1 : ∀ a, lle a (F a)) : ∀ (f : Nat) (a : Int64), lle a (itF F f a) := by
  intro f
  induction f with
  | zero => intro a i q; exact q
  | succ f ih =>
    intro a i q
    unfold itF
    split
    · exact q
    · exact ih _ i (h1 a i q)
theorem it_least {F : Int64 → Int64} {P : Nat → Prop} (h1 : ∀ a, (∀ i, lb a i = true → P i) → ∀ i, lb (F a) i = true → P i) : ∀ (f : Nat) (a : Int64), (∀ i, lb a i = true → P i) → ∀ i, lb (itF F f a) i = true → P i := by
  intro f
  induction f with
  | zero => intro a h; exact h
  | succ f ih =>
    intro a h
    unfold itF
    split
    · exact h
    · exact ih _ (h1 a h)
/-! the three searches -/
theorem rfI_le {wr : Nat → Int64} : ∀ (f i : Nat) (a : Int64), lle a (rfI wr f i a) := by
  intro f
  induction f with
  | zero => intro i a j q; exact q
  | succ f ih =>
    intro i a j q
    unfold rfI
    refine ih _ _ j ?_
    split
    · rw [lb_or, q]; rfl
    · exact q
theorem rfI_P {wr : Nat → Int64} {P : Nat → Prop} : ∀ (f i : Nat) (a : Int64), (∀ w, i ≤ w → w < i + f → P w → ∀ v, lb (wr w) v = true → P v) → (∀ j, lb a j = true → P j) → ∀ j, lb (rfI wr f i a) j = true → P j := by
  intro f
  induction f with
  | zero => intro i a _ h; exact h
  | succ f ih =>
    intro i a hc h
    unfold rfI
    refine ih _ _ (fun w h1 h2 => hc w (by omega) (by omega)) (fun j q => ?_)
    split at q
    · rename_i e
      rw [lb_or, Bool.or_eq_true] at q
      rcases q with q | q
      · exact h j q
      · exact hc i (Nat.le_refl _) (by omega) (h i e) j q
    · exact h j q
theorem rfI_in {wr : Nat → Int64} {w : Nat} : ∀ (f i : Nat) (a : Int64), i ≤ w → w < i + f → lb a w = true → lle (wr w) (rfI wr f i a) := by
  intro f
  induction f with
  | zero => intro i a h1 h2; exact absurd h2 (by omega)
  | succ f ih =>
    intro i a h1 h2 h3
    unfold rfI
    by_cases e : w = i
    · subst e
      rw [if_pos h3]
      intro j q
      exact rfI_le _ _ _ j (by rw [lb_or, q, Bool.or_true])
    · refine ih _ _ (by omega) (by omega) ?_
      split
      · rw [lb_or, h3]; rfl
      · exact h3
theorem riF_le {q : Nat → Int64} {z : Int64} : ∀ (f i : Nat) (a : Int64), lle a (riF q z f i a) := by
  intro f
  induction f with
  | zero => intro i a j q; exact q
  | succ f ih =>
    intro i a j h
    unfold riF
    refine ih _ _ j ?_
    split
    · rw [lb_or, h]; rfl
    · exact h
theorem riF_P {q : Nat → Int64} {z : Int64} {P : Nat → Prop} (hz : ∀ j, lb z j = true → P j) : ∀ (f i : Nat) (a : Int64), (∀ w, i ≤ w → w < i + f → P w → ∀ v, lb (q w) v = true → P v) → (∀ j, lb a j = true → P j) → ∀ j, lb (riF q z f i a) j = true → P j := by
  intro f
  induction f with
  | zero => intro i a _ h; exact h
  | succ f ih =>
    intro i a hc h
    unfold riF
    refine ih _ _ (fun w h1 h2 => hc w (by omega) (by omega)) (fun j r => ?_)
    split at r
    · rename_i e
      rw [lb_or, Bool.or_eq_true] at r
      rcases r with r | r
      · exact h j r
      · exact hc i (Nat.le_refl _) (by omega) (hz i e) j r
    · exact h j r
theorem riF_in {q : Nat → Int64} {z : Int64} {w : Nat} (hz : lb z w = true) : ∀ (f i : Nat) (a : Int64), i ≤ w → w < i + f → lle (q w) (riF q z f i a) := by
  intro f
  induction f with
  | zero => intro i a h1 h2; exact absurd h2 (by omega)
  | succ f ih =>
    intro i a h1 h2
    unfold riF
    by_cases e : w = i
    · subst e
      rw [if_pos hz]
      intro j r
      exact riF_le _ _ _ j (by rw [lb_or, r, Bool.or_true])
    · exact ih _ _ (by omega) (by omega)
theorem rgI_le {wr : Nat → Int64} : ∀ (f i : Nat) (a : Int64), lle a (rgI wr f i a) := by
  intro f
  induction f with
  | zero => intro i a j q; exact q
  | succ f ih =>
    intro i a j q
    unfold rgI
    refine ih _ _ j ?_
    split
    · exact q
    · rw [lb_or, q]; rfl
theorem and_ne {x a : Int64} : ¬ x &&& a = 0 ↔ ∃ v, lb x v = true ∧ lb a v = true := by
  constructor
  · intro h
    refine Classical.byContradiction (fun q => h (lb_eq0 (fun i hi => ?_)))
    rw [lb_and]
    cases e1 : lb x i with
    | false => rfl
    | true =>
      cases e2 : lb a i with
      | false => rfl
      | true => exact absurd ⟨i, e1, e2⟩ q
  · rintro ⟨v, h1, h2⟩ q
    have : lb (x &&& a) v = true := by rw [lb_and, h1, h2]; rfl
    rw [q, lb_0] at this
    cases this
theorem rgI_P {wr : Nat → Int64} {P : Nat → Prop} : ∀ (f i : Nat) (a : Int64), i + f ≤ 64 → (∀ w, i ≤ w → w < i + f → ∀ v, lb (wr w) v = true → P v → P w) → (∀ j, lb a j = true → P j) → ∀ j, lb (rgI wr f i a) j = true → P j := by
  intro f
  induction f with
  | zero => intro i a _ _ h; exact h
  | succ f ih =>
    intro i a hi hc h
    unfold rgI
    refine ih _ _ (by omega) (fun w h1 h2 => hc w (by omega) (by omega)) (fun j q => ?_)
    split at q
    · exact h j q
    · rename_i e
      obtain ⟨v, v1, v2⟩ := and_ne.mp e
      rw [lb_or, Bool.or_eq_true, lb_bit (by omega), decide_eq_true_iff] at q
      rcases q with q | q
      · exact h j q
      · rw [q]; exact hc i (Nat.le_refl _) (by omega) v v1 (h v v2)
theorem rgI_in {wr : Nat → Int64} {w v : Nat} (hv : lb (wr w) v = true) : ∀ (f i : Nat) (a : Int64), i + f ≤ 64 → i ≤ w → w < i + f → lb a v = true → lb (rgI wr f i a) w = true := by
  intro f
  induction f with
  | zero => intro i a _ h1 h2; exact absurd h2 (by omega)
  | succ f ih =>
    intro i a hi h1 h2 h3
    unfold rgI
    by_cases e : w = i
    · subst e
      rw [if_neg (and_ne.mpr ⟨v, hv, h3⟩)]
      exact rgI_le _ _ _ w (by rw [lb_or, lb_bit (by omega)]; simp)
    · refine ih _ _ (by omega) (by omega) (by omega) ?_
      split
      · exact h3
      · rw [lb_or, h3]; rfl
theorem rfO_it {wr : Nat → Int64} {n : Nat} : ∀ (f : Nat) (a : Int64), rfO wr n f a = itF (rfI wr n 0) f a := by
  intro f
  induction f with
  | zero => intro a; rfl
  | succ f ih =>
    intro a
    unfold rfO itF
    by_cases e : rfI wr n 0 a = a
    · rw [if_pos e, if_pos e, e]
    · rw [if_neg e, if_neg e, ih]
theorem rgO_it {wr : Nat → Int64} {n : Nat} : ∀ (f : Nat) (a : Int64), rgO wr n f a = itF (rgI wr n 0) f a := by
  intro f
  induction f with
  | zero => intro a; rfl
  | succ f ih =>
    intro a
    unfold rgO itF
    by_cases e : rgI wr n 0 a = a
    · rw [if_pos e, if_pos e, e]
    · rw [if_neg e, if_neg e, ih]
theorem rcF_it {q : Nat → Int64} {n : Nat} : ∀ (f : Nat) (a : Int64), rcF q n f a = itF (rst q n) f a := by
  intro f
  induction f with
  | zero => intro a; rfl
  | succ f ih =>
    intro a
    unfold rcF itF
    by_cases e : rst q n a = a
    · rw [if_pos e, if_pos e]
    · rw [if_neg e, if_neg e, ih]
theorem lbd_64 (a : Int64) : lbd 64 a := fun i h => by
  rcases Nat.lt_or_ge i 64 with q | q
  · exact q
  · rw [lb_big q] at h; cases h
theorem rst_le {q : Nat → Int64} {n : Nat} (a : Int64) : lle a (rst q n a) := riF_le _ _ _
theorem stab_all {q : Nat → Int64} {n : Nat} : ∀ (f : Nat) (a : Int64), 64 ≤ pcn a 64 + f → stab q n f a := by
  intro f
  induction f with
  | zero =>
    intro a hp
    refine Classical.byContradiction (fun r => ?_)
    obtain ⟨j, j1, j2⟩ := lle_new (rst_le (q := q) (n := n) a) r
    have := pcn_lt (rst_le (q := q) (n := n) a) j1 j2 64 (lbd_64 _ j j1)
    have := pcn_le (a := rst q n a) 64
    omega
  | succ f ih =>
    intro a hp
    by_cases e : rst q n a = a
    · exact Or.inl e
    · obtain ⟨j, j1, j2⟩ := lle_new (rst_le (q := q) (n := n) a) e
      have := pcn_lt (rst_le (q := q) (n := n) a) j1 j2 64 (lbd_64 _ j j1)
      exact Or.inr (ih _ (by omega))
theorem WR_all (M : MSt) : WR M := fun u => stab_all 64 _ (by omega)
/-- closed under the rows -/
theorem rch_cl {M : MSt} (u : Nat) : ∀ w, w < g_n M → lb (rch M u) w = true → lle (mwb M w) (rch M u) := by
  intro w hw h
  have hf : rst (mwb M) (g_n M) (rch M u) = rch M u := by
    unfold rch
    rw [rcF_it]
    exact it_fix (B := 64) (fun a => rst_le a) (fun a _ => lbd_64 _) 64 _ (lbd_64 _) (by omega)
  have := riF_in (q := mwb M) (z := rch M u) h (g_n M) 0 (rch M u) (by omega) (by omega)
  have hf' : riF (mwb M) (rch M u) (g_n M) 0 (rch M u) = rch M u := hf
  rw [hf'] at this
  exact this
theorem rch_st {M : MSt} (u : Nat) : lle (mwb M u) (rch M u) := by
  unfold rch
  rw [rcF_it]
  exact it_le (fun a => rst_le a) _ _
theorem rch_least {M : MSt} {u : Nat} {P : Nat → Prop} (h0 : ∀ v, lb (mwb M u) v = true → P v) (hc : ∀ w, w < g_n M → P w → ∀ v, lb (mwb M w) v = true → P v) : ∀ v, lb (rch M u) v = true → P v := by
  unfold rch
  rw [rcF_it]
  exact it_least (fun a ha => riF_P ha _ _ _ (fun w _ h2 => hc w (by omega)) ha) _ _ h0
theorem crF_at {q : Nat → Int64} {y : Nat} : ∀ (f i : Nat) (r : Nat → Int64), crF q f i r y = if i ≤ y ∧ y < i + f then q y else r y := by
  intro f
  induction f with
  | zero => intro i r; rw [if_neg (by omega)]; rfl
  | succ f ih =>
    intro i r
    unfold crF
    rw [ih]
    unfold vp_updL
    by_cases e : y = i
    · rw [if_neg (by omega), if_pos e, if_pos (by omega), e]
    · rw [if_neg e]
      by_cases e2 : i + 1 ≤ y ∧ y < i + 1 + f
      · rw [if_pos e2, if_pos (by omega)]
      · rw [if_neg e2, if_neg (by omega)]
theorem sbF_lb {aw : Nat → Option Nat} {la : Nat → Nat} {t o v : Nat} (hl : ∀ i, la i < 60) : ∀ (f i : Nat) (a : Int64), lb (sbF aw la t o f i a) v = true ↔ lb a v = true ∨ (v ∈ (lst la i f).takeWhile (fun u => decide (u ≠ t)) ∧ aw v = some o) := by
  intro f
  induction f with
  | zero => intro i a; exact ⟨fun q => Or.inl q, fun q => q.elim id (fun q => nomatch q.1)⟩
  | succ f ih =>
    intro i a
    unfold sbF
    show _ ↔ _ ∨ (v ∈ (la i :: lst la (i + 1) f).takeWhile _ ∧ _)
    by_cases e : la i = t
    · rw [if_pos e, List.takeWhile_cons_of_neg (by simp [e])]
      exact ⟨fun q => Or.inl q, fun q => q.elim id (fun q => nomatch q.1)⟩
    · rw [if_neg e, List.takeWhile_cons_of_pos (by simp [e]), ih, List.mem_cons]
      have h6 := hl i
      by_cases e2 : aw (la i) = some o
      · rw [if_pos e2, lb_or, Bool.or_eq_true, lb_bit (by omega), decide_eq_true_iff]
        constructor
        · rintro ((q | q) | q)
          · exact Or.inl q
          · exact Or.inr ⟨Or.inl q, by rw [q]; exact e2⟩
          · exact Or.inr ⟨Or.inr q.1, q.2⟩
        · rintro (q | ⟨q | q, r⟩)
          · exact Or.inl (Or.inl q)
          · exact Or.inl (Or.inr q)
          · exact Or.inr ⟨q, r⟩
      · rw [if_neg e2]
        constructor
        · rintro (q | q)
          · exact Or.inl q
          · exact Or.inr ⟨Or.inr q.1, q.2⟩
        · rintro (q | ⟨q | q, r⟩)
          · exact Or.inl q
          · rw [q] at r; exact absurd r e2
          · exact Or.inr ⟨q, r⟩
theorem mbF_lb {qu : Nat → Nat} {t v : Nat} (hl : ∀ i, qu i < 60) : ∀ (f i : Nat) (a : Int64), lb (mbF qu t f i a) v = true ↔ lb a v = true ∨ v ∈ (lst qu i f).takeWhile (fun u => decide (u ≠ t)) := by
  intro f
  induction f with
  | zero => intro i a; exact ⟨fun q => Or.inl q, fun q => q.elim id (fun q => nomatch q)⟩
  | succ f ih =>
    intro i a
    unfold mbF
    show _ ↔ _ ∨ v ∈ (qu i :: lst qu (i + 1) f).takeWhile _
    by_cases e : qu i = t
    · rw [if_pos e, List.takeWhile_cons_of_neg (by simp [e])]
      exact ⟨fun q => Or.inl q, fun q => q.elim id (fun q => nomatch q)⟩
    · rw [if_neg e, List.takeWhile_cons_of_pos (by simp [e]), ih, List.mem_cons]
      have h6 := hl i
      rw [lb_or, Bool.or_eq_true, lb_bit (by omega), decide_eq_true_iff]
      exact or_assoc
theorem tw_fl {p : Nat → Bool} {t : Nat} (ht : p t = true) : ∀ L : List Nat, (L.filter p).takeWhile (fun u => decide (u ≠ t)) = (L.takeWhile (fun u => decide (u ≠ t))).filter p := by
  intro L
  induction L with
  | nil => rfl
  | cons a L ih =>
    by_cases e : a = t
    · rw [List.filter_cons_of_pos (by rw [e]; exact ht), List.takeWhile_cons_of_neg (by simp [e]), List.takeWhile_cons_of_neg (by simp [e])]
      rfl
    · rw [List.takeWhile_cons_of_pos (by simp [e])]
      by_cases e2 : p a = true
      · rw [List.filter_cons_of_pos e2, List.filter_cons_of_pos e2, List.takeWhile_cons_of_pos (by simp [e]), ih]
      · rw [List.filter_cons_of_neg e2, List.filter_cons_of_neg e2, ih]
theorem row_eq {S : LSt} {M : MSt} (h : RS S M) (hb : ∀ o, o < 85 → HB S M o) {u : Nat} (hu : u < g_n M) : wrw (s_aw S) (s_wa S) (s_ha S) (s_la S) (s_k S) u = mwb M u := by
  obtain ⟨h1, h2, h3, h4, h5, h6, h7, h8⟩ := h
  have hn := h7.1
  unfold wrw mwb
  rw [h3, h4]
  cases e : g_wt M u with
  | none => rfl
  | some o =>
    have ho := h7.2.2.2.1 u o e
    show ow (s_ha S) u o (nI (g_wn M u)) ||| sbF (g_wt M) (s_la S) u o (s_k S) 0 0 = mbF (g_qu M) u (g_qs M o) (60 * o) (mcF (g_he M) u o (nI (g_wn M u)) (g_n M) 0 0)
    refine lb_ext (fun v hv => ?_)
    rw [Bool.eq_iff_iff, lb_or, Bool.or_eq_true, ow_lb (hb o ho) h7 (by omega) hv, sbF_lb h6.1, lb_0, mbF_lb h7.2.1, mc_lb h7 (h7.2.2.2.2.2.2.1 _) hv, ← h5.2.2.2 o ho, tw_fl (by simp [e]), List.mem_filter, decide_eq_true_iff]
    simp
theorem mwb_bd {S : LSt} {M : MSt} (h : RS S M) (u : Nat) : lbd 60 (mwb M u) := by
  have hM := h.2.2.2.2.2.2.1
  have hn := hM.1
  intro i hi
  unfold mwb at hi
  cases e : g_wt M u with
  | none => rw [e] at hi; have hi' : lb (0 : Int64) i = true := hi; rw [lb_0] at hi'; cases hi'
  | some o =>
    rw [e] at hi
    have hi' : lb (mbF (g_qu M) u (g_qs M o) (60 * o) (mcF (g_he M) u o (nI (g_wn M u)) (g_n M) 0 0)) i = true := hi
    rcases (mbF_lb hM.2.1 _ _ _).mp hi' with q | q
    · have := ((mc_lb hM (hM.2.2.2.2.2.2.1 _) (lbd_64 _ _ q)).mp q).1
      omega
    · obtain ⟨j, j1, j2⟩ := (lst_mem _ _).mp ((List.takeWhile_sublist _).subset q)
      rw [← j2]; exact hM.2.1 _
theorem wk_vc {M : MSt} {t : Nat} {c cb : Int64} (hc : lb c t = true) : ∀ (f i : Nat) (w : Option Nat), (∀ u, i ≤ u → u < i + f → (lb cb u = true ↔ lb c u = true ∧ lb (rch M u) t = true)) → wkF (g_pr M) cb f i w = vcF M t c f i w := by
  intro f
  induction f with
  | zero => intro i w _; rfl
  | succ f ih =>
    intro i w h
    unfold wkF vcF
    rw [if_pos hc, ih _ _ (fun u h1 h2 => h u (by omega) (by omega))]
    congr 1
    have hi := h i (Nat.le_refl _) (by omega)
    by_cases e : lb cb i = true ∧ (∀ u, w = some u → g_pr M i ≤ g_pr M u)
    · have := hi.mp e.1
      rw [if_pos e, if_pos ⟨this.1, this.2, e.2⟩]
    · rw [if_neg e, if_neg (fun q => e ⟨hi.mpr ⟨q.1, q.2.1⟩, q.2.2⟩)]
theorem wk_none {pr : Nat → Nat} {cb : Int64} : ∀ (f i : Nat) (w : Option Nat), (∀ u, i ≤ u → u < i + f → lb cb u = false) → wkF pr cb f i w = w := by
  intro f
  induction f with
  | zero => intro i w _; rfl
  | succ f ih =>
    intro i w h
    unfold wkF
    rw [if_neg (fun q => by have := h i (Nat.le_refl _) (by omega); rw [this] at q; exact nomatch q.1)]
    exact ih _ _ (fun u h1 h2 => h u (by omega) (by omega))
theorem vc_off {M : MSt} {t : Nat} {c : Int64} (hc : lb c t = false) : ∀ (f i : Nat) (b : Option Nat), vcF M t c f i b = b := by
  intro f i b
  cases f with
  | zero => rfl
  | succ f => unfold vcF; rw [hc]; rfl
theorem vc_in {M : MSt} {t v : Nat} {c : Int64} : ∀ (f i : Nat) (b : Option Nat), vcF M t c f i b = some v → b = some v ∨ lb (rch M v) t = true := by
  intro f
  induction f with
  | zero => intro i b h; exact Or.inl h
  | succ f ih =>
    intro i b h
    unfold vcF at h
    split at h
    · rcases ih _ _ h with q | q
      · split at q
        · rename_i r
          have := Option.some.inj q
          rw [← this]
          exact Or.inr r.2.1
        · exact Or.inl q
      · exact Or.inr q
    · exact Or.inl h
theorem rch_0 {M : MSt} {u : Nat} (h : g_wt M u = none) : rch M u = 0 := by
  have : mwb M u = 0 := by unfold mwb; rw [h]
  unfold rch
  rw [this]
  exact rcF_fix (rst_0 _ _) 64
theorem mvic_none {M : MSt} {t : Nat} (h : g_wt M t = none) : mvic M t = none := by
  unfold mvic
  rw [rch_0 h]
  exact vc_off (lb_0 t) _ _ _
theorem mvic_some {M : MSt} {t v : Nat} (h : mvic M t = some v) : v < g_n M ∧ ¬ g_wt M v = none := by
  refine ⟨mvic_lt h, fun q => ?_⟩
  rcases vc_in _ _ _ h with r | r
  · cases r
  · rw [rch_0 q, lb_0] at r; cases r
theorem vic_eq {S : LSt} {M : MSt} (h : RS S M) (hb : ∀ o, o < 85 → HB S M o) {t : Nat} (ht : t < g_n M) : vic S t = mvic M t := by
  have hM := h.2.2.2.2.2.2.1
  have hn := hM.1
  have hrow : ∀ u, u < g_n M → cirR S u = mwb M u := fun u hu => by
    unfold cirR
    rw [crF_at, if_pos ⟨by omega, by rw [h.1]; omega⟩]
    exact row_eq h hb hu
  -- forwards
  have hA : ∀ v, lb (rfO (cirR S) (g_n M) 60 (cirR S t)) v = true ↔ lb (rch M t) v = true := by
    have hfix : rfI (cirR S) (g_n M) 0 (rfO (cirR S) (g_n M) 60 (cirR S t)) = rfO (cirR S) (g_n M) 60 (cirR S t) := by
      rw [rfO_it]
      refine it_fix (B := 60) (fun a => rfI_le _ _ _) (fun a ha => ?_) 60 _ (by rw [hrow t ht]; exact mwb_bd h t) (by omega)
      exact rfI_P _ _ _ (fun w _ hw _ v hv => by rw [hrow w (by omega)] at hv; exact mwb_bd h w v hv) ha
    intro v
    constructor
    · rw [rfO_it]
      refine it_least (P := fun v => lb (rch M t) v = true) (fun a ha => rfI_P _ _ _ (fun w _ hw hP v hv => ?_) ha) _ _ (fun v hv => ?_) v
      · rw [hrow w (by omega)] at hv
        exact rch_cl t w (by omega) hP v hv
      · rw [hrow t ht] at hv
        exact rch_st t v hv
    · refine rch_least (P := fun v => lb (rfO (cirR S) (g_n M) 60 (cirR S t)) v = true) (fun v hv => ?_) (fun w hw hP v hv => ?_) v
      · rw [rfO_it]
        exact it_le (fun a => rfI_le _ _ _) _ _ v (by rw [hrow t ht]; exact hv)
      · have := rfI_in (wr := cirR S) (g_n M) 0 (rfO (cirR S) (g_n M) 60 (cirR S t)) (Nat.zero_le w) (by omega) hP
        rw [hfix, hrow w hw] at this
        exact this v hv
  have hG : ∀ u, u < g_n M → (lb (rgO (cirR S) (g_n M) 60 (lbit t)) u = true ↔ u = t ∨ lb (rch M u) t = true) := by
    have hfix : rgI (cirR S) (g_n M) 0 (rgO (cirR S) (g_n M) 60 (lbit t)) = rgO (cirR S) (g_n M) 60 (lbit t) := by
      rw [rgO_it]
      refine it_fix (B := 60) (fun a => rgI_le _ _ _) (fun a ha => ?_) 60 _ (fun i hi => ?_) (by omega)
      · exact rgI_P _ _ _ (by omega) (fun w _ hw _ _ _ => by omega) ha
      · rw [lb_bit (by omega), decide_eq_true_iff] at hi
        omega
    have hcl : ∀ w v, w < g_n M → lb (mwb M w) v = true → lb (rgO (cirR S) (g_n M) 60 (lbit t)) v = true → lb (rgO (cirR S) (g_n M) 60 (lbit t)) w = true := fun w v hw hv hg => by
      have := rgI_in (wr := cirR S) (w := w) (v := v) (by rw [hrow w hw]; exact hv) (g_n M) 0 (rgO (cirR S) (g_n M) 60 (lbit t)) (by omega) (by omega) (by omega) hg
      rw [hfix] at this
      exact this
    have htG : lb (rgO (cirR S) (g_n M) 60 (lbit t)) t = true := by
      rw [rgO_it]
      exact it_le (fun a => rgI_le _ _ _) _ _ t (by rw [lb_bit (by omega)]; simp)
    intro u hu
    constructor
    · rw [rgO_it]
      intro hg
      refine (it_least (P := fun u => u = t ∨ lb (rch M u) t = true) (fun a ha => rgI_P _ _ _ (by omega) (fun w _ hw v hv hP => ?_) ha) _ _ (fun v hv => ?_) u hg)
      · rw [hrow w (by omega)] at hv
        refine Or.inr ?_
        have hwv := rch_st w v hv
        rcases hP with q | q
        · rw [← q]; exact hwv
        · have hv6 : v < g_n M := by
            refine Classical.byContradiction (fun r => ?_)
            -- one that isn't there waits for none
            have hz : v < 64 := lbd_64 _ _ hv
            have hv2 := hv
            unfold mwb at hv2
            cases e : g_wt M w with
            | none => rw [e] at hv2; have hv3 : lb (0 : Int64) v = true := hv2; rw [lb_0] at hv3; cases hv3
            | some o =>
              rw [e] at hv2
              have hv3 : lb (mbF (g_qu M) w (g_qs M o) (60 * o) (mcF (g_he M) w o (nI (g_wn M w)) (g_n M) 0 0)) v = true := hv2
              rcases (mbF_lb hM.2.1 _ _ _).mp hv3 with q1 | q1
              · exact r ((mc_lb hM (hM.2.2.2.2.2.2.1 _) hz).mp q1).1
              · exact r ((RS_q h (hM.2.2.2.1 w o e)).mp ((List.takeWhile_sublist _).subset q1)).1
          exact rch_least (P := fun x => lb (rch M w) x = true) (fun x hx => rch_cl w v hv6 hwv x hx) (fun y hy hP x hx => rch_cl w y hy hP x hx) t q
      · rw [lb_bit (by omega), decide_eq_true_iff] at hv
        exact Or.inl hv
    · rintro (q | q)
      · rw [q]; exact htG
      · refine Classical.byContradiction (fun r => ?_)
        have := rch_least (M := M) (u := u) (P := fun v => ¬ lb (rgO (cirR S) (g_n M) 60 (lbit t)) v = true) (fun v hv hg => r (hcl u v hu hv hg)) (fun w hw hP v hv hg => hP (hcl w v hw hv hg)) t q
        exact this htG
  have hB : ∀ u, u < g_n M → (lb (cirB S t) u = true ↔ lb (rch M t) u = true ∧ (u = t ∨ lb (rch M u) t = true)) := fun u hu => by
    unfold cirB
    rw [h.1, lb_and, Bool.and_eq_true, hA u, hG u hu]
  unfold vic mvic
  rw [h.1, h.2.1]
  cases hc : lb (rch M t) t with
  | true =>
    refine wk_vc hc _ _ _ (fun u _ hu => ?_)
    rw [hB u (by omega)]
    constructor
    · rintro ⟨a, b | b⟩
      · rw [b]; exact ⟨hc, hc⟩
      · exact ⟨a, b⟩
    · rintro ⟨a, b⟩; exact ⟨a, Or.inr b⟩
  | false =>
    rw [vc_off hc]
    refine wk_none _ _ _ (fun u _ hu => ?_)
    rw [Bool.eq_false_iff]
    intro q
    obtain ⟨a, b | b⟩ := (hB u (by omega)).mp q
    · rw [b, hc] at a; cases a
    · have := rch_least (P := fun x => lb (rch M t) x = true) (fun x hx => rch_cl t u (by omega) a x hx) (fun y hy hP x hx => rch_cl t y hy hP x hx) t b
      rw [hc] at this
      cases this
