/-! THE REFERENCE'S STATE AS ONE VALUE -/
abbrev MSt : Type := Nat × Nat × (Nat → Nat) × (Nat → Nat) × (Nat → Option Nat) × (Nat → Option Nat) × (Nat → Nat) × (Nat → Bool) × (Nat → Nat) × (Nat → Nat) × Nat × Nat × Nat
abbrev g_cd (M : MSt) : Nat := M.1
abbrev g_n (M : MSt) : Nat := M.2.1
abbrev g_pr (M : MSt) : Nat → Nat := M.2.2.1
abbrev g_st (M : MSt) : Nat → Nat := M.2.2.2.1
abbrev g_he (M : MSt) : Nat → Option Nat := M.2.2.2.2.1
abbrev g_wt (M : MSt) : Nat → Option Nat := M.2.2.2.2.2.1
abbrev g_wn (M : MSt) : Nat → Nat := M.2.2.2.2.2.2.1
abbrev g_cv (M : MSt) : Nat → Bool := M.2.2.2.2.2.2.2.1
abbrev g_qs (M : MSt) : Nat → Nat := M.2.2.2.2.2.2.2.2.1
abbrev g_qu (M : MSt) : Nat → Nat := M.2.2.2.2.2.2.2.2.2.1
abbrev g_v5 (M : MSt) : Nat := M.2.2.2.2.2.2.2.2.2.2.1
abbrev g_v6 (M : MSt) : Nat := M.2.2.2.2.2.2.2.2.2.2.2.1
abbrev g_v7 (M : MSt) : Nat := M.2.2.2.2.2.2.2.2.2.2.2.2
def wM (M : MSt) : List va_E := mL (g_cd M) (g_n M) (g_pr M) (g_st M) (g_he M) (g_wt M) (g_wn M) (g_cv M) (g_qs M) (g_qu M) (g_v5 M) (g_v6 M) (g_v7 M)
def WM (M : MSt) : Prop := g_n M ≤ 60 ∧ (∀ i, g_qu M i < 60) ∧ (∀ o, g_qs M o ≤ 60) ∧ (∀ t x, g_wt M t = some x → x < 85) ∧ (∀ t, g_st M t < 4) ∧ (∀ t, g_pr M t < 100) ∧ (∀ t, g_wn M t < 5) ∧ (∀ i x, g_he M i = some x → x < 6)
/-- one that waits stands in the queue -/
def WQ (M : MSt) : Prop := ∀ u o, u < g_n M → g_wt M u = some o → ∃ j, j < g_qs M o ∧ g_qu M (60 * o + j) = u
/-- the first of o's queue is served -/
def mgr (M : MSt) (o : Nat) : MSt := (g_cd M, g_n M, g_pr M, va_up (g_st M) (g_qu M (60 * o)) 0, va_up (g_he M) (60 * o + g_qu M (60 * o)) (some (g_wn M (g_qu M (60 * o)) + 1)), va_up (g_wt M) (g_qu M (60 * o)) none, g_wn M, g_cv M, va_up (g_qs M) o ((lqF (g_qu M (60 * o)) (g_qs M o) (60 * o) (60 * o) (g_qu M)).2 - 60 * o), (lqF (g_qu M (60 * o)) (g_qs M o) (60 * o) (60 * o) (g_qu M)).1, g_v5 M, g_v6 M, g_v7 M)
def mfit (M : MSt) (o : Nat) : Bool := ftF (g_he M) (g_qu M (60 * o)) o (nI (g_wn M (g_qu M (60 * o)))) (g_n M) 0 true
def msF (o : Nat) : Nat → Nat → MSt → MSt × Nat
  | 0, g, M => (M, g)
  | f + 1, g, M => if 0 < g_qs M o ∧ mfit M o = true then msF o f (g + 1) (mgr M o) else (M, g)
def ms (M : MSt) (o : Nat) : MSt × Nat := msF o 60 0 M
theorem va_up_ol {l : Nat → Option Nat} {b j : Nat} {v : Option Nat} (h : ∀ i x, l i = some x → x < b) (hv : ∀ x, v = some x → x < b) : ∀ i x, va_up l j v i = some x → x < b := fun i x q => by
  unfold va_up at q
  split at q
  · exact hv x q
  · exact h i x q
theorem lqF_drop {t : Nat} : ∀ (f i j : Nat) (l : Nat → Nat), l i = t → 0 < f → (lqF t f i j l).2 ≤ j + f - 1 := by
  intro f i j l h hf
  obtain ⟨g, rfl⟩ : ∃ g, f = g + 1 := ⟨f - 1, by omega⟩
  unfold lqF
  rw [if_pos h]
  have := lqF_le (t := t) g (i + 1) j l
  omega
theorem WM_mgr {M : MSt} (h : WM M) (o : Nat) : WM (mgr M o) := by
  obtain ⟨h1, h2, h3, h4, h5, h6, h7, h8⟩ := h
  refine ⟨h1, lqF_lt _ _ _ _ h2, fun q => ?_, va_up_ol h4 (fun x q => by cases q), fun t => va_up_lt h5 (by omega) t, h6, h7, va_up_ol h8 (fun x q => ?_)⟩
  · show va_up (g_qs M) o _ q ≤ 60
    unfold va_up
    split
    · have := lqF_le (t := g_qu M (60 * o)) (g_qs M o) (60 * o) (60 * o) (g_qu M)
      have := h3 o
      omega
    · exact h3 q
  · have e : g_wn M (g_qu M (60 * o)) + 1 = x := Option.some.inj q
    have := h7 (g_qu M (60 * o))
    omega
theorem qs_mgr {M : MSt} {o : Nat} (h : 0 < g_qs M o) : g_qs (mgr M o) o < g_qs M o := by
  show va_up (g_qs M) o _ o < g_qs M o
  unfold va_up
  rw [if_pos rfl]
  have := lqF_drop (t := g_qu M (60 * o)) (g_qs M o) (60 * o) (60 * o) (g_qu M) rfl h
  omega
theorem WM_msF {o : Nat} : ∀ (f g : Nat) (M : MSt), WM M → WM (msF o f g M).1 := by
  intro f
  induction f with
  | zero => intro g M h; exact h
  | succ f ih =>
    intro g M h
    unfold msF
    split
    · exact ih _ _ (WM_mgr h o)
    · exact h
theorem WM_ms {M : MSt} (h : WM M) (o : Nat) : WM (ms M o).1 := WM_msF _ _ _ h
