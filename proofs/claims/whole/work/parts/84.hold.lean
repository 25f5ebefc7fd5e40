/-! PURE: who holds what, on both sides -/
def Kh (M : MSt) (o u : Nat) : Option Nat := hv (g_he M (60 * o + u))
def HB (S : LSt) (M : MSt) (o : Nat) : Prop := ∀ m u, m < 5 → lb (s_ha S (o * 5 + m)) u = decide (u < g_n M ∧ g_he M (60 * o + u) = some (m + 1))
def gt (a b : Nat) : Bool := gTI (nI a) (nI b)
theorem gt_sym : ∀ a, a < 5 → ∀ b, b < 5 → gt a b = gt b a := by decide +kernel
theorem gt_tg : ∀ a, a < 5 → ∀ b, b < 5 → tgI (nI a) (nI b) = gt a b := by decide +kernel
theorem gt_up : ∀ a, a < 5 → ∀ m, m < 5 → ∀ b, b < 5 → gt a b = false → gt (lub (some a) m) b = false := by decide +kernel
theorem hv_some {x : Option Nat} {m : Nat} : hv x = some m ↔ x = some (m + 1) := by
  cases x with
  | none => exact ⟨fun h => (nomatch h), fun h => (nomatch h)⟩
  | some y =>
    cases y with
    | zero => exact ⟨fun h => (nomatch h), fun h => by cases h⟩
    | succ y => exact ⟨fun h => by cases h; rfl, fun h => by cases h; rfl⟩
theorem hv_none {x : Option Nat} (h : ¬ x = none) : hv x = none ↔ x = some 0 := by
  cases x with
  | none => exact absurd rfl h
  | some y =>
    cases y with
    | zero => exact ⟨fun _ => rfl, fun _ => rfl⟩
    | succ y => exact ⟨fun h => (nomatch h), fun h => by cases h⟩
theorem Kh_lt {M : MSt} (h : WM M) {o u m : Nat} (hk : Kh M o u = some m) : m < 5 := hv_lt (h.2.2.2.2.2.2.2 _) m hk
theorem md_K {M : MSt} (h : WM M) (o u : Nat) : (mdI (g_he M) u o < 0 ↔ Kh M o u = none) ∧ ∀ m, Kh M o u = some m → mdI (g_he M) u o = nI m := by
  unfold Kh mdI
  cases e : g_he M (60 * o + u) with
  | none => exact ⟨⟨fun _ => rfl, fun _ => by decide⟩, fun m q => (nomatch q)⟩
  | some y =>
    have hy := h.2.2.2.2.2.2.2 _ y e
    have key : ∀ y, y < 6 → (oI (some y) - nI 1 < 0 ↔ hv (some y) = none) ∧ ∀ m, m < 6 → hv (some y) = some m → oI (some y) - nI 1 = nI m := by decide +kernel
    refine ⟨(key y hy).1, fun m q => (key y hy).2 m ?_ q⟩
    have := hv_some.mp q
    cases this
    omega
theorem HB_K {S : LSt} {M : MSt} {o : Nat} (h : HB S M o) {m u : Nat} (hm : m < 5) : lb (s_ha S (o * 5 + m)) u = true ↔ u < g_n M ∧ Kh M o u = some m := by
  rw [h m u hm, decide_eq_true_iff]
  unfold Kh
  rw [hv_some]
theorem hm_eq {ha : Nat → Int64} {u o : Nat} {x : Option Nat} (hx : ∀ m, x = some m → m < 5) (h : ∀ m, m < 5 → (lb (ha (o * 5 + m)) u = true ↔ x = some m)) : hm ha u o = x := by
  have q : ∀ m, m < 5 → lb (ha (o * 5 + m)) u = decide (x = some m) := fun m hm => by
    rw [Bool.eq_iff_iff, h m hm, decide_eq_true_iff]
  unfold hm hmF
  rw [q 0 (by omega)]
  unfold hmF
  rw [q 1 (by omega)]
  unfold hmF
  rw [q 2 (by omega)]
  unfold hmF
  rw [q 3 (by omega)]
  unfold hmF
  rw [q 4 (by omega)]
  unfold hmF
  cases x with
  | none => rfl
  | some m =>
    have := hx m rfl
    match m, this with
    | 0, _ => rfl
    | 1, _ => rfl
    | 2, _ => rfl
    | 3, _ => rfl
    | 4, _ => rfl
theorem hm_K {S : LSt} {M : MSt} {o u : Nat} (h : HB S M o) (hM : WM M) (hu : u < g_n M) : hm (s_ha S) u o = Kh M o u :=
  hm_eq (fun m q => Kh_lt hM q) (fun m hm => by rw [HB_K h hm]; exact ⟨fun q => q.2, fun q => ⟨hu, q⟩⟩)
theorem lb_nbit {t i : Nat} (ht : t < 64) (hi : i < 64) : lb (lbit t ^^^ (-1)) i = !decide (i = t) := by rw [lb_not _ hi, lb_bit ht]
theorem owF_lb {ha : Nat → Int64} {o u : Nat} {x : Int32} : ∀ (f h : Nat) (a : Int64), lb (owF ha o x f h a) u = true ↔ lb a u = true ∨ ∃ m, h ≤ m ∧ m < h + f ∧ gTI (nI m) x = false ∧ lb (ha (o * 5 + m)) u = true := by
  intro f
  induction f with
  | zero => intro h a; exact ⟨fun q => Or.inl q, fun q => q.elim id (fun ⟨m, h1, h2, _⟩ => absurd h2 (by omega))⟩
  | succ f ih =>
    intro h a
    unfold owF
    rw [ih]
    constructor
    · rintro (q | ⟨m, h1, h2, h3⟩)
      · by_cases e : gTI (nI h) x = true
        · rw [if_pos e] at q; exact Or.inl q
        · rw [if_neg e, lb_or, Bool.or_eq_true] at q
          rcases q with q | q
          · exact Or.inl q
          · exact Or.inr ⟨h, Nat.le_refl _, by omega, by simpa using e, q⟩
      · exact Or.inr ⟨m, by omega, by omega, h3⟩
    · rintro (q | ⟨m, h1, h2, h3, h4⟩)
      · refine Or.inl ?_
        split
        · exact q
        · rw [lb_or, q]; rfl
      · by_cases e : m = h
        · subst e
          refine Or.inl ?_
          rw [if_neg (by simp [h3]), lb_or, h4, Bool.or_true]
        · exact Or.inr ⟨m, by omega, by omega, h3, h4⟩
/-- those in t's way at o -/
def Wy (M : MSt) (t o w u : Nat) : Prop := u < g_n M ∧ u ≠ t ∧ ∃ m, Kh M o u = some m ∧ gt m w = false
theorem ow_lb {S : LSt} {M : MSt} {t o w u : Nat} (h : HB S M o) (hM : WM M) (ht : t < 64) (hu : u < 64) : lb (ow (s_ha S) t o (nI w)) u = true ↔ Wy M t o w u := by
  unfold ow Wy
  rw [lb_and, Bool.and_eq_true, owF_lb, lb_nbit ht hu, lb_0]
  simp only [Bool.not_eq_true', decide_eq_false_iff_not, Bool.false_eq_true, false_or]
  constructor
  · rintro ⟨⟨m, -, h2, h3, h4⟩, h5⟩
    have h6 := (HB_K h (by omega)).mp h4
    exact ⟨h6.1, h5, m, h6.2, h3⟩
  · rintro ⟨h1, h2, m, h3, h4⟩
    have h5 := Kh_lt hM h3
    exact ⟨⟨m, by omega, by omega, h4, (HB_K h h5).mpr ⟨h1, h3⟩⟩, h2⟩
theorem ow_0 {S : LSt} {M : MSt} {t o w : Nat} (h : HB S M o) (hM : WM M) (ht : t < 64) : ow (s_ha S) t o (nI w) = 0 ↔ ∀ u, ¬ Wy M t o w u := by
  constructor
  · intro e u hu
    have hn : u < 64 := by have := hu.1; have := hM.1; omega
    have := (ow_lb h hM ht hn).mpr hu
    rw [e, lb_0] at this
    cases this
  · intro q
    refine lb_eq0 (fun i hi => ?_)
    rw [Bool.eq_false_iff]
    exact fun e => q i ((ow_lb h hM ht hi).mp e)
theorem mcF_lb {he : Nat → Option Nat} {t o v : Nat} {x : Int32} (hv : v < 64) : ∀ (f u : Nat) (a : Int64), u + f ≤ 64 → (lb (mcF he t o x f u a) v = true ↔ lb a v = true ∨ (u ≤ v ∧ v < u + f ∧ v ≠ t ∧ ¬ mdI he v o < 0 ∧ tgI (mdI he v o) x = false)) := by
  intro f
  induction f with
  | zero => intro u a _; exact ⟨fun q => Or.inl q, fun q => q.elim id (fun ⟨h1, h2, _⟩ => absurd h2 (by omega))⟩
  | succ f ih =>
    intro u a hu
    unfold mcF
    rw [ih _ _ (by omega)]
    constructor
    · rintro (q | ⟨h1, h2, h3⟩)
      · by_cases e : ¬ u = t ∧ ¬ mdI he u o < 0 ∧ tgI (mdI he u o) x = false
        · rw [if_pos e, lb_or, Bool.or_eq_true, lb_bit (by omega), decide_eq_true_iff] at q
          rcases q with q | q
          · exact Or.inl q
          · subst q; exact Or.inr ⟨Nat.le_refl _, by omega, e⟩
        · rw [if_neg e] at q; exact Or.inl q
      · exact Or.inr ⟨by omega, by omega, h3⟩
    · rintro (q | ⟨h1, h2, h3⟩)
      · refine Or.inl ?_
        split
        · rw [lb_or, q]; rfl
        · exact q
      · by_cases e : v = u
        · subst e
          refine Or.inl ?_
          rw [if_pos h3, lb_or, lb_bit (by omega)]
          simp
        · exact Or.inr ⟨by omega, by omega, h3⟩
theorem md_Wy {M : MSt} (hM : WM M) {t o w v : Nat} (hw : w < 5) : (v < g_n M ∧ v ≠ t ∧ ¬ mdI (g_he M) v o < 0 ∧ tgI (mdI (g_he M) v o) (nI w) = false) ↔ Wy M t o w v := by
  obtain ⟨h1, h2⟩ := md_K hM o v
  unfold Wy
  cases e : Kh M o v with
  | none =>
    constructor
    · rintro ⟨-, -, q, -⟩; exact absurd (h1.mpr e) q
    · rintro ⟨-, -, m, q, -⟩; cases q
  | some m =>
    have hm := Kh_lt hM e
    rw [h2 m e, gt_tg m hm w hw]
    constructor
    · rintro ⟨a, b, -, d⟩; exact ⟨a, b, m, rfl, d⟩
    · rintro ⟨a, b, m', c, d⟩
      cases c
      exact ⟨a, b, nI_pos (by omega), d⟩
theorem mc_lb {M : MSt} (hM : WM M) {t o w v : Nat} (hw : w < 5) (hv : v < 64) : lb (mcF (g_he M) t o (nI w) (g_n M) 0 0) v = true ↔ Wy M t o w v := by
  have hn := hM.1
  rw [mcF_lb hv _ _ _ (by omega), lb_0, ← md_Wy hM hw]
  simp
theorem ftF_iff {he : Nat → Option Nat} {t o : Nat} {x : Int32} : ∀ (f u : Nat) (b : Bool), ftF he t o x f u b = true ↔ b = true ∧ ∀ v, u ≤ v → v < u + f → v = t ∨ mdI he v o < 0 ∨ tgI (mdI he v o) x = true := by
  intro f
  induction f with
  | zero => intro u b; exact ⟨fun q => ⟨q, fun v h1 h2 => absurd h2 (by omega)⟩, fun q => q.1⟩
  | succ f ih =>
    intro u b
    unfold ftF
    rw [ih]
    simp only [Bool.and_eq_true, Bool.or_eq_true, decide_eq_true_iff]
    constructor
    · rintro ⟨⟨h1, h2⟩, h3⟩
      refine ⟨h1, fun v g1 g2 => ?_⟩
      by_cases e : v = u
      · subst e; exact h2
      · exact h3 v (by omega) (by omega)
    · rintro ⟨h1, h3⟩
      exact ⟨⟨h1, h3 u (Nat.le_refl _) (by omega)⟩, fun v g1 g2 => h3 v (by omega) (by omega)⟩
theorem ft_W {M : MSt} (hM : WM M) {t o w : Nat} (hw : w < 5) : ftF (g_he M) t o (nI w) (g_n M) 0 true = true ↔ ∀ u, ¬ Wy M t o w u := by
  rw [ftF_iff]
  constructor
  · rintro ⟨-, h⟩ u hu
    obtain ⟨h1, h2, h3, h4⟩ := (md_Wy hM hw).mpr hu
    rcases h u (by omega) (by omega) with q | q | q
    · exact h2 q
    · exact h3 q
    · rw [h4] at q; cases q
  · intro h
    refine ⟨rfl, fun v _ hv => ?_⟩
    by_cases e1 : v = t
    · exact Or.inl e1
    · by_cases e2 : mdI (g_he M) v o < 0
      · exact Or.inr (Or.inl e2)
      · refine Or.inr (Or.inr ?_)
        cases e3 : tgI (mdI (g_he M) v o) (nI w) with
        | true => rfl
        | false => exact absurd ((md_Wy hM hw).mp ⟨by omega, e1, e2, e3⟩) (h v)
theorem fit_ow {S : LSt} {M : MSt} {t o w : Nat} (h : HB S M o) (hM : WM M) (ht : t < 64) (hw : w < 5) : ow (s_ha S) t o (nI w) = 0 ↔ ftF (g_he M) t o (nI w) (g_n M) 0 true = true := by
  rw [ow_0 h hM ht, ft_W hM hw]
