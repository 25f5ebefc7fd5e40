/-! PURE: stretches of arrays as lists -/
def lst (l : Nat → Nat) : Nat → Nat → List Nat
  | _, 0 => []
  | i, k + 1 => l i :: lst l (i + 1) k
theorem lst_len {l : Nat → Nat} : ∀ (k i : Nat), (lst l i k).length = k := by
  intro k
  induction k with
  | zero => intro i; rfl
  | succ k ih => intro i; show (lst l (i + 1) k).length + 1 = k + 1; rw [ih]
theorem lst_app {l : Nat → Nat} {b : Nat} : ∀ (a i : Nat), lst l i (a + b) = lst l i a ++ lst l (i + a) b := by
  intro a
  induction a with
  | zero => intro i; rw [Nat.zero_add]; rfl
  | succ a ih =>
    intro i
    rw [Nat.succ_add]
    show l i :: lst l (i + 1) (a + b) = l i :: (lst l (i + 1) a ++ lst l (i + (a + 1)) b)
    rw [ih, show i + 1 + a = i + (a + 1) by omega]
theorem lst_congr {l l' : Nat → Nat} : ∀ (k i : Nat), (∀ x, i ≤ x → x < i + k → l x = l' x) → lst l i k = lst l' i k := by
  intro k
  induction k with
  | zero => intro i _; rfl
  | succ k ih =>
    intro i h
    show l i :: lst l (i + 1) k = l' i :: lst l' (i + 1) k
    rw [h i (by omega) (by omega), ih (i + 1) (fun x h1 h2 => h x (by omega) (by omega))]
theorem lst_mem {l : Nat → Nat} {u : Nat} : ∀ (k i : Nat), u ∈ lst l i k ↔ ∃ j, j < k ∧ l (i + j) = u := by
  intro k
  induction k with
  | zero => intro i; exact ⟨fun h => (nomatch h), fun ⟨j, h, _⟩ => absurd h (by omega)⟩
  | succ k ih =>
    intro i
    show u ∈ l i :: lst l (i + 1) k ↔ _
    rw [List.mem_cons, ih]
    constructor
    · rintro (h | ⟨j, h, e⟩)
      · exact ⟨0, by omega, h.symm⟩
      · exact ⟨j + 1, by omega, by rw [← e]; congr 1; omega⟩
    · rintro ⟨j, h, e⟩
      cases j with
      | zero => exact Or.inl e.symm
      | succ j => exact Or.inr ⟨j, by omega, by rw [← e]; congr 1; omega⟩
theorem lst_get {l : Nat → Nat} : ∀ (k i j : Nat), (lst l i k)[j]? = if j < k then some (l (i + j)) else none := by
  intro k
  induction k with
  | zero => intro i j; simp [lst]
  | succ k ih =>
    intro i j
    cases j with
    | zero => simp [lst]
    | succ j => simp only [lst, List.getElem?_cons_succ, ih]; rw [show i + 1 + j = i + (j + 1) by omega]; simp
theorem lqF_lst {t : Nat} : ∀ (f i j : Nat) (l : Nat → Nat), j ≤ i → (∀ x, x < j → (lqF t f i j l).1 x = l x) ∧ (∀ x, i + f ≤ x → (lqF t f i j l).1 x = l x) ∧ (lqF t f i j l).2 = j + ((lst l i f).filter (fun u => decide (u ≠ t))).length ∧ lst (lqF t f i j l).1 j ((lqF t f i j l).2 - j) = (lst l i f).filter (fun u => decide (u ≠ t)) := by
  intro f
  induction f with
  | zero =>
    intro i j l h
    refine ⟨fun x _ => rfl, fun x _ => rfl, rfl, ?_⟩
    show lst l j (j - j) = []
    rw [Nat.sub_self]; rfl
  | succ f ih =>
    intro i j l h
    unfold lqF
    by_cases e : l i = t
    · rw [if_pos e]
      obtain ⟨h1, h2, h3, h4⟩ := ih (i + 1) j l (by omega)
      have e2 : (lst l i (f + 1)).filter (fun u => decide (u ≠ t)) = (lst l (i + 1) f).filter (fun u => decide (u ≠ t)) := by
        show (l i :: lst l (i + 1) f).filter _ = _
        rw [List.filter_cons_of_neg (by simp [e])]
      rw [e2]
      exact ⟨h1, fun x hx => h2 x (by omega), h3, h4⟩
    · rw [if_neg e]
      obtain ⟨h1, h2, h3, h4⟩ := ih (i + 1) (j + 1) (va_up l j (l i)) (by omega)
      have e3 : lst (va_up l j (l i)) (i + 1) f = lst l (i + 1) f := lst_congr _ _ (fun x hx _ => va_up_ne _ _ (by omega))
      have e2 : (lst l i (f + 1)).filter (fun u => decide (u ≠ t)) = l i :: (lst l (i + 1) f).filter (fun u => decide (u ≠ t)) := by
        show (l i :: lst l (i + 1) f).filter _ = _
        rw [List.filter_cons_of_pos (by simp [e])]
      rw [e3] at h3 h4
      refine ⟨fun x hx => ?_, fun x hx => ?_, ?_, ?_⟩
      · rw [h1 x (by omega)]; exact va_up_ne _ _ (by omega)
      · rw [h2 x (by omega)]; exact va_up_ne _ _ (by omega)
      · rw [h3, e2, List.length_cons]; omega
      · rw [e2, ← h4]
        obtain ⟨c, hc⟩ : ∃ c, (lqF t f (i + 1) (j + 1) (va_up l j (l i))).2 = j + 1 + c := ⟨_, h3⟩
        rw [hc, show j + 1 + c - j = c + 1 by omega, show j + 1 + c - (j + 1) = c by omega]
        show _ :: lst _ (j + 1) c = _
        rw [h1 j (by omega), va_up_self]
theorem shF_at {x : Nat} : ∀ (f i : Nat) (l : Nat → Nat), f ≤ i → shF f i l x = if i - f < x ∧ x ≤ i then l (x - 1) else l x := by
  intro f
  induction f with
  | zero => intro i l h; rw [if_neg (by omega)]; rfl
  | succ f ih =>
    intro i l h
    show shF f (i - 1) (va_up l i (l (i - 1))) x = _
    rw [ih (i - 1) _ (by omega)]
    by_cases e : x = i
    · subst e
      rw [if_neg (by omega), if_pos (by omega), va_up_self]
    · rw [va_up_ne _ _ e]
      by_cases e2 : i - 1 - f < x ∧ x ≤ i - 1
      · rw [if_pos e2, if_pos (by omega), va_up_ne _ _ (by omega)]
      · rw [if_neg e2, if_neg (by omega)]
/-- one put into the line at p -/
theorem shF_lst {l : Nat → Nat} {k p t : Nat} (h : p ≤ k) : lst (va_up (shF (k - p) k l) p t) 0 (k + 1) = lst l 0 p ++ t :: lst l p (k - p) := by
  have e : k + 1 = p + (1 + (k - p)) := by omega
  rw [e, lst_app, lst_app, Nat.zero_add]
  have a1 : lst (va_up (shF (k - p) k l) p t) 0 p = lst l 0 p := lst_congr _ _ (fun x _ hx => by rw [va_up_ne _ _ (by omega), shF_at _ _ _ (by omega), if_neg (by omega)])
  have a2 : lst (va_up (shF (k - p) k l) p t) p 1 = [t] := by show [va_up _ p t p] = [t]; rw [va_up_self]
  have a3 : ∀ (c b : Nat), p ≤ b → b + c ≤ k → lst (va_up (shF (k - p) k l) p t) (b + 1) c = lst l b c := by
    intro c
    induction c with
    | zero => intro b _ _; rfl
    | succ c ih =>
      intro b h1 h2
      show _ :: lst _ (b + 1 + 1) c = l b :: lst l (b + 1) c
      rw [ih (b + 1) (by omega) (by omega), va_up_ne _ _ (by omega), shF_at _ _ _ (by omega), if_pos (by omega), Nat.add_sub_cancel]
  rw [a1, a2, a3 (k - p) p (Nat.le_refl _) (by omega)]
  rfl
theorem eqF_lst {cv : Nat → Bool} {t o : Nat} : ∀ (a : Nat) (q : Nat → Nat), (∀ x, x < 60 * o ∨ 60 * o + a < x → eqF cv t o a q x = q x) ∧ ∃ A B, lst q (60 * o) a = A ++ B ∧ lst (eqF cv t o a q) (60 * o) (a + 1) = A ++ t :: B ∧ (∀ u, u ∈ B → cv t = true ∧ cv u = false) ∧ (A = [] ∨ ∃ A' v, A = A' ++ [v] ∧ ¬ (cv t = true ∧ cv v = false)) := by
  intro a
  induction a with
  | zero =>
    intro q
    refine ⟨fun x hx => ?_, [], [], rfl, ?_, (fun u h => (nomatch h)), Or.inl rfl⟩
    · show va_up q (60 * o) t x = q x
      exact va_up_ne _ _ (by omega)
    · show [va_up q (60 * o) t (60 * o)] = [t]
      rw [va_up_self]
  | succ a ih =>
    intro q
    unfold eqF
    by_cases e : cv t = true ∧ cv (q (60 * o + a)) = false
    · rw [if_pos e]
      obtain ⟨h0, A, B, h1, h2, h3, h4⟩ := ih (va_up q (60 * o + (a + 1)) (q (60 * o + a)))
      have e1 : lst (va_up q (60 * o + (a + 1)) (q (60 * o + a))) (60 * o) a = lst q (60 * o) a := lst_congr _ _ (fun x _ hx => va_up_ne _ _ (by omega))
      have e2 : lst q (60 * o) (a + 1) = lst q (60 * o) a ++ [q (60 * o + a)] := lst_app a _
      refine ⟨fun x hx => ?_, A, B ++ [q (60 * o + a)], ?_, ?_, ?_, h4⟩
      · rw [h0 x (by omega)]; exact va_up_ne _ _ (by omega)
      · rw [e2, ← e1, h1, List.append_assoc]
      · rw [lst_app (a + 1), h2]
        have : lst (eqF cv t o a (va_up q (60 * o + (a + 1)) (q (60 * o + a)))) (60 * o + (a + 1)) 1 = [q (60 * o + a)] := by
          show [_] = _
          rw [h0 _ (by omega), va_up_self]
        rw [this, List.append_assoc]; rfl
      · intro u hu
        rcases List.mem_append.mp hu with hu | hu
        · exact h3 u hu
        · rw [List.mem_singleton] at hu; subst hu; exact e
    · rw [if_neg e]
      refine ⟨fun x hx => va_up_ne _ _ (by omega), lst q (60 * o) (a + 1), [], (List.append_nil _).symm, ?_, (fun u h => (nomatch h)), Or.inr ⟨lst q (60 * o) a, q (60 * o + a), lst_app a _, e⟩⟩
      rw [lst_app (a + 1)]
      have : lst (va_up q (60 * o + (a + 1)) t) (60 * o + (a + 1)) 1 = [t] := by show [va_up q _ t _] = _; rw [va_up_self]
      rw [this]
      congr 1
      exact lst_congr _ _ (fun x _ hx => va_up_ne _ _ (by omega))
theorem iqF_neg {aw : Nat → Option Nat} {la : Nat → Nat} {o : Nat} {x : Int32} (hx : x < 0) : ∀ (f j q : Nat), q + f < 2 ^ 31 → iqF aw la o x f j q = none := by
  intro f
  induction f with
  | zero => intro j q _; rfl
  | succ f ih =>
    intro j q h
    unfold iqF
    have hne : ¬ nI q = x := fun e => nI_pos (n := q) (by omega) (by rw [e]; exact hx)
    rw [if_neg hne, ih _ _ (by omega), ih _ _ (by omega)]
    simp
theorem iqF_lst {aw : Nat → Option Nat} {la : Nat → Nat} {o p : Nat} (hp : p < 2 ^ 31) : ∀ (f j q : Nat), q ≤ p → q + f < 2 ^ 31 → iqF aw la o (nI p) f j q = ((lst la j f).filter (fun u => decide (aw u = some o)))[p - q]? := by
  intro f
  induction f with
  | zero => intro j q _ _; simp [lst, iqF]
  | succ f ih =>
    intro j q h1 h2
    unfold iqF
    show _ = ((la j :: lst la (j + 1) f).filter _)[p - q]?
    by_cases e : aw (la j) = some o
    · rw [if_pos e, List.filter_cons_of_pos (by simp [e])]
      by_cases e2 : q = p
      · subst e2; rw [if_pos rfl, Nat.sub_self]; rfl
      · rw [if_neg (fun h => e2 ((nI_eq (by omega) hp).mp h)), ih _ _ (by omega) (by omega)]
        rw [show p - q = (p - (q + 1)) + 1 by omega, List.getElem?_cons_succ]
    · rw [if_neg e, List.filter_cons_of_neg (by simp [e]), ih _ _ h1 (by omega)]
theorem pnF_at {aw : Nat → Option Nat} {ha : Nat → Int64} {la : Nat → Nat} {o : Nat} : ∀ (f i : Nat), i ≤ pnF aw ha la o f i ∧ pnF aw ha la o f i ≤ i + f ∧ (∀ j, i ≤ j → j < pnF aw ha la o f i → ¬ (aw (la j) = some o ∧ hm ha (la j) o = none)) ∧ (pnF aw ha la o f i < i + f → aw (la (pnF aw ha la o f i)) = some o ∧ hm ha (la (pnF aw ha la o f i)) o = none) := by
  intro f
  induction f with
  | zero => intro i; exact ⟨Nat.le_refl _, Nat.le_refl _, fun j h1 h2 => absurd h2 (by show ¬ j < i; omega), fun h => absurd h (by show ¬ i < i + 0; omega)⟩
  | succ f ih =>
    intro i
    unfold pnF
    by_cases e : aw (la i) = some o ∧ hm ha (la i) o = none
    · rw [if_pos e]
      exact ⟨Nat.le_refl _, by omega, fun j h1 h2 => absurd h2 (by omega), fun _ => e⟩
    · rw [if_neg e]
      obtain ⟨h1, h2, h3, h4⟩ := ih (i + 1)
      refine ⟨by omega, by omega, fun j g1 g2 => ?_, fun g => h4 (by omega)⟩
      by_cases ej : j = i
      · rw [ej]; exact e
      · exact h3 j (by omega) g2
theorem nd_len : ∀ (n : Nat) (l : List Nat), l.Nodup → (∀ x, x ∈ l → x < n) → l.length ≤ n := by
  intro n
  induction n with
  | zero =>
    intro l _ h
    cases l with
    | nil => exact Nat.le_refl _
    | cons a l => exact absurd (h a (List.mem_cons_self ..)) (by omega)
  | succ n ih =>
    intro l hd h
    by_cases e : n ∈ l
    · have h1 := ih (l.erase n) (hd.erase n) (fun x hx => by
        have := (List.Nodup.mem_erase_iff hd).mp hx
        have := h x this.2
        omega)
      have := List.length_erase_of_mem e
      omega
    · have := ih l hd (fun x hx => by
        have := h x hx
        have : x ≠ n := fun q => e (q ▸ hx)
        omega)
      omega
theorem nd_lt {n t : Nat} {l : List Nat} (hd : l.Nodup) (h : ∀ x, x ∈ l → x < n) (ht : t < n) (hn : ¬ t ∈ l) : l.length < n := by
  have := nd_len n (t :: l) (List.nodup_cons.mpr ⟨hn, hd⟩) (fun x hx => by
    rcases List.mem_cons.mp hx with e | e
    · rw [e]; exact ht
    · exact h x e)
  rw [List.length_cons] at this
  omega
theorem sp_uniq {p : Nat → Bool} {A B A' B' : List Nat} (h : A ++ B = A' ++ B') (h1 : ∀ u, u ∈ A → p u = true) (h2 : ∀ u, u ∈ B → p u = false) (h3 : ∀ u, u ∈ A' → p u = true) (h4 : ∀ u, u ∈ B' → p u = false) : A = A' ∧ B = B' := by
  have f : ∀ X Y : List Nat, (∀ u, u ∈ X → p u = true) → (∀ u, u ∈ Y → p u = false) → (X ++ Y).filter p = X := by
    intro X Y hx hy
    rw [List.filter_append, List.filter_eq_self.mpr hx, List.filter_eq_nil_iff.mpr (fun u hu => by rw [hy u hu]; simp), List.append_nil]
  have e : A = A' := by rw [← f A B h1 h2, h, f A' B' h3 h4]
  subst e
  exact ⟨rfl, List.append_cancel_left h⟩
